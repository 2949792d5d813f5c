/-! constructors, every one with its things' numbers -/
theorem kw_ch {ad ad1 ad2 : Nat → Nat} {l1 l2 : List Nat} (h1 : ∀ q, q ∉ l1 → ad1 q = ad q) (h2 : ∀ q, q ∉ l2 → ad2 q = ad1 q) : ∀ q, q ∉ l1 ++ l2 → ad2 q = ad q := fun q hq => (h2 q (fun h => hq (List.mem_append_right _ h))).trans (h1 q (fun h => hq (List.mem_append_left _ h)))
theorem kw_lz {l : List Nat} : ∀ r, some (Value.ref r) ∈ ([] : List (Option Value)) → r ∉ l := fun _ h => nomatch h
theorem kw_ln {l : List Nat} {L : List (Option Value)} (h : ∀ r, some (Value.ref r) ∈ L → r ∉ l) : ∀ r, some (Value.ref r) ∈ (none :: L) → r ∉ l := fun r z => (List.mem_cons.mp z).elim (fun e => nomatch e) (h r)
theorem kw_li {l : List Nat} {L : List (Option Value)} {v : Int32} (h : ∀ r, some (Value.ref r) ∈ L → r ∉ l) : ∀ r, some (Value.ref r) ∈ (some (.int v) :: L) → r ∉ l := fun r z => (List.mem_cons.mp z).elim (fun e => nomatch e) (h r)
theorem kw_ll {l : List Nat} {L : List (Option Value)} {v : Int64} (h : ∀ r, some (Value.ref r) ∈ L → r ∉ l) : ∀ r, some (Value.ref r) ∈ (some (.long v) :: L) → r ∉ l := fun r z => (List.mem_cons.mp z).elim (fun e => nomatch e) (h r)
theorem kw_lr {l : List Nat} {L : List (Option Value)} {o : Nat} (ho : o ∉ l) (h : ∀ r, some (Value.ref r) ∈ L → r ∉ l) : ∀ r, some (Value.ref r) ∈ (some (.ref o) :: L) → r ∉ l := fun r z => (List.mem_cons.mp z).elim (fun e => by cases e; exact ho) (h r)
theorem kw_sz {l : List Nat} : ∀ r, Value.ref r ∈ ([] : List Value) → r ∉ l := fun _ h => nomatch h
theorem kw_si {l : List Nat} {L : List Value} {v : Int32} (h : ∀ r, Value.ref r ∈ L → r ∉ l) : ∀ r, Value.ref r ∈ (.int v :: L) → r ∉ l := fun r z => (List.mem_cons.mp z).elim (fun e => nomatch e) (h r)
theorem kw_sl {l : List Nat} {L : List Value} {v : Int64} (h : ∀ r, Value.ref r ∈ L → r ∉ l) : ∀ r, Value.ref r ∈ (.long v :: L) → r ∉ l := fun r z => (List.mem_cons.mp z).elim (fun e => nomatch e) (h r)
theorem kw_sr9 {l : List Nat} {L : List Value} {o : Nat} (ho : o ∉ l) (h : ∀ r, Value.ref r ∈ L → r ∉ l) : ∀ r, Value.ref r ∈ (.ref o :: L) → r ∉ l := fun r z => (List.mem_cons.mp z).elim (fun e => by cases e; exact ho) (h r)
theorem kw_fresh {o : Nat} {ids x : List Nat} (h : o ∉ ids) (hx : o ∉ x) : o ∉ ids ++ x := fun z => (List.mem_append.mp z).elim h hx
theorem ob_i : Cond.instanceMethod Lib.objectInit ∈ kw_Ts := (kw_m1 (i := 29) (by decide +kernel) (by decide +kernel))
theorem ob_c : Cond.code Lib.objectInit ⟨#[0xb1]⟩ 1 none ∈ kw_Ts := (kw_m1 (i := 30) (by decide +kernel) (by decide +kernel))
theorem ob_Tape_1 : Cond.methodLink "PictureFile$Tape" 1 Lib.objectInit ∈ kw_Ts := (kw_m1 (i := 36) (by decide +kernel) (by decide +kernel))
theorem ac_int : Cond.arrayClass .int ∈ kw_Ts := (kw_m1 (i := 58) (by decide +kernel) (by decide +kernel))
theorem mi_Tape_21 : kw_mi "PictureFile$Tape" 21 y_Tape_eightSteps prog_10_method_2_code 3 (some .int) 1 := ⟨(kw_m1 (i := 38) (by decide +kernel) (by decide +kernel)), w_Tape_eightSteps, in_Tape, by decide +kernel, by decide +kernel, by decide +kernel⟩
theorem s_Tape_eightSteps : Cond.static y_Tape_eightSteps ∈ kw_Ts := (kw_m1 (i := 39) (by decide +kernel) (by decide +kernel))
def y_Tape_init : MethodName := ⟨"PictureFile$Tape", "<init>", "()V"⟩
theorem w_Tape_init : Cond.code y_Tape_init prog_10_method_1_code 2 none ∈ kw_Ts := (kw_m1 (i := 35) (by decide +kernel) (by decide +kernel))
theorem ob_Fault_3 : Cond.methodLink "PictureFile$Fault" 3 Lib.objectInit ∈ kw_Ts := (kw_m1 (i := 64) (by decide +kernel) (by decide +kernel))
def y_Fault_init : MethodName := ⟨"PictureFile$Fault", "<init>", "()V"⟩
theorem w_Fault_init : Cond.code y_Fault_init prog_3_method_1_code 1 none ∈ kw_Ts := (kw_m1 (i := 63) (by decide +kernel) (by decide +kernel))
theorem ob_Rows_1 : Cond.methodLink "PictureFile$Rows" 1 Lib.objectInit ∈ kw_Ts := (kw_m1 (i := 81) (by decide +kernel) (by decide +kernel))
theorem k_Rows_9 : Cond.constant "PictureFile$Rows" 9 32888 ∈ kw_Ts := (kw_m1 (i := 82) (by decide +kernel) (by decide +kernel))
def y_Rows_init : MethodName := ⟨"PictureFile$Rows", "<init>", "()V"⟩
theorem w_Rows_init : Cond.code y_Rows_init prog_9_method_1_code 1 none ∈ kw_Ts := (kw_m1 (i := 80) (by decide +kernel) (by decide +kernel))
theorem ob_PackedBits_3 : Cond.methodLink "PictureFile$PackedBits" 3 Lib.objectInit ∈ kw_Ts := (kw_m1 (i := 97) (by decide +kernel) (by decide +kernel))
def y_PackedBits_init : MethodName := ⟨"PictureFile$PackedBits", "<init>", "(LPictureFile$Tape;LPictureFile$Fault;)V"⟩
theorem w_PackedBits_init : Cond.code y_PackedBits_init prog_5_method_1_code 3 none ∈ kw_Ts := (kw_m1 (i := 96) (by decide +kernel) (by decide +kernel))
theorem ob_Pieces_3 : Cond.methodLink "PictureFile$Pieces" 3 Lib.objectInit ∈ kw_Ts := (kw_m1 (i := 124) (by decide +kernel) (by decide +kernel))
def y_Pieces_init : MethodName := ⟨"PictureFile$Pieces", "<init>", "(LPictureFile$Tape;LPictureFile$Fault;LPictureFile$PackedBits;)V"⟩
theorem w_Pieces_init : Cond.code y_Pieces_init prog_8_method_1_code 4 none ∈ kw_Ts := (kw_m1 (i := 123) (by decide +kernel) (by decide +kernel))
theorem ob_Codes_1 : Cond.methodLink "PictureFile$Codes" 1 Lib.objectInit ∈ kw_Ts := (kw_m1 (i := 161) (by decide +kernel) (by decide +kernel))
def y_Codes_init : MethodName := ⟨"PictureFile$Codes", "<init>", "()V"⟩
theorem w_Codes_init : Cond.code y_Codes_init prog_2_method_1_code 1 none ∈ kw_Ts := (kw_m1 (i := 160) (by decide +kernel) (by decide +kernel))
theorem ob_Unpacker_5 : Cond.methodLink "PictureFile$Unpacker" 5 Lib.objectInit ∈ kw_Ts := (kw_m1 (i := 155) (by decide +kernel) (by decide +kernel))
theorem nj_Unpacker_11 : kw_nj "PictureFile$Unpacker" 11 7 := ⟨mmR_7, mmT_7, 5, rfl, rfl, mmI_7, mmY_7, by decide +kernel, (kw_m1 (i := 156) (by decide +kernel) (by decide +kernel)), (kw_m1 (i := 157) (by decide +kernel) (by decide +kernel)), in_Codes⟩
theorem li_Unpacker_13 : Cond.methodLink "PictureFile$Unpacker" 13 y_Codes_init ∈ kw_Ts ∨ ∃ host, Cond.methodLinkNest "PictureFile$Unpacker" 13 y_Codes_init host ∈ mm_nest := Or.inr ⟨"PictureFile", List.mem_of_getElem? (i := 2) rfl⟩
theorem iv_Codes_init : Cond.instanceMethod y_Codes_init ∈ kw_Ts := (kw_m1 (i := 159) (by decide +kernel) (by decide +kernel))
theorem m4_Codes_init : y_Codes_init.cls ≠ "java/lang/invoke/MethodHandle" ∧ y_Codes_init.cls ≠ "java/lang/invoke/VarHandle" ∧ (parseMethodDescriptor y_Codes_init.desc).map (fun d => d.parameters.length) = some 0 := ⟨by decide +kernel, by decide +kernel, by decide +kernel⟩
theorem fi_Unpacker_48 : kw_fi "PictureFile$Unpacker" 48 3 0 true := ⟨mmR_3, mmT_3, 2, rfl, rfl, by decide, mmI_3, mmY_3, mmN_3, rfl, (kw_m1 (i := 85) (by decide +kernel) (by decide +kernel))⟩
def y_Unpacker_init : MethodName := ⟨"PictureFile$Unpacker", "<init>", "(LPictureFile$PackedBits;LPictureFile$Fault;LPictureFile$Rows;)V"⟩
theorem w_Unpacker_init : Cond.code y_Unpacker_init prog_11_method_1_code 5 none ∈ kw_Ts := (kw_m1 (i := 154) (by decide +kernel) (by decide +kernel))
theorem ob_Packer_3 : Cond.methodLink "PictureFile$Packer" 3 Lib.objectInit ∈ kw_Ts := (kw_m2 (i := 0) (by decide +kernel) (by decide +kernel))
theorem k_Packer_17 : Cond.constant "PictureFile$Packer" 17 32888 ∈ kw_Ts := (kw_m2 (i := 1) (by decide +kernel) (by decide +kernel))
def y_Packer_init : MethodName := ⟨"PictureFile$Packer", "<init>", "(LPictureFile$Tape;[I)V"⟩
theorem w_Packer_init : Cond.code y_Packer_init prog_6_method_1_code 3 none ∈ kw_Ts := (kw_m1 (i := 239) (by decide +kernel) (by decide +kernel))
theorem ob_Writer_1 : Cond.methodLink "PictureFile$Writer" 1 Lib.objectInit ∈ kw_Ts := (kw_m1 (i := 234) (by decide +kernel) (by decide +kernel))
theorem nj_Writer_17 : kw_nj "PictureFile$Writer" 17 9 := ⟨mmR_9, mmT_9, 9, rfl, rfl, mmI_9, mmY_9, by decide +kernel, (kw_m1 (i := 235) (by decide +kernel) (by decide +kernel)), (kw_m1 (i := 236) (by decide +kernel) (by decide +kernel)), in_Packer⟩
theorem fi_Writer_19 : kw_fi "PictureFile$Writer" 19 3 0 true := ⟨mmR_3, mmT_3, 2, rfl, rfl, by decide, mmI_3, mmY_3, mmN_3, rfl, (kw_m1 (i := 84) (by decide +kernel) (by decide +kernel))⟩
theorem li_Writer_25 : Cond.methodLink "PictureFile$Writer" 25 y_Packer_init ∈ kw_Ts ∨ ∃ host, Cond.methodLinkNest "PictureFile$Writer" 25 y_Packer_init host ∈ mm_nest := Or.inl (kw_m1 (i := 237) (by decide +kernel) (by decide +kernel))
theorem iv_Packer_init : Cond.instanceMethod y_Packer_init ∈ kw_Ts := (kw_m1 (i := 238) (by decide +kernel) (by decide +kernel))
theorem m4_Packer_init : y_Packer_init.cls ≠ "java/lang/invoke/MethodHandle" ∧ y_Packer_init.cls ≠ "java/lang/invoke/VarHandle" ∧ (parseMethodDescriptor y_Packer_init.desc).map (fun d => d.parameters.length) = some 2 := ⟨by decide +kernel, by decide +kernel, by decide +kernel⟩
def y_Writer_init : MethodName := ⟨"PictureFile$Writer", "<init>", "(LPictureFile$Tape;LPictureFile$Rows;)V"⟩
theorem w_Writer_init : Cond.code y_Writer_init prog_12_method_1_code 3 none ∈ kw_Ts := (kw_m1 (i := 233) (by decide +kernel) (by decide +kernel))
theorem ob_Layout_3 : Cond.methodLink "PictureFile$Layout" 3 Lib.objectInit ∈ kw_Ts := (kw_m2 (i := 54) (by decide +kernel) (by decide +kernel))
def y_Layout_init : MethodName := ⟨"PictureFile$Layout", "<init>", "()V"⟩
theorem w_Layout_init : Cond.code y_Layout_init prog_4_method_1_code 1 none ∈ kw_Ts := (kw_m2 (i := 53) (by decide +kernel) (by decide +kernel))
theorem ob_Picture_1 : Cond.methodLink "PictureFile$Picture" 1 Lib.objectInit ∈ kw_Ts := (kw_m2 (i := 48) (by decide +kernel) (by decide +kernel))
theorem nj_Picture_19 : kw_nj "PictureFile$Picture" 19 11 := ⟨mmR_11, mmT_11, 10, rfl, rfl, mmI_11, mmY_11, by decide +kernel, (kw_m2 (i := 49) (by decide +kernel) (by decide +kernel)), (kw_m2 (i := 50) (by decide +kernel) (by decide +kernel)), in_Layout⟩
theorem li_Picture_21 : Cond.methodLink "PictureFile$Picture" 21 y_Layout_init ∈ kw_Ts ∨ ∃ host, Cond.methodLinkNest "PictureFile$Picture" 21 y_Layout_init host ∈ mm_nest := Or.inr ⟨"PictureFile", List.mem_of_getElem? (i := 4) rfl⟩
theorem iv_Layout_init : Cond.instanceMethod y_Layout_init ∈ kw_Ts := (kw_m2 (i := 52) (by decide +kernel) (by decide +kernel))
theorem m4_Layout_init : y_Layout_init.cls ≠ "java/lang/invoke/MethodHandle" ∧ y_Layout_init.cls ≠ "java/lang/invoke/VarHandle" ∧ (parseMethodDescriptor y_Layout_init.desc).map (fun d => d.parameters.length) = some 0 := ⟨by decide +kernel, by decide +kernel, by decide +kernel⟩
def y_Picture_init : MethodName := ⟨"PictureFile$Picture", "<init>", "()V"⟩
theorem w_Picture_init : Cond.code y_Picture_init prog_7_method_1_code 1 none ∈ kw_Ts := (kw_m2 (i := 47) (by decide +kernel) (by decide +kernel))
theorem ob_PF_1 : Cond.methodLink "PictureFile" 1 Lib.objectInit ∈ kw_Ts := (kw_m1 (i := 28) (by decide +kernel) (by decide +kernel))
theorem nj_PF_7 : kw_nj "PictureFile" 7 1 := ⟨mmR_1, mmT_1, 3, rfl, rfl, mmI_1, mmY_1, by decide +kernel, (kw_m1 (i := 31) (by decide +kernel) (by decide +kernel)), (kw_m1 (i := 32) (by decide +kernel) (by decide +kernel)), in_Tape⟩
theorem li_PF_9 : Cond.methodLink "PictureFile" 9 y_Tape_init ∈ kw_Ts ∨ ∃ host, Cond.methodLinkNest "PictureFile" 9 y_Tape_init host ∈ mm_nest := Or.inl (kw_m1 (i := 33) (by decide +kernel) (by decide +kernel))
theorem iv_Tape_init : Cond.instanceMethod y_Tape_init ∈ kw_Ts := (kw_m1 (i := 34) (by decide +kernel) (by decide +kernel))
theorem m4_Tape_init : y_Tape_init.cls ≠ "java/lang/invoke/MethodHandle" ∧ y_Tape_init.cls ≠ "java/lang/invoke/VarHandle" ∧ (parseMethodDescriptor y_Tape_init.desc).map (fun d => d.parameters.length) = some 0 := ⟨by decide +kernel, by decide +kernel, by decide +kernel⟩
theorem nj_PF_16 : kw_nj "PictureFile" 16 2 := ⟨mmR_2, mmT_2, 2, rfl, rfl, mmI_2, mmY_2, by decide +kernel, (kw_m1 (i := 59) (by decide +kernel) (by decide +kernel)), (kw_m1 (i := 60) (by decide +kernel) (by decide +kernel)), in_Fault⟩
theorem li_PF_18 : Cond.methodLink "PictureFile" 18 y_Fault_init ∈ kw_Ts ∨ ∃ host, Cond.methodLinkNest "PictureFile" 18 y_Fault_init host ∈ mm_nest := Or.inr ⟨"PictureFile", List.mem_of_getElem? (i := 0) rfl⟩
theorem iv_Fault_init : Cond.instanceMethod y_Fault_init ∈ kw_Ts := (kw_m1 (i := 62) (by decide +kernel) (by decide +kernel))
theorem m4_Fault_init : y_Fault_init.cls ≠ "java/lang/invoke/MethodHandle" ∧ y_Fault_init.cls ≠ "java/lang/invoke/VarHandle" ∧ (parseMethodDescriptor y_Fault_init.desc).map (fun d => d.parameters.length) = some 0 := ⟨by decide +kernel, by decide +kernel, by decide +kernel⟩
theorem nj_PF_23 : kw_nj "PictureFile" 23 3 := ⟨mmR_3, mmT_3, 2, rfl, rfl, mmI_3, mmY_3, by decide +kernel, (kw_m1 (i := 76) (by decide +kernel) (by decide +kernel)), (kw_m1 (i := 77) (by decide +kernel) (by decide +kernel)), in_Rows⟩
theorem li_PF_25 : Cond.methodLink "PictureFile" 25 y_Rows_init ∈ kw_Ts ∨ ∃ host, Cond.methodLinkNest "PictureFile" 25 y_Rows_init host ∈ mm_nest := Or.inr ⟨"PictureFile", List.mem_of_getElem? (i := 1) rfl⟩
theorem iv_Rows_init : Cond.instanceMethod y_Rows_init ∈ kw_Ts := (kw_m1 (i := 79) (by decide +kernel) (by decide +kernel))
theorem m4_Rows_init : y_Rows_init.cls ≠ "java/lang/invoke/MethodHandle" ∧ y_Rows_init.cls ≠ "java/lang/invoke/VarHandle" ∧ (parseMethodDescriptor y_Rows_init.desc).map (fun d => d.parameters.length) = some 0 := ⟨by decide +kernel, by decide +kernel, by decide +kernel⟩
theorem nj_PF_30 : kw_nj "PictureFile" 30 4 := ⟨mmR_4, mmT_4, 6, rfl, rfl, mmI_4, mmY_4, by decide +kernel, (kw_m1 (i := 92) (by decide +kernel) (by decide +kernel)), (kw_m1 (i := 93) (by decide +kernel) (by decide +kernel)), in_PackedBits⟩
theorem li_PF_32 : Cond.methodLink "PictureFile" 32 y_PackedBits_init ∈ kw_Ts ∨ ∃ host, Cond.methodLinkNest "PictureFile" 32 y_PackedBits_init host ∈ mm_nest := Or.inl (kw_m1 (i := 94) (by decide +kernel) (by decide +kernel))
theorem iv_PackedBits_init : Cond.instanceMethod y_PackedBits_init ∈ kw_Ts := (kw_m1 (i := 95) (by decide +kernel) (by decide +kernel))
theorem m4_PackedBits_init : y_PackedBits_init.cls ≠ "java/lang/invoke/MethodHandle" ∧ y_PackedBits_init.cls ≠ "java/lang/invoke/VarHandle" ∧ (parseMethodDescriptor y_PackedBits_init.desc).map (fun d => d.parameters.length) = some 2 := ⟨by decide +kernel, by decide +kernel, by decide +kernel⟩
theorem nj_PF_35 : kw_nj "PictureFile" 35 5 := ⟨mmR_5, mmT_5, 8, rfl, rfl, mmI_5, mmY_5, by decide +kernel, (kw_m1 (i := 119) (by decide +kernel) (by decide +kernel)), (kw_m1 (i := 120) (by decide +kernel) (by decide +kernel)), in_Pieces⟩
theorem li_PF_37 : Cond.methodLink "PictureFile" 37 y_Pieces_init ∈ kw_Ts ∨ ∃ host, Cond.methodLinkNest "PictureFile" 37 y_Pieces_init host ∈ mm_nest := Or.inl (kw_m1 (i := 121) (by decide +kernel) (by decide +kernel))
theorem iv_Pieces_init : Cond.instanceMethod y_Pieces_init ∈ kw_Ts := (kw_m1 (i := 122) (by decide +kernel) (by decide +kernel))
theorem m4_Pieces_init : y_Pieces_init.cls ≠ "java/lang/invoke/MethodHandle" ∧ y_Pieces_init.cls ≠ "java/lang/invoke/VarHandle" ∧ (parseMethodDescriptor y_Pieces_init.desc).map (fun d => d.parameters.length) = some 3 := ⟨by decide +kernel, by decide +kernel, by decide +kernel⟩
theorem nj_PF_44 : kw_nj "PictureFile" 44 6 := ⟨mmR_6, mmT_6, 13, rfl, rfl, mmI_6, mmY_6, by decide +kernel, (kw_m1 (i := 150) (by decide +kernel) (by decide +kernel)), (kw_m1 (i := 151) (by decide +kernel) (by decide +kernel)), in_Unpacker⟩
theorem li_PF_46 : Cond.methodLink "PictureFile" 46 y_Unpacker_init ∈ kw_Ts ∨ ∃ host, Cond.methodLinkNest "PictureFile" 46 y_Unpacker_init host ∈ mm_nest := Or.inl (kw_m1 (i := 152) (by decide +kernel) (by decide +kernel))
theorem iv_Unpacker_init : Cond.instanceMethod y_Unpacker_init ∈ kw_Ts := (kw_m1 (i := 153) (by decide +kernel) (by decide +kernel))
theorem m4_Unpacker_init : y_Unpacker_init.cls ≠ "java/lang/invoke/MethodHandle" ∧ y_Unpacker_init.cls ≠ "java/lang/invoke/VarHandle" ∧ (parseMethodDescriptor y_Unpacker_init.desc).map (fun d => d.parameters.length) = some 3 := ⟨by decide +kernel, by decide +kernel, by decide +kernel⟩
theorem nj_PF_53 : kw_nj "PictureFile" 53 8 := ⟨mmR_8, mmT_8, 4, rfl, rfl, mmI_8, mmY_8, by decide +kernel, (kw_m1 (i := 229) (by decide +kernel) (by decide +kernel)), (kw_m1 (i := 230) (by decide +kernel) (by decide +kernel)), in_Writer⟩
theorem li_PF_55 : Cond.methodLink "PictureFile" 55 y_Writer_init ∈ kw_Ts ∨ ∃ host, Cond.methodLinkNest "PictureFile" 55 y_Writer_init host ∈ mm_nest := Or.inl (kw_m1 (i := 231) (by decide +kernel) (by decide +kernel))
theorem iv_Writer_init : Cond.instanceMethod y_Writer_init ∈ kw_Ts := (kw_m1 (i := 232) (by decide +kernel) (by decide +kernel))
theorem m4_Writer_init : y_Writer_init.cls ≠ "java/lang/invoke/MethodHandle" ∧ y_Writer_init.cls ≠ "java/lang/invoke/VarHandle" ∧ (parseMethodDescriptor y_Writer_init.desc).map (fun d => d.parameters.length) = some 2 := ⟨by decide +kernel, by decide +kernel, by decide +kernel⟩
theorem nj_PF_62 : kw_nj "PictureFile" 62 10 := ⟨mmR_10, mmT_10, 12, rfl, rfl, mmI_10, mmY_10, by decide +kernel, (kw_m2 (i := 43) (by decide +kernel) (by decide +kernel)), (kw_m2 (i := 44) (by decide +kernel) (by decide +kernel)), in_Picture⟩
theorem li_PF_64 : Cond.methodLink "PictureFile" 64 y_Picture_init ∈ kw_Ts ∨ ∃ host, Cond.methodLinkNest "PictureFile" 64 y_Picture_init host ∈ mm_nest := Or.inr ⟨"PictureFile", List.mem_of_getElem? (i := 3) rfl⟩
theorem iv_Picture_init : Cond.instanceMethod y_Picture_init ∈ kw_Ts := (kw_m2 (i := 46) (by decide +kernel) (by decide +kernel))
theorem m4_Picture_init : y_Picture_init.cls ≠ "java/lang/invoke/MethodHandle" ∧ y_Picture_init.cls ≠ "java/lang/invoke/VarHandle" ∧ (parseMethodDescriptor y_Picture_init.desc).map (fun d => d.parameters.length) = some 0 := ⟨by decide +kernel, by decide +kernel, by decide +kernel⟩
def y_PF_init : MethodName := ⟨"PictureFile", "<init>", "()V"⟩
theorem w_PF_init : Cond.code y_PF_init prog_1_method_1_code 2 none ∈ kw_Ts := (kw_m1 (i := 27) (by decide +kernel) (by decide +kernel))
theorem ob_Md_1 : Cond.methodLink "PictureFileModel" 1 Lib.objectInit ∈ kw_Ts := (kw_m5 (i := 140) (by decide +kernel) (by decide +kernel))
theorem ac_byte : Cond.arrayClass .byte ∈ kw_Ts := (kw_m6 (i := 75) (by decide +kernel) (by decide +kernel))
theorem k_Md_39 : Cond.constant "PictureFileModel" 39 40000 ∈ kw_Ts := (kw_m5 (i := 142) (by decide +kernel) (by decide +kernel))
def y_Md_init : MethodName := ⟨"PictureFileModel", "<init>", "()V"⟩
theorem w_Md_init : Cond.code y_Md_init prog_14_method_1_code 1 none ∈ kw_Ts := (kw_m5 (i := 139) (by decide +kernel) (by decide +kernel))
def rm_Tape_init_2 : Room := { frames := 1, cells := 2, slots := 65792, locals := 22 }
def F_Tape_init_2 (n : Nat)  (σ : Mm) : Option Mm :=
kf_let (mm_nw σ 3) fun σ1 =>
kf_let (pR σ1 (64 * 2 + 0) (some 3)) fun σ3 =>
kf_let (pS σ3 (64 * 2 + 1) 0) fun σ4 =>
kf_let (mm_nw σ4 4) fun σ5 =>
kf_let (pR σ5 (64 * 2 + 2) (some 4)) fun σ7 =>
kf_l (α := Int32) n (fun k8 x9 σ10 =>
if 256 ≤ x9 then (
some σ10) else (
Option.bind (gR σ10 (64 * 2 + 2)) fun o11 =>
kf_c2 (F_Tape_eightSteps n x9 σ10) fun x12 σ13 =>
kf_in x9 (mm_kd o11).2.2 <| kf_let (pB σ13 o11 x9.toNatClampNeg x12) fun σ14 =>
kf_let (x9 + Int32.ofInt 1) fun x15 =>
k8 x15 σ14)) 0 σ7
theorem d_Tape_init_0 : decode prog_10_method_1_code 0 = .ok (.aload_n 0, 1) := by decide +kernel
theorem d_Tape_init_1 : decode prog_10_method_1_code 1 = .ok (.invokespecial 1, 3) := by decide +kernel
theorem d_Tape_init_4 : decode prog_10_method_1_code 4 = .ok (.aload_n 0, 1) := by decide +kernel
theorem d_Tape_init_5 : decode prog_10_method_1_code 5 = .ok (.ldc 9, 2) := by decide +kernel
theorem d_Tape_init_7 : decode prog_10_method_1_code 7 = .ok (.newarray .int, 2) := by decide +kernel
theorem d_Tape_init_9 : decode prog_10_method_1_code 9 = .ok (.putfield 10, 3) := by decide +kernel
theorem d_Tape_init_12 : decode prog_10_method_1_code 12 = .ok (.aload_n 0, 1) := by decide +kernel
theorem d_Tape_init_13 : decode prog_10_method_1_code 13 = .ok (.iconst 0, 1) := by decide +kernel
theorem d_Tape_init_14 : decode prog_10_method_1_code 14 = .ok (.putfield 14, 3) := by decide +kernel
theorem d_Tape_init_17 : decode prog_10_method_1_code 17 = .ok (.aload_n 0, 1) := by decide +kernel
theorem d_Tape_init_18 : decode prog_10_method_1_code 18 = .ok (.sipush 256, 3) := by decide +kernel
theorem d_Tape_init_21 : decode prog_10_method_1_code 21 = .ok (.newarray .int, 2) := by decide +kernel
theorem d_Tape_init_23 : decode prog_10_method_1_code 23 = .ok (.putfield 18, 3) := by decide +kernel
theorem d_Tape_init_26 : decode prog_10_method_1_code 26 = .ok (.iconst 0, 1) := by decide +kernel
theorem d_Tape_init_27 : decode prog_10_method_1_code 27 = .ok (.istore_n 1, 1) := by decide +kernel
theorem d_Tape_init_28 : decode prog_10_method_1_code 28 = .ok (.iload_n 1, 1) := by decide +kernel
theorem d_Tape_init_29 : decode prog_10_method_1_code 29 = .ok (.sipush 256, 3) := by decide +kernel
theorem d_Tape_init_32 : decode prog_10_method_1_code 32 = .ok (.if_icmp .ge 19, 3) := by decide +kernel
theorem d_Tape_init_35 : decode prog_10_method_1_code 35 = .ok (.aload_n 0, 1) := by decide +kernel
theorem d_Tape_init_36 : decode prog_10_method_1_code 36 = .ok (.getfield 18, 3) := by decide +kernel
theorem d_Tape_init_39 : decode prog_10_method_1_code 39 = .ok (.iload_n 1, 1) := by decide +kernel
theorem d_Tape_init_40 : decode prog_10_method_1_code 40 = .ok (.iload_n 1, 1) := by decide +kernel
theorem d_Tape_init_41 : decode prog_10_method_1_code 41 = .ok (.invokestatic 21, 3) := by decide +kernel
theorem d_Tape_init_44 : decode prog_10_method_1_code 44 = .ok (.iastore, 1) := by decide +kernel
theorem d_Tape_init_45 : decode prog_10_method_1_code 45 = .ok (.iinc 1 1, 3) := by decide +kernel
theorem d_Tape_init_48 : decode prog_10_method_1_code 48 = .ok (.goto (-20), 3) := by decide +kernel
theorem d_Tape_init_51 : decode prog_10_method_1_code 51 = .ok (.return_, 1) := by decide +kernel
set_option maxRecDepth 100000 in
set_option maxHeartbeats 4000000 in
theorem c_Tape_init_2 {l0 : Launch} (hl : l0.stackTraces = false) (n : Nat) (ids : List Nat) (hn : ∀ q ∈ ([3, 4] : List Nat), q ∉ ids) (h2 : mm_ok ids 2 1 1) (σ : Mm) : kw_C l0 y_Tape_init (Cond.code y_Tape_init prog_10_method_1_code 2 none :: kw_Ts) rm_Tape_init_2 kw_ov ids [3, 4] [.ref 2] σ (F_Tape_init_2 n  σ) := by
  refine kw_start (L0 := [some (.ref 2), none]) hl (by decide +kernel) (Nat.le_of_ble_eq_true rfl) rfl (fun Γ ad C Ce => ?_)
  unfold F_Tape_init_2
  have hA : ∀ q, q ∉ ([] : List Nat) → ad q = ad q := fun _ _ => rfl
  refine kw_aload_n C d_Tape_init_0 rfl ?_
  refine kw_objI C ob_Tape_1 ob_i ob_c (Nat.le_of_ble_eq_true rfl) (Nat.le_of_ble_eq_true rfl) d_Tape_init_1 ?_
  refine kw_aload_n C d_Tape_init_4 rfl ?_
  refine kw_ldc (v := 65536) C d_Tape_init_5 k_Tape_9 ?_
  refine kw_newI (o := 3) (cl' := 1) (sl' := 65536) C ac_int (hn 3 (by decide)) rfl rfl (by decide) (by decide) (by decide) (kw_lr (by decide : 2 ∉ ([3] : List Nat)) (kw_ln kw_lz)) (kw_sr9 (by decide : 2 ∉ ([3] : List Nat)) kw_sz) ⟨rfl, rfl⟩ ⟨Nat.le_of_ble_eq_true rfl, Nat.le_of_ble_eq_true rfl⟩ d_Tape_init_7 (fun ad2 σ1 had2 => ?_)
  have h2 := h2.more [3]
  have hA := kw_ch hA had2
  have h3 : mm_ok (ids ++ [3]) 3 2 0 := ⟨List.mem_append_right _ (List.mem_singleton_self _), rfl, rfl⟩
  refine kw_putOF C rfl (fun _ _ _ h => by have h : some (mmR_1, mmT_1, _) = some _ := h; cases h; rfl) fi_Tape_10 rfl rfl h2 h3 d_Tape_init_9 (fun σ3 => ?_)
  refine kw_aload_n C d_Tape_init_12 rfl ?_
  refine kw_iconst (v := 0) C d_Tape_init_13 (by decide) ?_
  refine kw_putI C fi_Tape_14 rfl h2 d_Tape_init_14 (fun σ4 => ?_)
  refine kw_aload_n C d_Tape_init_17 rfl ?_
  refine kw_sipush (v := 256) C d_Tape_init_18 (by decide) ?_
  refine kw_newI (o := 4) (cl' := 2) (sl' := 65792) C ac_int (kw_fresh (hn 4 (by decide)) (by decide : 4 ∉ [3])) rfl rfl (by decide) (by decide) (by decide) (kw_lr (by decide : 2 ∉ ([4] : List Nat)) (kw_ln kw_lz)) (kw_sr9 (by decide : 2 ∉ ([4] : List Nat)) kw_sz) ⟨rfl, rfl⟩ ⟨Nat.le_of_ble_eq_true rfl, Nat.le_of_ble_eq_true rfl⟩ d_Tape_init_21 (fun ad6 σ5 had6 => ?_)
  have h2 := h2.more [4]
  have h3 := h3.more [4]
  have hA := kw_ch hA had6
  have h4 : mm_ok (ids ++ [3] ++ [4]) 4 2 0 := ⟨List.mem_append_right _ (List.mem_singleton_self _), rfl, rfl⟩
  refine kw_putOF C rfl (fun _ _ _ h => by have h : some (mmR_1, mmT_1, _) = some _ := h; cases h; rfl) fi_Tape_18 rfl rfl h2 h4 d_Tape_init_23 (fun σ7 => ?_)
  refine kw_iconst (v := 0) C d_Tape_init_26 (by decide) ?_
  refine kw_istore_n (L' := [some (.ref 2), some (.int 0)]) C d_Tape_init_27 (by decide) rfl ?_
  refine kw_wk (kw_l (α := Int32) (pc := 28) (Lj := fun x9 => [some (.ref 2), some (.int x9)]) (stj := fun x9 => []) (fun k8 hk8 x9 σ10 => ?_) n 0 σ7) ⟨Or.inr rfl, Or.inr rfl, trivial⟩
  refine kw_iload_n C d_Tape_init_28 rfl ?_
  refine kw_sipush (v := 256) C d_Tape_init_29 (by decide) ?_
  refine kw_icmp_ge (tgt := 51) C d_Tape_init_32 (by decide) ?_ ?_
  · exact kw_vret C Ce rfl (by simp) hA (Nat.le_of_ble_eq_true rfl) (Nat.le_of_ble_eq_true rfl) rfl d_Tape_init_51
  · refine kw_aload_n C d_Tape_init_35 rfl ?_
    refine kw_getR C fi_Tape_18 rfl rfl h2 d_Tape_init_36 (fun o11 ho11 => ?_)
    refine kw_iload_n C d_Tape_init_39 rfl ?_
    refine kw_iload_n C d_Tape_init_40 rfl ?_
    refine kw_callSi (cl' := 2) (sl' := 65792) (As := [.int x9]) C (c_Tape_eightSteps hl n (ids ++ [3] ++ [4])  x9 σ10) mi_Tape_21 s_Tape_eightSteps ⟨Nat.le_of_ble_eq_true rfl, Nat.le_of_ble_eq_true rfl⟩ (Nat.le_of_ble_eq_true rfl) ⟨Nat.le_of_ble_eq_true rfl, Nat.le_of_ble_eq_true rfl⟩ ⟨rfl, rfl⟩ rfl d_Tape_init_41 (fun x12 σ13 => ?_)
    refine kw_iast C ho11 d_Tape_init_44 (fun σ14 => ?_)
    refine kw_iincL (L2 := fun x15 => [some (.ref 2), some (.int x15)]) C d_Tape_init_45 (by decide) rfl (fun _ => rfl) (fun x15 => ?_)
    refine kw_goto (tgt := 28) C d_Tape_init_48 (by decide) ?_
    exact kw_wk (hk8 x15 σ14) ⟨Or.inr rfl, Or.inr rfl, trivial⟩
def rm_Fault_init_5 : Room := { frames := 1, cells := 0, slots := 0, locals := 20 }
def F_Fault_init_5 (n : Nat)  (σ : Mm) : Option Mm :=
some σ
theorem d_Fault_init_0 : decode prog_3_method_1_code 0 = .ok (.aload_n 0, 1) := by decide +kernel
theorem d_Fault_init_1 : decode prog_3_method_1_code 1 = .ok (.invokespecial 3, 3) := by decide +kernel
theorem d_Fault_init_4 : decode prog_3_method_1_code 4 = .ok (.return_, 1) := by decide +kernel
set_option maxRecDepth 100000 in
set_option maxHeartbeats 4000000 in
theorem c_Fault_init_5 {l0 : Launch} (hl : l0.stackTraces = false) (n : Nat) (ids : List Nat) (hn : ∀ q ∈ (([] : List Nat) : List Nat), q ∉ ids) (h5 : mm_ok ids 5 1 2) (σ : Mm) : kw_C l0 y_Fault_init (Cond.code y_Fault_init prog_3_method_1_code 1 none :: kw_Ts) rm_Fault_init_5 kw_ov ids ([] : List Nat) [.ref 5] σ (F_Fault_init_5 n  σ) := by
  refine kw_start (L0 := [some (.ref 5)]) hl (by decide +kernel) (Nat.le_of_ble_eq_true rfl) rfl (fun Γ ad C Ce => ?_)
  unfold F_Fault_init_5
  have hA : ∀ q, q ∉ ([] : List Nat) → ad q = ad q := fun _ _ => rfl
  refine kw_aload_n C d_Fault_init_0 rfl ?_
  refine kw_objI C ob_Fault_3 ob_i ob_c (Nat.le_of_ble_eq_true rfl) (Nat.le_of_ble_eq_true rfl) d_Fault_init_1 ?_
  exact kw_vret C Ce rfl (by simp) hA (Nat.le_of_ble_eq_true rfl) (Nat.le_of_ble_eq_true rfl) rfl d_Fault_init_4
def rm_Rows_init_6 : Room := { frames := 1, cells := 2, slots := 65776, locals := 20 }
def F_Rows_init_6 (n : Nat)  (σ : Mm) : Option Mm :=
kf_let (mm_nw σ 7) fun σ1 =>
kf_let (pR σ1 (64 * 6 + 0) (some 7)) fun σ3 =>
kf_let (mm_nw σ3 8) fun σ4 =>
kf_let (pR σ4 (64 * 6 + 1) (some 8)) fun σ6 =>
some σ6
theorem d_Rows_init_0 : decode prog_9_method_1_code 0 = .ok (.aload_n 0, 1) := by decide +kernel
theorem d_Rows_init_1 : decode prog_9_method_1_code 1 = .ok (.invokespecial 1, 3) := by decide +kernel
theorem d_Rows_init_4 : decode prog_9_method_1_code 4 = .ok (.aload_n 0, 1) := by decide +kernel
theorem d_Rows_init_5 : decode prog_9_method_1_code 5 = .ok (.ldc 9, 2) := by decide +kernel
theorem d_Rows_init_7 : decode prog_9_method_1_code 7 = .ok (.newarray .int, 2) := by decide +kernel
theorem d_Rows_init_9 : decode prog_9_method_1_code 9 = .ok (.putfield 10, 3) := by decide +kernel
theorem d_Rows_init_12 : decode prog_9_method_1_code 12 = .ok (.aload_n 0, 1) := by decide +kernel
theorem d_Rows_init_13 : decode prog_9_method_1_code 13 = .ok (.ldc 9, 2) := by decide +kernel
theorem d_Rows_init_15 : decode prog_9_method_1_code 15 = .ok (.newarray .int, 2) := by decide +kernel
theorem d_Rows_init_17 : decode prog_9_method_1_code 17 = .ok (.putfield 16, 3) := by decide +kernel
theorem d_Rows_init_20 : decode prog_9_method_1_code 20 = .ok (.return_, 1) := by decide +kernel
set_option maxRecDepth 100000 in
set_option maxHeartbeats 4000000 in
theorem c_Rows_init_6 {l0 : Launch} (hl : l0.stackTraces = false) (n : Nat) (ids : List Nat) (hn : ∀ q ∈ ([7, 8] : List Nat), q ∉ ids) (h6 : mm_ok ids 6 1 3) (σ : Mm) : kw_C l0 y_Rows_init (Cond.code y_Rows_init prog_9_method_1_code 1 none :: kw_Ts) rm_Rows_init_6 kw_ov ids [7, 8] [.ref 6] σ (F_Rows_init_6 n  σ) := by
  refine kw_start (L0 := [some (.ref 6)]) hl (by decide +kernel) (Nat.le_of_ble_eq_true rfl) rfl (fun Γ ad C Ce => ?_)
  unfold F_Rows_init_6
  have hA : ∀ q, q ∉ ([] : List Nat) → ad q = ad q := fun _ _ => rfl
  refine kw_aload_n C d_Rows_init_0 rfl ?_
  refine kw_objI C ob_Rows_1 ob_i ob_c (Nat.le_of_ble_eq_true rfl) (Nat.le_of_ble_eq_true rfl) d_Rows_init_1 ?_
  refine kw_aload_n C d_Rows_init_4 rfl ?_
  refine kw_ldc (v := 32888) C d_Rows_init_5 k_Rows_9 ?_
  refine kw_newI (o := 7) (cl' := 1) (sl' := 32888) C ac_int (hn 7 (by decide)) rfl rfl (by decide) (by decide) (by decide) (kw_lr (by decide : 6 ∉ ([7] : List Nat)) kw_lz) (kw_sr9 (by decide : 6 ∉ ([7] : List Nat)) kw_sz) ⟨rfl, rfl⟩ ⟨Nat.le_of_ble_eq_true rfl, Nat.le_of_ble_eq_true rfl⟩ d_Rows_init_7 (fun ad2 σ1 had2 => ?_)
  have h6 := h6.more [7]
  have hA := kw_ch hA had2
  have h7 : mm_ok (ids ++ [7]) 7 2 0 := ⟨List.mem_append_right _ (List.mem_singleton_self _), rfl, rfl⟩
  refine kw_putOF C rfl (fun _ _ _ h => by have h : some (mmR_3, mmT_3, _) = some _ := h; cases h; rfl) fi_Rows_10 rfl rfl h6 h7 d_Rows_init_9 (fun σ3 => ?_)
  refine kw_aload_n C d_Rows_init_12 rfl ?_
  refine kw_ldc (v := 32888) C d_Rows_init_13 k_Rows_9 ?_
  refine kw_newI (o := 8) (cl' := 2) (sl' := 65776) C ac_int (kw_fresh (hn 8 (by decide)) (by decide : 8 ∉ [7])) rfl rfl (by decide) (by decide) (by decide) (kw_lr (by decide : 6 ∉ ([8] : List Nat)) kw_lz) (kw_sr9 (by decide : 6 ∉ ([8] : List Nat)) kw_sz) ⟨rfl, rfl⟩ ⟨Nat.le_of_ble_eq_true rfl, Nat.le_of_ble_eq_true rfl⟩ d_Rows_init_15 (fun ad5 σ4 had5 => ?_)
  have h6 := h6.more [8]
  have h7 := h7.more [8]
  have hA := kw_ch hA had5
  have h8 : mm_ok (ids ++ [7] ++ [8]) 8 2 0 := ⟨List.mem_append_right _ (List.mem_singleton_self _), rfl, rfl⟩
  refine kw_putOF C rfl (fun _ _ _ h => by have h : some (mmR_3, mmT_3, _) = some _ := h; cases h; rfl) fi_Rows_16 rfl rfl h6 h8 d_Rows_init_17 (fun σ6 => ?_)
  exact kw_vret C Ce rfl (by simp) hA (Nat.le_of_ble_eq_true rfl) (Nat.le_of_ble_eq_true rfl) rfl d_Rows_init_20
def rm_PackedBits_init_9 : Room := { frames := 1, cells := 1, slots := 65536, locals := 20 }
def F_PackedBits_init_9 (n : Nat) (r0 : Nat) (r1 : Nat) (σ : Mm) : Option Mm :=
kf_let (mm_nw σ 10) fun σ1 =>
kf_let (pR σ1 (64 * 9 + 2) (some 10)) fun σ3 =>
kf_let (pR σ3 (64 * 9 + 0) (some r0)) fun σ4 =>
kf_let (pR σ4 (64 * 9 + 1) (some r1)) fun σ5 =>
some σ5
theorem d_PackedBits_init_0 : decode prog_5_method_1_code 0 = .ok (.aload_n 0, 1) := by decide +kernel
theorem d_PackedBits_init_1 : decode prog_5_method_1_code 1 = .ok (.invokespecial 3, 3) := by decide +kernel
theorem d_PackedBits_init_4 : decode prog_5_method_1_code 4 = .ok (.aload_n 0, 1) := by decide +kernel
theorem d_PackedBits_init_5 : decode prog_5_method_1_code 5 = .ok (.ldc 11, 2) := by decide +kernel
theorem d_PackedBits_init_7 : decode prog_5_method_1_code 7 = .ok (.newarray .int, 2) := by decide +kernel
theorem d_PackedBits_init_9 : decode prog_5_method_1_code 9 = .ok (.putfield 12, 3) := by decide +kernel
theorem d_PackedBits_init_12 : decode prog_5_method_1_code 12 = .ok (.aload_n 0, 1) := by decide +kernel
theorem d_PackedBits_init_13 : decode prog_5_method_1_code 13 = .ok (.aload_n 1, 1) := by decide +kernel
theorem d_PackedBits_init_14 : decode prog_5_method_1_code 14 = .ok (.putfield 18, 3) := by decide +kernel
theorem d_PackedBits_init_17 : decode prog_5_method_1_code 17 = .ok (.aload_n 0, 1) := by decide +kernel
theorem d_PackedBits_init_18 : decode prog_5_method_1_code 18 = .ok (.aload_n 2, 1) := by decide +kernel
theorem d_PackedBits_init_19 : decode prog_5_method_1_code 19 = .ok (.putfield 22, 3) := by decide +kernel
theorem d_PackedBits_init_22 : decode prog_5_method_1_code 22 = .ok (.return_, 1) := by decide +kernel
set_option maxRecDepth 100000 in
set_option maxHeartbeats 4000000 in
theorem c_PackedBits_init_9 {l0 : Launch} (hl : l0.stackTraces = false) (n : Nat) (ids : List Nat) (hn : ∀ q ∈ ([10] : List Nat), q ∉ ids) (h9 : mm_ok ids 9 1 4) {r0 : Nat} (hr0 : mm_ok ids r0 1 1) {r1 : Nat} (hr1 : mm_ok ids r1 1 2) (σ : Mm) : kw_C l0 y_PackedBits_init (Cond.code y_PackedBits_init prog_5_method_1_code 3 none :: kw_Ts) rm_PackedBits_init_9 kw_ov ids [10] [.ref 9, .ref r0, .ref r1] σ (F_PackedBits_init_9 n r0 r1 σ) := by
  refine kw_start (L0 := [some (.ref 9), some (.ref r0), some (.ref r1)]) hl (by decide +kernel) (Nat.le_of_ble_eq_true rfl) rfl (fun Γ ad C Ce => ?_)
  unfold F_PackedBits_init_9
  have hA : ∀ q, q ∉ ([] : List Nat) → ad q = ad q := fun _ _ => rfl
  have hN_r0 : ∀ q ∈ [10], r0 ≠ q := fun q hq z => hn q hq (z ▸ hr0.1)
  have hN_r1 : ∀ q ∈ [10], r1 ≠ q := fun q hq z => hn q hq (z ▸ hr1.1)
  refine kw_aload_n C d_PackedBits_init_0 rfl ?_
  refine kw_objI C ob_PackedBits_3 ob_i ob_c (Nat.le_of_ble_eq_true rfl) (Nat.le_of_ble_eq_true rfl) d_PackedBits_init_1 ?_
  refine kw_aload_n C d_PackedBits_init_4 rfl ?_
  refine kw_ldc (v := 65536) C d_PackedBits_init_5 k_PackedBits_11 ?_
  refine kw_newI (o := 10) (cl' := 1) (sl' := 65536) C ac_int (hn 10 (by decide)) rfl rfl (by decide) (by decide) (by decide) (kw_lr (by decide : 9 ∉ ([10] : List Nat)) (kw_lr (fun z => hN_r0 _ ((by decide : ∀ q ∈ ([10] : List Nat), q ∈ [10]) _ z) rfl) (kw_lr (fun z => hN_r1 _ ((by decide : ∀ q ∈ ([10] : List Nat), q ∈ [10]) _ z) rfl) kw_lz))) (kw_sr9 (by decide : 9 ∉ ([10] : List Nat)) kw_sz) ⟨rfl, rfl⟩ ⟨Nat.le_of_ble_eq_true rfl, Nat.le_of_ble_eq_true rfl⟩ d_PackedBits_init_7 (fun ad2 σ1 had2 => ?_)
  have h9 := h9.more [10]
  have hr0 := hr0.more [10]
  have hr1 := hr1.more [10]
  have hA := kw_ch hA had2
  have h10 : mm_ok (ids ++ [10]) 10 2 0 := ⟨List.mem_append_right _ (List.mem_singleton_self _), rfl, rfl⟩
  refine kw_putOF C rfl (fun _ _ _ h => by have h : some (mmR_4, mmT_4, _) = some _ := h; cases h; rfl) fi_PackedBits_12 rfl rfl h9 h10 d_PackedBits_init_9 (fun σ3 => ?_)
  refine kw_aload_n C d_PackedBits_init_12 rfl ?_
  refine kw_aload_n C d_PackedBits_init_13 rfl ?_
  refine kw_putOF C rfl (fun _ _ _ h => by have h : some (mmR_4, mmT_4, _) = some _ := h; cases h; rfl) fi_PackedBits_18 rfl rfl h9 hr0 d_PackedBits_init_14 (fun σ4 => ?_)
  refine kw_aload_n C d_PackedBits_init_17 rfl ?_
  refine kw_aload_n C d_PackedBits_init_18 rfl ?_
  refine kw_putOF C rfl (fun _ _ _ h => by have h : some (mmR_4, mmT_4, _) = some _ := h; cases h; rfl) fi_PackedBits_22 rfl rfl h9 hr1 d_PackedBits_init_19 (fun σ5 => ?_)
  exact kw_vret C Ce rfl (by simp) hA (Nat.le_of_ble_eq_true rfl) (Nat.le_of_ble_eq_true rfl) rfl d_PackedBits_init_22
def rm_Pieces_init_11 : Room := { frames := 1, cells := 0, slots := 0, locals := 20 }
def F_Pieces_init_11 (n : Nat) (r0 : Nat) (r1 : Nat) (r2 : Nat) (σ : Mm) : Option Mm :=
kf_let (pR σ (64 * 11 + 0) (some r0)) fun σ1 =>
kf_let (pR σ1 (64 * 11 + 1) (some r1)) fun σ2 =>
kf_let (pR σ2 (64 * 11 + 2) (some r2)) fun σ3 =>
some σ3
theorem d_Pieces_init_0 : decode prog_8_method_1_code 0 = .ok (.aload_n 0, 1) := by decide +kernel
theorem d_Pieces_init_1 : decode prog_8_method_1_code 1 = .ok (.invokespecial 3, 3) := by decide +kernel
theorem d_Pieces_init_4 : decode prog_8_method_1_code 4 = .ok (.aload_n 0, 1) := by decide +kernel
theorem d_Pieces_init_5 : decode prog_8_method_1_code 5 = .ok (.aload_n 1, 1) := by decide +kernel
theorem d_Pieces_init_6 : decode prog_8_method_1_code 6 = .ok (.putfield 9, 3) := by decide +kernel
theorem d_Pieces_init_9 : decode prog_8_method_1_code 9 = .ok (.aload_n 0, 1) := by decide +kernel
theorem d_Pieces_init_10 : decode prog_8_method_1_code 10 = .ok (.aload_n 2, 1) := by decide +kernel
theorem d_Pieces_init_11 : decode prog_8_method_1_code 11 = .ok (.putfield 15, 3) := by decide +kernel
theorem d_Pieces_init_14 : decode prog_8_method_1_code 14 = .ok (.aload_n 0, 1) := by decide +kernel
theorem d_Pieces_init_15 : decode prog_8_method_1_code 15 = .ok (.aload_n 3, 1) := by decide +kernel
theorem d_Pieces_init_16 : decode prog_8_method_1_code 16 = .ok (.putfield 19, 3) := by decide +kernel
theorem d_Pieces_init_19 : decode prog_8_method_1_code 19 = .ok (.return_, 1) := by decide +kernel
set_option maxRecDepth 100000 in
set_option maxHeartbeats 4000000 in
theorem c_Pieces_init_11 {l0 : Launch} (hl : l0.stackTraces = false) (n : Nat) (ids : List Nat) (hn : ∀ q ∈ (([] : List Nat) : List Nat), q ∉ ids) (h11 : mm_ok ids 11 1 5) {r0 : Nat} (hr0 : mm_ok ids r0 1 1) {r1 : Nat} (hr1 : mm_ok ids r1 1 2) {r2 : Nat} (hr2 : mm_ok ids r2 1 4) (σ : Mm) : kw_C l0 y_Pieces_init (Cond.code y_Pieces_init prog_8_method_1_code 4 none :: kw_Ts) rm_Pieces_init_11 kw_ov ids ([] : List Nat) [.ref 11, .ref r0, .ref r1, .ref r2] σ (F_Pieces_init_11 n r0 r1 r2 σ) := by
  refine kw_start (L0 := [some (.ref 11), some (.ref r0), some (.ref r1), some (.ref r2)]) hl (by decide +kernel) (Nat.le_of_ble_eq_true rfl) rfl (fun Γ ad C Ce => ?_)
  unfold F_Pieces_init_11
  have hA : ∀ q, q ∉ ([] : List Nat) → ad q = ad q := fun _ _ => rfl
  have hN_r0 : ∀ q ∈ ([] : List Nat), r0 ≠ q := fun q hq z => hn q hq (z ▸ hr0.1)
  have hN_r1 : ∀ q ∈ ([] : List Nat), r1 ≠ q := fun q hq z => hn q hq (z ▸ hr1.1)
  have hN_r2 : ∀ q ∈ ([] : List Nat), r2 ≠ q := fun q hq z => hn q hq (z ▸ hr2.1)
  refine kw_aload_n C d_Pieces_init_0 rfl ?_
  refine kw_objI C ob_Pieces_3 ob_i ob_c (Nat.le_of_ble_eq_true rfl) (Nat.le_of_ble_eq_true rfl) d_Pieces_init_1 ?_
  refine kw_aload_n C d_Pieces_init_4 rfl ?_
  refine kw_aload_n C d_Pieces_init_5 rfl ?_
  refine kw_putOF C rfl (fun _ _ _ h => by have h : some (mmR_5, mmT_5, _) = some _ := h; cases h; rfl) fi_Pieces_9 rfl rfl h11 hr0 d_Pieces_init_6 (fun σ1 => ?_)
  refine kw_aload_n C d_Pieces_init_9 rfl ?_
  refine kw_aload_n C d_Pieces_init_10 rfl ?_
  refine kw_putOF C rfl (fun _ _ _ h => by have h : some (mmR_5, mmT_5, _) = some _ := h; cases h; rfl) fi_Pieces_15 rfl rfl h11 hr1 d_Pieces_init_11 (fun σ2 => ?_)
  refine kw_aload_n C d_Pieces_init_14 rfl ?_
  refine kw_aload_n C d_Pieces_init_15 rfl ?_
  refine kw_putOF C rfl (fun _ _ _ h => by have h : some (mmR_5, mmT_5, _) = some _ := h; cases h; rfl) fi_Pieces_19 rfl rfl h11 hr2 d_Pieces_init_16 (fun σ3 => ?_)
  exact kw_vret C Ce rfl (by simp) hA (Nat.le_of_ble_eq_true rfl) (Nat.le_of_ble_eq_true rfl) rfl d_Pieces_init_19
def rm_Codes_init_13 : Room := { frames := 1, cells := 3, slots := 320, locals := 20 }
def F_Codes_init_13 (n : Nat)  (σ : Mm) : Option Mm :=
kf_let (mm_nw σ 14) fun σ1 =>
kf_let (pR σ1 (64 * 13 + 0) (some 14)) fun σ3 =>
kf_let (mm_nw σ3 15) fun σ4 =>
kf_let (pR σ4 (64 * 13 + 1) (some 15)) fun σ6 =>
kf_let (mm_nw σ6 16) fun σ7 =>
kf_let (pR σ7 (64 * 13 + 2) (some 16)) fun σ9 =>
some σ9
theorem d_Codes_init_0 : decode prog_2_method_1_code 0 = .ok (.aload_n 0, 1) := by decide +kernel
theorem d_Codes_init_1 : decode prog_2_method_1_code 1 = .ok (.invokespecial 1, 3) := by decide +kernel
theorem d_Codes_init_4 : decode prog_2_method_1_code 4 = .ok (.aload_n 0, 1) := by decide +kernel
theorem d_Codes_init_5 : decode prog_2_method_1_code 5 = .ok (.bipush 16, 2) := by decide +kernel
theorem d_Codes_init_7 : decode prog_2_method_1_code 7 = .ok (.newarray .int, 2) := by decide +kernel
theorem d_Codes_init_9 : decode prog_2_method_1_code 9 = .ok (.putfield 9, 3) := by decide +kernel
theorem d_Codes_init_12 : decode prog_2_method_1_code 12 = .ok (.aload_n 0, 1) := by decide +kernel
theorem d_Codes_init_13 : decode prog_2_method_1_code 13 = .ok (.sipush 288, 3) := by decide +kernel
theorem d_Codes_init_16 : decode prog_2_method_1_code 16 = .ok (.newarray .int, 2) := by decide +kernel
theorem d_Codes_init_18 : decode prog_2_method_1_code 18 = .ok (.putfield 13, 3) := by decide +kernel
theorem d_Codes_init_21 : decode prog_2_method_1_code 21 = .ok (.aload_n 0, 1) := by decide +kernel
theorem d_Codes_init_22 : decode prog_2_method_1_code 22 = .ok (.bipush 16, 2) := by decide +kernel
theorem d_Codes_init_24 : decode prog_2_method_1_code 24 = .ok (.newarray .int, 2) := by decide +kernel
theorem d_Codes_init_26 : decode prog_2_method_1_code 26 = .ok (.putfield 16, 3) := by decide +kernel
theorem d_Codes_init_29 : decode prog_2_method_1_code 29 = .ok (.return_, 1) := by decide +kernel
set_option maxRecDepth 100000 in
set_option maxHeartbeats 4000000 in
theorem c_Codes_init_13 {l0 : Launch} (hl : l0.stackTraces = false) (n : Nat) (ids : List Nat) (hn : ∀ q ∈ ([14, 15, 16] : List Nat), q ∉ ids) (h13 : mm_ok ids 13 1 7) (σ : Mm) : kw_C l0 y_Codes_init (Cond.code y_Codes_init prog_2_method_1_code 1 none :: kw_Ts) rm_Codes_init_13 kw_ov ids [14, 15, 16] [.ref 13] σ (F_Codes_init_13 n  σ) := by
  refine kw_start (L0 := [some (.ref 13)]) hl (by decide +kernel) (Nat.le_of_ble_eq_true rfl) rfl (fun Γ ad C Ce => ?_)
  unfold F_Codes_init_13
  have hA : ∀ q, q ∉ ([] : List Nat) → ad q = ad q := fun _ _ => rfl
  refine kw_aload_n C d_Codes_init_0 rfl ?_
  refine kw_objI C ob_Codes_1 ob_i ob_c (Nat.le_of_ble_eq_true rfl) (Nat.le_of_ble_eq_true rfl) d_Codes_init_1 ?_
  refine kw_aload_n C d_Codes_init_4 rfl ?_
  refine kw_bipush (v := 16) C d_Codes_init_5 (by decide) ?_
  refine kw_newI (o := 14) (cl' := 1) (sl' := 16) C ac_int (hn 14 (by decide)) rfl rfl (by decide) (by decide) (by decide) (kw_lr (by decide : 13 ∉ ([14] : List Nat)) kw_lz) (kw_sr9 (by decide : 13 ∉ ([14] : List Nat)) kw_sz) ⟨rfl, rfl⟩ ⟨Nat.le_of_ble_eq_true rfl, Nat.le_of_ble_eq_true rfl⟩ d_Codes_init_7 (fun ad2 σ1 had2 => ?_)
  have h13 := h13.more [14]
  have hA := kw_ch hA had2
  have h14 : mm_ok (ids ++ [14]) 14 2 0 := ⟨List.mem_append_right _ (List.mem_singleton_self _), rfl, rfl⟩
  refine kw_putOF C rfl (fun _ _ _ h => by have h : some (mmR_7, mmT_7, _) = some _ := h; cases h; rfl) fi_Codes_9 rfl rfl h13 h14 d_Codes_init_9 (fun σ3 => ?_)
  refine kw_aload_n C d_Codes_init_12 rfl ?_
  refine kw_sipush (v := 288) C d_Codes_init_13 (by decide) ?_
  refine kw_newI (o := 15) (cl' := 2) (sl' := 304) C ac_int (kw_fresh (hn 15 (by decide)) (by decide : 15 ∉ [14])) rfl rfl (by decide) (by decide) (by decide) (kw_lr (by decide : 13 ∉ ([15] : List Nat)) kw_lz) (kw_sr9 (by decide : 13 ∉ ([15] : List Nat)) kw_sz) ⟨rfl, rfl⟩ ⟨Nat.le_of_ble_eq_true rfl, Nat.le_of_ble_eq_true rfl⟩ d_Codes_init_16 (fun ad5 σ4 had5 => ?_)
  have h13 := h13.more [15]
  have h14 := h14.more [15]
  have hA := kw_ch hA had5
  have h15 : mm_ok (ids ++ [14] ++ [15]) 15 2 0 := ⟨List.mem_append_right _ (List.mem_singleton_self _), rfl, rfl⟩
  refine kw_putOF C rfl (fun _ _ _ h => by have h : some (mmR_7, mmT_7, _) = some _ := h; cases h; rfl) fi_Codes_13 rfl rfl h13 h15 d_Codes_init_18 (fun σ6 => ?_)
  refine kw_aload_n C d_Codes_init_21 rfl ?_
  refine kw_bipush (v := 16) C d_Codes_init_22 (by decide) ?_
  refine kw_newI (o := 16) (cl' := 3) (sl' := 320) C ac_int (kw_fresh (kw_fresh (hn 16 (by decide)) (by decide : 16 ∉ [14])) (by decide : 16 ∉ [15])) rfl rfl (by decide) (by decide) (by decide) (kw_lr (by decide : 13 ∉ ([16] : List Nat)) kw_lz) (kw_sr9 (by decide : 13 ∉ ([16] : List Nat)) kw_sz) ⟨rfl, rfl⟩ ⟨Nat.le_of_ble_eq_true rfl, Nat.le_of_ble_eq_true rfl⟩ d_Codes_init_24 (fun ad8 σ7 had8 => ?_)
  have h13 := h13.more [16]
  have h14 := h14.more [16]
  have h15 := h15.more [16]
  have hA := kw_ch hA had8
  have h16 : mm_ok (ids ++ [14] ++ [15] ++ [16]) 16 2 0 := ⟨List.mem_append_right _ (List.mem_singleton_self _), rfl, rfl⟩
  refine kw_putOF C rfl (fun _ _ _ h => by have h : some (mmR_7, mmT_7, _) = some _ := h; cases h; rfl) fi_Codes_16 rfl rfl h13 h16 d_Codes_init_26 (fun σ9 => ?_)
  exact kw_vret C Ce rfl (by simp) hA (Nat.le_of_ble_eq_true rfl) (Nat.le_of_ble_eq_true rfl) rfl d_Codes_init_29
def rm_Codes_init_17 : Room := { frames := 1, cells := 3, slots := 320, locals := 20 }
def F_Codes_init_17 (n : Nat)  (σ : Mm) : Option Mm :=
kf_let (mm_nw σ 18) fun σ1 =>
kf_let (pR σ1 (64 * 17 + 0) (some 18)) fun σ3 =>
kf_let (mm_nw σ3 19) fun σ4 =>
kf_let (pR σ4 (64 * 17 + 1) (some 19)) fun σ6 =>
kf_let (mm_nw σ6 20) fun σ7 =>
kf_let (pR σ7 (64 * 17 + 2) (some 20)) fun σ9 =>
some σ9
set_option maxRecDepth 100000 in
set_option maxHeartbeats 4000000 in
theorem c_Codes_init_17 {l0 : Launch} (hl : l0.stackTraces = false) (n : Nat) (ids : List Nat) (hn : ∀ q ∈ ([18, 19, 20] : List Nat), q ∉ ids) (h17 : mm_ok ids 17 1 7) (σ : Mm) : kw_C l0 y_Codes_init (Cond.code y_Codes_init prog_2_method_1_code 1 none :: kw_Ts) rm_Codes_init_17 kw_ov ids [18, 19, 20] [.ref 17] σ (F_Codes_init_17 n  σ) := by
  refine kw_start (L0 := [some (.ref 17)]) hl (by decide +kernel) (Nat.le_of_ble_eq_true rfl) rfl (fun Γ ad C Ce => ?_)
  unfold F_Codes_init_17
  have hA : ∀ q, q ∉ ([] : List Nat) → ad q = ad q := fun _ _ => rfl
  refine kw_aload_n C d_Codes_init_0 rfl ?_
  refine kw_objI C ob_Codes_1 ob_i ob_c (Nat.le_of_ble_eq_true rfl) (Nat.le_of_ble_eq_true rfl) d_Codes_init_1 ?_
  refine kw_aload_n C d_Codes_init_4 rfl ?_
  refine kw_bipush (v := 16) C d_Codes_init_5 (by decide) ?_
  refine kw_newI (o := 18) (cl' := 1) (sl' := 16) C ac_int (hn 18 (by decide)) rfl rfl (by decide) (by decide) (by decide) (kw_lr (by decide : 17 ∉ ([18] : List Nat)) kw_lz) (kw_sr9 (by decide : 17 ∉ ([18] : List Nat)) kw_sz) ⟨rfl, rfl⟩ ⟨Nat.le_of_ble_eq_true rfl, Nat.le_of_ble_eq_true rfl⟩ d_Codes_init_7 (fun ad2 σ1 had2 => ?_)
  have h17 := h17.more [18]
  have hA := kw_ch hA had2
  have h18 : mm_ok (ids ++ [18]) 18 2 0 := ⟨List.mem_append_right _ (List.mem_singleton_self _), rfl, rfl⟩
  refine kw_putOF C rfl (fun _ _ _ h => by have h : some (mmR_7, mmT_7, _) = some _ := h; cases h; rfl) fi_Codes_9 rfl rfl h17 h18 d_Codes_init_9 (fun σ3 => ?_)
  refine kw_aload_n C d_Codes_init_12 rfl ?_
  refine kw_sipush (v := 288) C d_Codes_init_13 (by decide) ?_
  refine kw_newI (o := 19) (cl' := 2) (sl' := 304) C ac_int (kw_fresh (hn 19 (by decide)) (by decide : 19 ∉ [18])) rfl rfl (by decide) (by decide) (by decide) (kw_lr (by decide : 17 ∉ ([19] : List Nat)) kw_lz) (kw_sr9 (by decide : 17 ∉ ([19] : List Nat)) kw_sz) ⟨rfl, rfl⟩ ⟨Nat.le_of_ble_eq_true rfl, Nat.le_of_ble_eq_true rfl⟩ d_Codes_init_16 (fun ad5 σ4 had5 => ?_)
  have h17 := h17.more [19]
  have h18 := h18.more [19]
  have hA := kw_ch hA had5
  have h19 : mm_ok (ids ++ [18] ++ [19]) 19 2 0 := ⟨List.mem_append_right _ (List.mem_singleton_self _), rfl, rfl⟩
  refine kw_putOF C rfl (fun _ _ _ h => by have h : some (mmR_7, mmT_7, _) = some _ := h; cases h; rfl) fi_Codes_13 rfl rfl h17 h19 d_Codes_init_18 (fun σ6 => ?_)
  refine kw_aload_n C d_Codes_init_21 rfl ?_
  refine kw_bipush (v := 16) C d_Codes_init_22 (by decide) ?_
  refine kw_newI (o := 20) (cl' := 3) (sl' := 320) C ac_int (kw_fresh (kw_fresh (hn 20 (by decide)) (by decide : 20 ∉ [18])) (by decide : 20 ∉ [19])) rfl rfl (by decide) (by decide) (by decide) (kw_lr (by decide : 17 ∉ ([20] : List Nat)) kw_lz) (kw_sr9 (by decide : 17 ∉ ([20] : List Nat)) kw_sz) ⟨rfl, rfl⟩ ⟨Nat.le_of_ble_eq_true rfl, Nat.le_of_ble_eq_true rfl⟩ d_Codes_init_24 (fun ad8 σ7 had8 => ?_)
  have h17 := h17.more [20]
  have h18 := h18.more [20]
  have h19 := h19.more [20]
  have hA := kw_ch hA had8
  have h20 : mm_ok (ids ++ [18] ++ [19] ++ [20]) 20 2 0 := ⟨List.mem_append_right _ (List.mem_singleton_self _), rfl, rfl⟩
  refine kw_putOF C rfl (fun _ _ _ h => by have h : some (mmR_7, mmT_7, _) = some _ := h; cases h; rfl) fi_Codes_16 rfl rfl h17 h20 d_Codes_init_26 (fun σ9 => ?_)
  exact kw_vret C Ce rfl (by simp) hA (Nat.le_of_ble_eq_true rfl) (Nat.le_of_ble_eq_true rfl) rfl d_Codes_init_29
def rm_Codes_init_21 : Room := { frames := 1, cells := 3, slots := 320, locals := 20 }
def F_Codes_init_21 (n : Nat)  (σ : Mm) : Option Mm :=
kf_let (mm_nw σ 22) fun σ1 =>
kf_let (pR σ1 (64 * 21 + 0) (some 22)) fun σ3 =>
kf_let (mm_nw σ3 23) fun σ4 =>
kf_let (pR σ4 (64 * 21 + 1) (some 23)) fun σ6 =>
kf_let (mm_nw σ6 24) fun σ7 =>
kf_let (pR σ7 (64 * 21 + 2) (some 24)) fun σ9 =>
some σ9
set_option maxRecDepth 100000 in
set_option maxHeartbeats 4000000 in
theorem c_Codes_init_21 {l0 : Launch} (hl : l0.stackTraces = false) (n : Nat) (ids : List Nat) (hn : ∀ q ∈ ([22, 23, 24] : List Nat), q ∉ ids) (h21 : mm_ok ids 21 1 7) (σ : Mm) : kw_C l0 y_Codes_init (Cond.code y_Codes_init prog_2_method_1_code 1 none :: kw_Ts) rm_Codes_init_21 kw_ov ids [22, 23, 24] [.ref 21] σ (F_Codes_init_21 n  σ) := by
  refine kw_start (L0 := [some (.ref 21)]) hl (by decide +kernel) (Nat.le_of_ble_eq_true rfl) rfl (fun Γ ad C Ce => ?_)
  unfold F_Codes_init_21
  have hA : ∀ q, q ∉ ([] : List Nat) → ad q = ad q := fun _ _ => rfl
  refine kw_aload_n C d_Codes_init_0 rfl ?_
  refine kw_objI C ob_Codes_1 ob_i ob_c (Nat.le_of_ble_eq_true rfl) (Nat.le_of_ble_eq_true rfl) d_Codes_init_1 ?_
  refine kw_aload_n C d_Codes_init_4 rfl ?_
  refine kw_bipush (v := 16) C d_Codes_init_5 (by decide) ?_
  refine kw_newI (o := 22) (cl' := 1) (sl' := 16) C ac_int (hn 22 (by decide)) rfl rfl (by decide) (by decide) (by decide) (kw_lr (by decide : 21 ∉ ([22] : List Nat)) kw_lz) (kw_sr9 (by decide : 21 ∉ ([22] : List Nat)) kw_sz) ⟨rfl, rfl⟩ ⟨Nat.le_of_ble_eq_true rfl, Nat.le_of_ble_eq_true rfl⟩ d_Codes_init_7 (fun ad2 σ1 had2 => ?_)
  have h21 := h21.more [22]
  have hA := kw_ch hA had2
  have h22 : mm_ok (ids ++ [22]) 22 2 0 := ⟨List.mem_append_right _ (List.mem_singleton_self _), rfl, rfl⟩
  refine kw_putOF C rfl (fun _ _ _ h => by have h : some (mmR_7, mmT_7, _) = some _ := h; cases h; rfl) fi_Codes_9 rfl rfl h21 h22 d_Codes_init_9 (fun σ3 => ?_)
  refine kw_aload_n C d_Codes_init_12 rfl ?_
  refine kw_sipush (v := 288) C d_Codes_init_13 (by decide) ?_
  refine kw_newI (o := 23) (cl' := 2) (sl' := 304) C ac_int (kw_fresh (hn 23 (by decide)) (by decide : 23 ∉ [22])) rfl rfl (by decide) (by decide) (by decide) (kw_lr (by decide : 21 ∉ ([23] : List Nat)) kw_lz) (kw_sr9 (by decide : 21 ∉ ([23] : List Nat)) kw_sz) ⟨rfl, rfl⟩ ⟨Nat.le_of_ble_eq_true rfl, Nat.le_of_ble_eq_true rfl⟩ d_Codes_init_16 (fun ad5 σ4 had5 => ?_)
  have h21 := h21.more [23]
  have h22 := h22.more [23]
  have hA := kw_ch hA had5
  have h23 : mm_ok (ids ++ [22] ++ [23]) 23 2 0 := ⟨List.mem_append_right _ (List.mem_singleton_self _), rfl, rfl⟩
  refine kw_putOF C rfl (fun _ _ _ h => by have h : some (mmR_7, mmT_7, _) = some _ := h; cases h; rfl) fi_Codes_13 rfl rfl h21 h23 d_Codes_init_18 (fun σ6 => ?_)
  refine kw_aload_n C d_Codes_init_21 rfl ?_
  refine kw_bipush (v := 16) C d_Codes_init_22 (by decide) ?_
  refine kw_newI (o := 24) (cl' := 3) (sl' := 320) C ac_int (kw_fresh (kw_fresh (hn 24 (by decide)) (by decide : 24 ∉ [22])) (by decide : 24 ∉ [23])) rfl rfl (by decide) (by decide) (by decide) (kw_lr (by decide : 21 ∉ ([24] : List Nat)) kw_lz) (kw_sr9 (by decide : 21 ∉ ([24] : List Nat)) kw_sz) ⟨rfl, rfl⟩ ⟨Nat.le_of_ble_eq_true rfl, Nat.le_of_ble_eq_true rfl⟩ d_Codes_init_24 (fun ad8 σ7 had8 => ?_)
  have h21 := h21.more [24]
  have h22 := h22.more [24]
  have h23 := h23.more [24]
  have hA := kw_ch hA had8
  have h24 : mm_ok (ids ++ [22] ++ [23] ++ [24]) 24 2 0 := ⟨List.mem_append_right _ (List.mem_singleton_self _), rfl, rfl⟩
  refine kw_putOF C rfl (fun _ _ _ h => by have h : some (mmR_7, mmT_7, _) = some _ := h; cases h; rfl) fi_Codes_16 rfl rfl h21 h24 d_Codes_init_26 (fun σ9 => ?_)
  exact kw_vret C Ce rfl (by simp) hA (Nat.le_of_ble_eq_true rfl) (Nat.le_of_ble_eq_true rfl) rfl d_Codes_init_29
def rm_Codes_init_25 : Room := { frames := 1, cells := 3, slots := 320, locals := 20 }
def F_Codes_init_25 (n : Nat)  (σ : Mm) : Option Mm :=
kf_let (mm_nw σ 26) fun σ1 =>
kf_let (pR σ1 (64 * 25 + 0) (some 26)) fun σ3 =>
kf_let (mm_nw σ3 27) fun σ4 =>
kf_let (pR σ4 (64 * 25 + 1) (some 27)) fun σ6 =>
kf_let (mm_nw σ6 28) fun σ7 =>
kf_let (pR σ7 (64 * 25 + 2) (some 28)) fun σ9 =>
some σ9
set_option maxRecDepth 100000 in
set_option maxHeartbeats 4000000 in
theorem c_Codes_init_25 {l0 : Launch} (hl : l0.stackTraces = false) (n : Nat) (ids : List Nat) (hn : ∀ q ∈ ([26, 27, 28] : List Nat), q ∉ ids) (h25 : mm_ok ids 25 1 7) (σ : Mm) : kw_C l0 y_Codes_init (Cond.code y_Codes_init prog_2_method_1_code 1 none :: kw_Ts) rm_Codes_init_25 kw_ov ids [26, 27, 28] [.ref 25] σ (F_Codes_init_25 n  σ) := by
  refine kw_start (L0 := [some (.ref 25)]) hl (by decide +kernel) (Nat.le_of_ble_eq_true rfl) rfl (fun Γ ad C Ce => ?_)
  unfold F_Codes_init_25
  have hA : ∀ q, q ∉ ([] : List Nat) → ad q = ad q := fun _ _ => rfl
  refine kw_aload_n C d_Codes_init_0 rfl ?_
  refine kw_objI C ob_Codes_1 ob_i ob_c (Nat.le_of_ble_eq_true rfl) (Nat.le_of_ble_eq_true rfl) d_Codes_init_1 ?_
  refine kw_aload_n C d_Codes_init_4 rfl ?_
  refine kw_bipush (v := 16) C d_Codes_init_5 (by decide) ?_
  refine kw_newI (o := 26) (cl' := 1) (sl' := 16) C ac_int (hn 26 (by decide)) rfl rfl (by decide) (by decide) (by decide) (kw_lr (by decide : 25 ∉ ([26] : List Nat)) kw_lz) (kw_sr9 (by decide : 25 ∉ ([26] : List Nat)) kw_sz) ⟨rfl, rfl⟩ ⟨Nat.le_of_ble_eq_true rfl, Nat.le_of_ble_eq_true rfl⟩ d_Codes_init_7 (fun ad2 σ1 had2 => ?_)
  have h25 := h25.more [26]
  have hA := kw_ch hA had2
  have h26 : mm_ok (ids ++ [26]) 26 2 0 := ⟨List.mem_append_right _ (List.mem_singleton_self _), rfl, rfl⟩
  refine kw_putOF C rfl (fun _ _ _ h => by have h : some (mmR_7, mmT_7, _) = some _ := h; cases h; rfl) fi_Codes_9 rfl rfl h25 h26 d_Codes_init_9 (fun σ3 => ?_)
  refine kw_aload_n C d_Codes_init_12 rfl ?_
  refine kw_sipush (v := 288) C d_Codes_init_13 (by decide) ?_
  refine kw_newI (o := 27) (cl' := 2) (sl' := 304) C ac_int (kw_fresh (hn 27 (by decide)) (by decide : 27 ∉ [26])) rfl rfl (by decide) (by decide) (by decide) (kw_lr (by decide : 25 ∉ ([27] : List Nat)) kw_lz) (kw_sr9 (by decide : 25 ∉ ([27] : List Nat)) kw_sz) ⟨rfl, rfl⟩ ⟨Nat.le_of_ble_eq_true rfl, Nat.le_of_ble_eq_true rfl⟩ d_Codes_init_16 (fun ad5 σ4 had5 => ?_)
  have h25 := h25.more [27]
  have h26 := h26.more [27]
  have hA := kw_ch hA had5
  have h27 : mm_ok (ids ++ [26] ++ [27]) 27 2 0 := ⟨List.mem_append_right _ (List.mem_singleton_self _), rfl, rfl⟩
  refine kw_putOF C rfl (fun _ _ _ h => by have h : some (mmR_7, mmT_7, _) = some _ := h; cases h; rfl) fi_Codes_13 rfl rfl h25 h27 d_Codes_init_18 (fun σ6 => ?_)
  refine kw_aload_n C d_Codes_init_21 rfl ?_
  refine kw_bipush (v := 16) C d_Codes_init_22 (by decide) ?_
  refine kw_newI (o := 28) (cl' := 3) (sl' := 320) C ac_int (kw_fresh (kw_fresh (hn 28 (by decide)) (by decide : 28 ∉ [26])) (by decide : 28 ∉ [27])) rfl rfl (by decide) (by decide) (by decide) (kw_lr (by decide : 25 ∉ ([28] : List Nat)) kw_lz) (kw_sr9 (by decide : 25 ∉ ([28] : List Nat)) kw_sz) ⟨rfl, rfl⟩ ⟨Nat.le_of_ble_eq_true rfl, Nat.le_of_ble_eq_true rfl⟩ d_Codes_init_24 (fun ad8 σ7 had8 => ?_)
  have h25 := h25.more [28]
  have h26 := h26.more [28]
  have h27 := h27.more [28]
  have hA := kw_ch hA had8
  have h28 : mm_ok (ids ++ [26] ++ [27] ++ [28]) 28 2 0 := ⟨List.mem_append_right _ (List.mem_singleton_self _), rfl, rfl⟩
  refine kw_putOF C rfl (fun _ _ _ h => by have h : some (mmR_7, mmT_7, _) = some _ := h; cases h; rfl) fi_Codes_16 rfl rfl h25 h28 d_Codes_init_26 (fun σ9 => ?_)
  exact kw_vret C Ce rfl (by simp) hA (Nat.le_of_ble_eq_true rfl) (Nat.le_of_ble_eq_true rfl) rfl d_Codes_init_29
def rm_Codes_init_29 : Room := { frames := 1, cells := 3, slots := 320, locals := 20 }
def F_Codes_init_29 (n : Nat)  (σ : Mm) : Option Mm :=
kf_let (mm_nw σ 30) fun σ1 =>
kf_let (pR σ1 (64 * 29 + 0) (some 30)) fun σ3 =>
kf_let (mm_nw σ3 31) fun σ4 =>
kf_let (pR σ4 (64 * 29 + 1) (some 31)) fun σ6 =>
kf_let (mm_nw σ6 32) fun σ7 =>
kf_let (pR σ7 (64 * 29 + 2) (some 32)) fun σ9 =>
some σ9
set_option maxRecDepth 100000 in
set_option maxHeartbeats 4000000 in
theorem c_Codes_init_29 {l0 : Launch} (hl : l0.stackTraces = false) (n : Nat) (ids : List Nat) (hn : ∀ q ∈ ([30, 31, 32] : List Nat), q ∉ ids) (h29 : mm_ok ids 29 1 7) (σ : Mm) : kw_C l0 y_Codes_init (Cond.code y_Codes_init prog_2_method_1_code 1 none :: kw_Ts) rm_Codes_init_29 kw_ov ids [30, 31, 32] [.ref 29] σ (F_Codes_init_29 n  σ) := by
  refine kw_start (L0 := [some (.ref 29)]) hl (by decide +kernel) (Nat.le_of_ble_eq_true rfl) rfl (fun Γ ad C Ce => ?_)
  unfold F_Codes_init_29
  have hA : ∀ q, q ∉ ([] : List Nat) → ad q = ad q := fun _ _ => rfl
  refine kw_aload_n C d_Codes_init_0 rfl ?_
  refine kw_objI C ob_Codes_1 ob_i ob_c (Nat.le_of_ble_eq_true rfl) (Nat.le_of_ble_eq_true rfl) d_Codes_init_1 ?_
  refine kw_aload_n C d_Codes_init_4 rfl ?_
  refine kw_bipush (v := 16) C d_Codes_init_5 (by decide) ?_
  refine kw_newI (o := 30) (cl' := 1) (sl' := 16) C ac_int (hn 30 (by decide)) rfl rfl (by decide) (by decide) (by decide) (kw_lr (by decide : 29 ∉ ([30] : List Nat)) kw_lz) (kw_sr9 (by decide : 29 ∉ ([30] : List Nat)) kw_sz) ⟨rfl, rfl⟩ ⟨Nat.le_of_ble_eq_true rfl, Nat.le_of_ble_eq_true rfl⟩ d_Codes_init_7 (fun ad2 σ1 had2 => ?_)
  have h29 := h29.more [30]
  have hA := kw_ch hA had2
  have h30 : mm_ok (ids ++ [30]) 30 2 0 := ⟨List.mem_append_right _ (List.mem_singleton_self _), rfl, rfl⟩
  refine kw_putOF C rfl (fun _ _ _ h => by have h : some (mmR_7, mmT_7, _) = some _ := h; cases h; rfl) fi_Codes_9 rfl rfl h29 h30 d_Codes_init_9 (fun σ3 => ?_)
  refine kw_aload_n C d_Codes_init_12 rfl ?_
  refine kw_sipush (v := 288) C d_Codes_init_13 (by decide) ?_
  refine kw_newI (o := 31) (cl' := 2) (sl' := 304) C ac_int (kw_fresh (hn 31 (by decide)) (by decide : 31 ∉ [30])) rfl rfl (by decide) (by decide) (by decide) (kw_lr (by decide : 29 ∉ ([31] : List Nat)) kw_lz) (kw_sr9 (by decide : 29 ∉ ([31] : List Nat)) kw_sz) ⟨rfl, rfl⟩ ⟨Nat.le_of_ble_eq_true rfl, Nat.le_of_ble_eq_true rfl⟩ d_Codes_init_16 (fun ad5 σ4 had5 => ?_)
  have h29 := h29.more [31]
  have h30 := h30.more [31]
  have hA := kw_ch hA had5
  have h31 : mm_ok (ids ++ [30] ++ [31]) 31 2 0 := ⟨List.mem_append_right _ (List.mem_singleton_self _), rfl, rfl⟩
  refine kw_putOF C rfl (fun _ _ _ h => by have h : some (mmR_7, mmT_7, _) = some _ := h; cases h; rfl) fi_Codes_13 rfl rfl h29 h31 d_Codes_init_18 (fun σ6 => ?_)
  refine kw_aload_n C d_Codes_init_21 rfl ?_
  refine kw_bipush (v := 16) C d_Codes_init_22 (by decide) ?_
  refine kw_newI (o := 32) (cl' := 3) (sl' := 320) C ac_int (kw_fresh (kw_fresh (hn 32 (by decide)) (by decide : 32 ∉ [30])) (by decide : 32 ∉ [31])) rfl rfl (by decide) (by decide) (by decide) (kw_lr (by decide : 29 ∉ ([32] : List Nat)) kw_lz) (kw_sr9 (by decide : 29 ∉ ([32] : List Nat)) kw_sz) ⟨rfl, rfl⟩ ⟨Nat.le_of_ble_eq_true rfl, Nat.le_of_ble_eq_true rfl⟩ d_Codes_init_24 (fun ad8 σ7 had8 => ?_)
  have h29 := h29.more [32]
  have h30 := h30.more [32]
  have h31 := h31.more [32]
  have hA := kw_ch hA had8
  have h32 : mm_ok (ids ++ [30] ++ [31] ++ [32]) 32 2 0 := ⟨List.mem_append_right _ (List.mem_singleton_self _), rfl, rfl⟩
  refine kw_putOF C rfl (fun _ _ _ h => by have h : some (mmR_7, mmT_7, _) = some _ := h; cases h; rfl) fi_Codes_16 rfl rfl h29 h32 d_Codes_init_26 (fun σ9 => ?_)
  exact kw_vret C Ce rfl (by simp) hA (Nat.le_of_ble_eq_true rfl) (Nat.le_of_ble_eq_true rfl) rfl d_Codes_init_29
def rm_Unpacker_init_12 : Room := { frames := 2, cells := 21, slots := 1945, locals := 48 }
def F_Unpacker_init_12 (n : Nat) (r0 : Nat) (r1 : Nat) (r2 : Nat) (σ : Mm) : Option Mm :=
kf_let (mm_nw σ 13) fun σ1 =>
Option.bind (F_Codes_init_13 n  σ1) fun σ3 =>
kf_let (pR σ3 (64 * 12 + 4) (some 13)) fun σ5 =>
kf_let (mm_nw σ5 17) fun σ6 =>
Option.bind (F_Codes_init_17 n  σ6) fun σ8 =>
kf_let (pR σ8 (64 * 12 + 5) (some 17)) fun σ10 =>
kf_let (mm_nw σ10 21) fun σ11 =>
Option.bind (F_Codes_init_21 n  σ11) fun σ13 =>
kf_let (pR σ13 (64 * 12 + 6) (some 21)) fun σ15 =>
kf_let (mm_nw σ15 25) fun σ16 =>
Option.bind (F_Codes_init_25 n  σ16) fun σ18 =>
kf_let (pR σ18 (64 * 12 + 7) (some 25)) fun σ20 =>
kf_let (mm_nw σ20 29) fun σ21 =>
Option.bind (F_Codes_init_29 n  σ21) fun σ23 =>
kf_let (pR σ23 (64 * 12 + 8) (some 29)) fun σ25 =>
kf_let (mm_nw σ25 33) fun σ26 =>
kf_let (pR σ26 (64 * 12 + 9) (some 33)) fun σ28 =>
kf_let (pR σ28 (64 * 12 + 0) (some r0)) fun σ29 =>
kf_let (pR σ29 (64 * 12 + 1) (some r1)) fun σ30 =>
kf_let (pR σ30 (64 * 12 + 2) (some r2)) fun σ31 =>
Option.bind (gR σ31 (64 * r2 + 0)) fun o32 =>
kf_let (pR σ31 (64 * 12 + 3) (some o32)) fun σ33 =>
kf_l (α := Int32) n (fun k34 x35 σ36 =>
if 288 ≤ x35 then (
Option.bind (gR σ36 (64 * 12 + 4)) fun o37 =>
Option.bind (gR σ36 (64 * 12 + 9)) fun o38 =>
Option.bind (F_Codes_assign n o37 o38 0 288 σ36) fun σ39 =>
kf_l (α := Int32) n (fun k40 x41 σ42 =>
if 32 ≤ x41 then (
Option.bind (gR σ42 (64 * 12 + 5)) fun o43 =>
Option.bind (gR σ42 (64 * 12 + 9)) fun o44 =>
Option.bind (F_Codes_assign n o43 o44 0 32 σ42) fun σ45 =>
some σ45) else (
Option.bind (gR σ42 (64 * 12 + 9)) fun o46 =>
kf_in x41 (mm_kd o46).2.2 <| kf_let (pB σ42 o46 x41.toNatClampNeg 5) fun σ47 =>
kf_let (x41 + Int32.ofInt 1) fun x48 =>
k40 x48 σ47)) 0 σ39) else (
Option.bind (gR σ36 (64 * 12 + 9)) fun o49 =>
kf_j (α := Int32 × Int32) (fun x51 σ52 =>
kf_in x51.1 (mm_kd o49).2.2 <| kf_let (pB σ52 o49 x51.1.toNatClampNeg x51.2) fun σ53 =>
kf_let (x35 + Int32.ofInt 1) fun x54 =>
k34 x54 σ53) fun k50 =>
if 144 ≤ x35 then (
if 256 ≤ x35 then (
if 280 ≤ x35 then (
k50 (x35, 8) σ36) else (
k50 (x35, 7) σ36)) else (
k50 (x35, 9) σ36)) else (
k50 (x35, 8) σ36))) 0 σ33
theorem d_Unpacker_init_0 : decode prog_11_method_1_code 0 = .ok (.aload_n 0, 1) := by decide +kernel
theorem d_Unpacker_init_1 : decode prog_11_method_1_code 1 = .ok (.invokespecial 5, 3) := by decide +kernel
theorem d_Unpacker_init_4 : decode prog_11_method_1_code 4 = .ok (.aload_n 0, 1) := by decide +kernel
theorem d_Unpacker_init_5 : decode prog_11_method_1_code 5 = .ok (.new 11, 3) := by decide +kernel
theorem d_Unpacker_init_8 : decode prog_11_method_1_code 8 = .ok (.dup, 1) := by decide +kernel
theorem d_Unpacker_init_9 : decode prog_11_method_1_code 9 = .ok (.invokespecial 13, 3) := by decide +kernel
theorem d_Unpacker_init_12 : decode prog_11_method_1_code 12 = .ok (.putfield 14, 3) := by decide +kernel
theorem d_Unpacker_init_15 : decode prog_11_method_1_code 15 = .ok (.aload_n 0, 1) := by decide +kernel
theorem d_Unpacker_init_16 : decode prog_11_method_1_code 16 = .ok (.new 11, 3) := by decide +kernel
theorem d_Unpacker_init_19 : decode prog_11_method_1_code 19 = .ok (.dup, 1) := by decide +kernel
theorem d_Unpacker_init_20 : decode prog_11_method_1_code 20 = .ok (.invokespecial 13, 3) := by decide +kernel
theorem d_Unpacker_init_23 : decode prog_11_method_1_code 23 = .ok (.putfield 20, 3) := by decide +kernel
theorem d_Unpacker_init_26 : decode prog_11_method_1_code 26 = .ok (.aload_n 0, 1) := by decide +kernel
theorem d_Unpacker_init_27 : decode prog_11_method_1_code 27 = .ok (.new 11, 3) := by decide +kernel
theorem d_Unpacker_init_30 : decode prog_11_method_1_code 30 = .ok (.dup, 1) := by decide +kernel
theorem d_Unpacker_init_31 : decode prog_11_method_1_code 31 = .ok (.invokespecial 13, 3) := by decide +kernel
theorem d_Unpacker_init_34 : decode prog_11_method_1_code 34 = .ok (.putfield 23, 3) := by decide +kernel
theorem d_Unpacker_init_37 : decode prog_11_method_1_code 37 = .ok (.aload_n 0, 1) := by decide +kernel
theorem d_Unpacker_init_38 : decode prog_11_method_1_code 38 = .ok (.new 11, 3) := by decide +kernel
theorem d_Unpacker_init_41 : decode prog_11_method_1_code 41 = .ok (.dup, 1) := by decide +kernel
theorem d_Unpacker_init_42 : decode prog_11_method_1_code 42 = .ok (.invokespecial 13, 3) := by decide +kernel
theorem d_Unpacker_init_45 : decode prog_11_method_1_code 45 = .ok (.putfield 26, 3) := by decide +kernel
theorem d_Unpacker_init_48 : decode prog_11_method_1_code 48 = .ok (.aload_n 0, 1) := by decide +kernel
theorem d_Unpacker_init_49 : decode prog_11_method_1_code 49 = .ok (.new 11, 3) := by decide +kernel
theorem d_Unpacker_init_52 : decode prog_11_method_1_code 52 = .ok (.dup, 1) := by decide +kernel
theorem d_Unpacker_init_53 : decode prog_11_method_1_code 53 = .ok (.invokespecial 13, 3) := by decide +kernel
theorem d_Unpacker_init_56 : decode prog_11_method_1_code 56 = .ok (.putfield 29, 3) := by decide +kernel
theorem d_Unpacker_init_59 : decode prog_11_method_1_code 59 = .ok (.aload_n 0, 1) := by decide +kernel
theorem d_Unpacker_init_60 : decode prog_11_method_1_code 60 = .ok (.sipush 320, 3) := by decide +kernel
theorem d_Unpacker_init_63 : decode prog_11_method_1_code 63 = .ok (.newarray .int, 2) := by decide +kernel
theorem d_Unpacker_init_65 : decode prog_11_method_1_code 65 = .ok (.putfield 32, 3) := by decide +kernel
theorem d_Unpacker_init_68 : decode prog_11_method_1_code 68 = .ok (.aload_n 0, 1) := by decide +kernel
theorem d_Unpacker_init_69 : decode prog_11_method_1_code 69 = .ok (.aload_n 1, 1) := by decide +kernel
theorem d_Unpacker_init_70 : decode prog_11_method_1_code 70 = .ok (.putfield 36, 3) := by decide +kernel
theorem d_Unpacker_init_73 : decode prog_11_method_1_code 73 = .ok (.aload_n 0, 1) := by decide +kernel
theorem d_Unpacker_init_74 : decode prog_11_method_1_code 74 = .ok (.aload_n 2, 1) := by decide +kernel
theorem d_Unpacker_init_75 : decode prog_11_method_1_code 75 = .ok (.putfield 40, 3) := by decide +kernel
theorem d_Unpacker_init_78 : decode prog_11_method_1_code 78 = .ok (.aload_n 0, 1) := by decide +kernel
theorem d_Unpacker_init_79 : decode prog_11_method_1_code 79 = .ok (.aload_n 3, 1) := by decide +kernel
theorem d_Unpacker_init_80 : decode prog_11_method_1_code 80 = .ok (.putfield 44, 3) := by decide +kernel
theorem d_Unpacker_init_83 : decode prog_11_method_1_code 83 = .ok (.aload_n 0, 1) := by decide +kernel
theorem d_Unpacker_init_84 : decode prog_11_method_1_code 84 = .ok (.aload_n 3, 1) := by decide +kernel
theorem d_Unpacker_init_85 : decode prog_11_method_1_code 85 = .ok (.getfield 48, 3) := by decide +kernel
theorem d_Unpacker_init_88 : decode prog_11_method_1_code 88 = .ok (.putfield 53, 3) := by decide +kernel
theorem d_Unpacker_init_91 : decode prog_11_method_1_code 91 = .ok (.iconst 0, 1) := by decide +kernel
theorem d_Unpacker_init_92 : decode prog_11_method_1_code 92 = .ok (.istore 4, 2) := by decide +kernel
theorem d_Unpacker_init_94 : decode prog_11_method_1_code 94 = .ok (.iload 4, 2) := by decide +kernel
theorem d_Unpacker_init_96 : decode prog_11_method_1_code 96 = .ok (.sipush 288, 3) := by decide +kernel
theorem d_Unpacker_init_99 : decode prog_11_method_1_code 99 = .ok (.if_icmp .ge 57, 3) := by decide +kernel
theorem d_Unpacker_init_102 : decode prog_11_method_1_code 102 = .ok (.aload_n 0, 1) := by decide +kernel
theorem d_Unpacker_init_103 : decode prog_11_method_1_code 103 = .ok (.getfield 32, 3) := by decide +kernel
theorem d_Unpacker_init_106 : decode prog_11_method_1_code 106 = .ok (.iload 4, 2) := by decide +kernel
theorem d_Unpacker_init_108 : decode prog_11_method_1_code 108 = .ok (.iload 4, 2) := by decide +kernel
theorem d_Unpacker_init_110 : decode prog_11_method_1_code 110 = .ok (.sipush 144, 3) := by decide +kernel
theorem d_Unpacker_init_113 : decode prog_11_method_1_code 113 = .ok (.if_icmp .ge 8, 3) := by decide +kernel
theorem d_Unpacker_init_116 : decode prog_11_method_1_code 116 = .ok (.bipush 8, 2) := by decide +kernel
theorem d_Unpacker_init_118 : decode prog_11_method_1_code 118 = .ok (.goto 31, 3) := by decide +kernel
theorem d_Unpacker_init_121 : decode prog_11_method_1_code 121 = .ok (.iload 4, 2) := by decide +kernel
theorem d_Unpacker_init_123 : decode prog_11_method_1_code 123 = .ok (.sipush 256, 3) := by decide +kernel
theorem d_Unpacker_init_126 : decode prog_11_method_1_code 126 = .ok (.if_icmp .ge 8, 3) := by decide +kernel
theorem d_Unpacker_init_129 : decode prog_11_method_1_code 129 = .ok (.bipush 9, 2) := by decide +kernel
theorem d_Unpacker_init_131 : decode prog_11_method_1_code 131 = .ok (.goto 18, 3) := by decide +kernel
theorem d_Unpacker_init_134 : decode prog_11_method_1_code 134 = .ok (.iload 4, 2) := by decide +kernel
theorem d_Unpacker_init_136 : decode prog_11_method_1_code 136 = .ok (.sipush 280, 3) := by decide +kernel
theorem d_Unpacker_init_139 : decode prog_11_method_1_code 139 = .ok (.if_icmp .ge 8, 3) := by decide +kernel
theorem d_Unpacker_init_142 : decode prog_11_method_1_code 142 = .ok (.bipush 7, 2) := by decide +kernel
theorem d_Unpacker_init_144 : decode prog_11_method_1_code 144 = .ok (.goto 5, 3) := by decide +kernel
theorem d_Unpacker_init_147 : decode prog_11_method_1_code 147 = .ok (.bipush 8, 2) := by decide +kernel
theorem d_Unpacker_init_149 : decode prog_11_method_1_code 149 = .ok (.iastore, 1) := by decide +kernel
theorem d_Unpacker_init_150 : decode prog_11_method_1_code 150 = .ok (.iinc 4 1, 3) := by decide +kernel
theorem d_Unpacker_init_153 : decode prog_11_method_1_code 153 = .ok (.goto (-59), 3) := by decide +kernel
theorem d_Unpacker_init_156 : decode prog_11_method_1_code 156 = .ok (.aload_n 0, 1) := by decide +kernel
theorem d_Unpacker_init_157 : decode prog_11_method_1_code 157 = .ok (.getfield 14, 3) := by decide +kernel
theorem d_Unpacker_init_160 : decode prog_11_method_1_code 160 = .ok (.aload_n 0, 1) := by decide +kernel
theorem d_Unpacker_init_161 : decode prog_11_method_1_code 161 = .ok (.getfield 32, 3) := by decide +kernel
theorem d_Unpacker_init_164 : decode prog_11_method_1_code 164 = .ok (.iconst 0, 1) := by decide +kernel
theorem d_Unpacker_init_165 : decode prog_11_method_1_code 165 = .ok (.sipush 288, 3) := by decide +kernel
theorem d_Unpacker_init_168 : decode prog_11_method_1_code 168 = .ok (.invokevirtual 54, 3) := by decide +kernel
theorem d_Unpacker_init_171 : decode prog_11_method_1_code 171 = .ok (.iconst 0, 1) := by decide +kernel
theorem d_Unpacker_init_172 : decode prog_11_method_1_code 172 = .ok (.istore 4, 2) := by decide +kernel
theorem d_Unpacker_init_174 : decode prog_11_method_1_code 174 = .ok (.iload 4, 2) := by decide +kernel
theorem d_Unpacker_init_176 : decode prog_11_method_1_code 176 = .ok (.bipush 32, 2) := by decide +kernel
theorem d_Unpacker_init_178 : decode prog_11_method_1_code 178 = .ok (.if_icmp .ge 17, 3) := by decide +kernel
theorem d_Unpacker_init_181 : decode prog_11_method_1_code 181 = .ok (.aload_n 0, 1) := by decide +kernel
theorem d_Unpacker_init_182 : decode prog_11_method_1_code 182 = .ok (.getfield 32, 3) := by decide +kernel
theorem d_Unpacker_init_185 : decode prog_11_method_1_code 185 = .ok (.iload 4, 2) := by decide +kernel
theorem d_Unpacker_init_187 : decode prog_11_method_1_code 187 = .ok (.iconst 5, 1) := by decide +kernel
theorem d_Unpacker_init_188 : decode prog_11_method_1_code 188 = .ok (.iastore, 1) := by decide +kernel
theorem d_Unpacker_init_189 : decode prog_11_method_1_code 189 = .ok (.iinc 4 1, 3) := by decide +kernel
theorem d_Unpacker_init_192 : decode prog_11_method_1_code 192 = .ok (.goto (-18), 3) := by decide +kernel
theorem d_Unpacker_init_195 : decode prog_11_method_1_code 195 = .ok (.aload_n 0, 1) := by decide +kernel
theorem d_Unpacker_init_196 : decode prog_11_method_1_code 196 = .ok (.getfield 20, 3) := by decide +kernel
theorem d_Unpacker_init_199 : decode prog_11_method_1_code 199 = .ok (.aload_n 0, 1) := by decide +kernel
theorem d_Unpacker_init_200 : decode prog_11_method_1_code 200 = .ok (.getfield 32, 3) := by decide +kernel
theorem d_Unpacker_init_203 : decode prog_11_method_1_code 203 = .ok (.iconst 0, 1) := by decide +kernel
theorem d_Unpacker_init_204 : decode prog_11_method_1_code 204 = .ok (.bipush 32, 2) := by decide +kernel
theorem d_Unpacker_init_206 : decode prog_11_method_1_code 206 = .ok (.invokevirtual 54, 3) := by decide +kernel
theorem d_Unpacker_init_209 : decode prog_11_method_1_code 209 = .ok (.return_, 1) := by decide +kernel
set_option maxRecDepth 100000 in
set_option maxHeartbeats 4000000 in
theorem c_Unpacker_init_12 {l0 : Launch} (hl : l0.stackTraces = false) (n : Nat) (ids : List Nat) (hn : ∀ q ∈ ([13, 14, 15, 16, 17, 18, 19, 20, 21, 22, 23, 24, 25, 26, 27, 28, 29, 30, 31, 32, 33] : List Nat), q ∉ ids) (h12 : mm_ok ids 12 1 6) {r0 : Nat} (hr0 : mm_ok ids r0 1 4) {r1 : Nat} (hr1 : mm_ok ids r1 1 2) {r2 : Nat} (hr2 : mm_ok ids r2 1 3) (σ : Mm) : kw_C l0 y_Unpacker_init (Cond.code y_Unpacker_init prog_11_method_1_code 5 none :: kw_Ts) rm_Unpacker_init_12 kw_ov ids [13, 14, 15, 16, 17, 18, 19, 20, 21, 22, 23, 24, 25, 26, 27, 28, 29, 30, 31, 32, 33] [.ref 12, .ref r0, .ref r1, .ref r2] σ (F_Unpacker_init_12 n r0 r1 r2 σ) := by
  refine kw_start (L0 := [some (.ref 12), some (.ref r0), some (.ref r1), some (.ref r2), none]) hl (by decide +kernel) (Nat.le_of_ble_eq_true rfl) rfl (fun Γ ad C Ce => ?_)
  unfold F_Unpacker_init_12
  have hA : ∀ q, q ∉ ([] : List Nat) → ad q = ad q := fun _ _ => rfl
  have hN_r0 : ∀ q ∈ [13, 14, 15, 16, 17, 18, 19, 20, 21, 22, 23, 24, 25, 26, 27, 28, 29, 30, 31, 32, 33], r0 ≠ q := fun q hq z => hn q hq (z ▸ hr0.1)
  have hN_r1 : ∀ q ∈ [13, 14, 15, 16, 17, 18, 19, 20, 21, 22, 23, 24, 25, 26, 27, 28, 29, 30, 31, 32, 33], r1 ≠ q := fun q hq z => hn q hq (z ▸ hr1.1)
  have hN_r2 : ∀ q ∈ [13, 14, 15, 16, 17, 18, 19, 20, 21, 22, 23, 24, 25, 26, 27, 28, 29, 30, 31, 32, 33], r2 ≠ q := fun q hq z => hn q hq (z ▸ hr2.1)
  refine kw_aload_n C d_Unpacker_init_0 rfl ?_
  refine kw_objI C ob_Unpacker_5 ob_i ob_c (Nat.le_of_ble_eq_true rfl) (Nat.le_of_ble_eq_true rfl) d_Unpacker_init_1 ?_
  refine kw_aload_n C d_Unpacker_init_4 rfl ?_
  refine kw_new (o := 13) (cl' := 1) (sl' := 5) C nj_Unpacker_11 (hn 13 (by decide)) rfl rfl (kw_lr (by decide : 12 ∉ ([13] : List Nat)) (kw_lr (fun z => hN_r0 _ ((by decide : ∀ q ∈ ([13] : List Nat), q ∈ [13, 14, 15, 16, 17, 18, 19, 20, 21, 22, 23, 24, 25, 26, 27, 28, 29, 30, 31, 32, 33]) _ z) rfl) (kw_lr (fun z => hN_r1 _ ((by decide : ∀ q ∈ ([13] : List Nat), q ∈ [13, 14, 15, 16, 17, 18, 19, 20, 21, 22, 23, 24, 25, 26, 27, 28, 29, 30, 31, 32, 33]) _ z) rfl) (kw_lr (fun z => hN_r2 _ ((by decide : ∀ q ∈ ([13] : List Nat), q ∈ [13, 14, 15, 16, 17, 18, 19, 20, 21, 22, 23, 24, 25, 26, 27, 28, 29, 30, 31, 32, 33]) _ z) rfl) (kw_ln kw_lz))))) (kw_sr9 (by decide : 12 ∉ ([13] : List Nat)) kw_sz) ⟨rfl, rfl⟩ ⟨Nat.le_of_ble_eq_true rfl, Nat.le_of_ble_eq_true rfl⟩ d_Unpacker_init_5 (fun ad2 σ1 had2 => ?_)
  have h12 := h12.more [13]
  have hr0 := hr0.more [13]
  have hr1 := hr1.more [13]
  have hr2 := hr2.more [13]
  have hA := kw_ch hA had2
  have h13 : mm_ok (ids ++ [13]) 13 1 7 := ⟨List.mem_append_right _ (List.mem_singleton_self _), rfl, rfl⟩
  refine kw_dup C d_Unpacker_init_8 rfl ?_
  refine kw_callI (As := []) (cl' := 4) (sl' := 325) C (c_Codes_init_13 hl n (ids ++ [13]) (fun q9 h9 => kw_fresh (hn q9 ((by decide : ∀ q ∈ ([14, 15, 16] : List Nat), q ∈ [13, 14, 15, 16, 17, 18, 19, 20, 21, 22, 23, 24, 25, 26, 27, 28, 29, 30, 31, 32, 33]) q9 h9)) ((by decide : ∀ q ∈ ([14, 15, 16] : List Nat), q ∉ ([13] : List Nat)) q9 h9)) h13 σ1) li_Unpacker_13 w_Codes_init in_Codes iv_Codes_init rfl m4_Codes_init ⟨Nat.le_of_ble_eq_true rfl, Nat.le_of_ble_eq_true rfl⟩ (Nat.le_of_ble_eq_true rfl) ⟨Nat.le_of_ble_eq_true rfl, Nat.le_of_ble_eq_true rfl⟩ ⟨rfl, rfl⟩ rfl (kw_lr (by decide : 12 ∉ ([14, 15, 16] : List Nat)) (kw_lr (fun z => hN_r0 _ ((by decide : ∀ q ∈ ([14, 15, 16] : List Nat), q ∈ [13, 14, 15, 16, 17, 18, 19, 20, 21, 22, 23, 24, 25, 26, 27, 28, 29, 30, 31, 32, 33]) _ z) rfl) (kw_lr (fun z => hN_r1 _ ((by decide : ∀ q ∈ ([14, 15, 16] : List Nat), q ∈ [13, 14, 15, 16, 17, 18, 19, 20, 21, 22, 23, 24, 25, 26, 27, 28, 29, 30, 31, 32, 33]) _ z) rfl) (kw_lr (fun z => hN_r2 _ ((by decide : ∀ q ∈ ([14, 15, 16] : List Nat), q ∈ [13, 14, 15, 16, 17, 18, 19, 20, 21, 22, 23, 24, 25, 26, 27, 28, 29, 30, 31, 32, 33]) _ z) rfl) (kw_ln kw_lz))))) (kw_sr9 (by decide : 13 ∉ ([14, 15, 16] : List Nat)) (kw_sr9 (by decide : 12 ∉ ([14, 15, 16] : List Nat)) kw_sz)) d_Unpacker_init_9 (fun ad4 σ3 had4 => ?_)
  have h12 := h12.more [14, 15, 16]
  have hr0 := hr0.more [14, 15, 16]
  have hr1 := hr1.more [14, 15, 16]
  have hr2 := hr2.more [14, 15, 16]
  have h13 := h13.more [14, 15, 16]
  have hA := kw_ch hA had4
  refine kw_putOF C rfl (fun _ _ _ h => by have h : some (mmR_6, mmT_6, _) = some _ := h; cases h; rfl) fi_Unpacker_14 rfl rfl h12 h13 d_Unpacker_init_12 (fun σ5 => ?_)
  refine kw_aload_n C d_Unpacker_init_15 rfl ?_
  refine kw_new (o := 17) (cl' := 5) (sl' := 330) C nj_Unpacker_11 (kw_fresh (kw_fresh (hn 17 (by decide)) (by decide : 17 ∉ [13])) (by decide : 17 ∉ [14, 15, 16])) rfl rfl (kw_lr (by decide : 12 ∉ ([17] : List Nat)) (kw_lr (fun z => hN_r0 _ ((by decide : ∀ q ∈ ([17] : List Nat), q ∈ [13, 14, 15, 16, 17, 18, 19, 20, 21, 22, 23, 24, 25, 26, 27, 28, 29, 30, 31, 32, 33]) _ z) rfl) (kw_lr (fun z => hN_r1 _ ((by decide : ∀ q ∈ ([17] : List Nat), q ∈ [13, 14, 15, 16, 17, 18, 19, 20, 21, 22, 23, 24, 25, 26, 27, 28, 29, 30, 31, 32, 33]) _ z) rfl) (kw_lr (fun z => hN_r2 _ ((by decide : ∀ q ∈ ([17] : List Nat), q ∈ [13, 14, 15, 16, 17, 18, 19, 20, 21, 22, 23, 24, 25, 26, 27, 28, 29, 30, 31, 32, 33]) _ z) rfl) (kw_ln kw_lz))))) (kw_sr9 (by decide : 12 ∉ ([17] : List Nat)) kw_sz) ⟨rfl, rfl⟩ ⟨Nat.le_of_ble_eq_true rfl, Nat.le_of_ble_eq_true rfl⟩ d_Unpacker_init_16 (fun ad7 σ6 had7 => ?_)
  have h12 := h12.more [17]
  have hr0 := hr0.more [17]
  have hr1 := hr1.more [17]
  have hr2 := hr2.more [17]
  have h13 := h13.more [17]
  have hA := kw_ch hA had7
  have h17 : mm_ok (ids ++ [13] ++ [14, 15, 16] ++ [17]) 17 1 7 := ⟨List.mem_append_right _ (List.mem_singleton_self _), rfl, rfl⟩
  refine kw_dup C d_Unpacker_init_19 rfl ?_
  refine kw_callI (As := []) (cl' := 8) (sl' := 650) C (c_Codes_init_17 hl n (ids ++ [13] ++ [14, 15, 16] ++ [17]) (fun q9 h9 => kw_fresh (kw_fresh (kw_fresh (hn q9 ((by decide : ∀ q ∈ ([18, 19, 20] : List Nat), q ∈ [13, 14, 15, 16, 17, 18, 19, 20, 21, 22, 23, 24, 25, 26, 27, 28, 29, 30, 31, 32, 33]) q9 h9)) ((by decide : ∀ q ∈ ([18, 19, 20] : List Nat), q ∉ ([13] : List Nat)) q9 h9)) ((by decide : ∀ q ∈ ([18, 19, 20] : List Nat), q ∉ ([14, 15, 16] : List Nat)) q9 h9)) ((by decide : ∀ q ∈ ([18, 19, 20] : List Nat), q ∉ ([17] : List Nat)) q9 h9)) h17 σ6) li_Unpacker_13 w_Codes_init in_Codes iv_Codes_init rfl m4_Codes_init ⟨Nat.le_of_ble_eq_true rfl, Nat.le_of_ble_eq_true rfl⟩ (Nat.le_of_ble_eq_true rfl) ⟨Nat.le_of_ble_eq_true rfl, Nat.le_of_ble_eq_true rfl⟩ ⟨rfl, rfl⟩ rfl (kw_lr (by decide : 12 ∉ ([18, 19, 20] : List Nat)) (kw_lr (fun z => hN_r0 _ ((by decide : ∀ q ∈ ([18, 19, 20] : List Nat), q ∈ [13, 14, 15, 16, 17, 18, 19, 20, 21, 22, 23, 24, 25, 26, 27, 28, 29, 30, 31, 32, 33]) _ z) rfl) (kw_lr (fun z => hN_r1 _ ((by decide : ∀ q ∈ ([18, 19, 20] : List Nat), q ∈ [13, 14, 15, 16, 17, 18, 19, 20, 21, 22, 23, 24, 25, 26, 27, 28, 29, 30, 31, 32, 33]) _ z) rfl) (kw_lr (fun z => hN_r2 _ ((by decide : ∀ q ∈ ([18, 19, 20] : List Nat), q ∈ [13, 14, 15, 16, 17, 18, 19, 20, 21, 22, 23, 24, 25, 26, 27, 28, 29, 30, 31, 32, 33]) _ z) rfl) (kw_ln kw_lz))))) (kw_sr9 (by decide : 17 ∉ ([18, 19, 20] : List Nat)) (kw_sr9 (by decide : 12 ∉ ([18, 19, 20] : List Nat)) kw_sz)) d_Unpacker_init_20 (fun ad9 σ8 had9 => ?_)
  have h12 := h12.more [18, 19, 20]
  have hr0 := hr0.more [18, 19, 20]
  have hr1 := hr1.more [18, 19, 20]
  have hr2 := hr2.more [18, 19, 20]
  have h13 := h13.more [18, 19, 20]
  have h17 := h17.more [18, 19, 20]
  have hA := kw_ch hA had9
  refine kw_putOF C rfl (fun _ _ _ h => by have h : some (mmR_6, mmT_6, _) = some _ := h; cases h; rfl) fi_Unpacker_20 rfl rfl h12 h17 d_Unpacker_init_23 (fun σ10 => ?_)
  refine kw_aload_n C d_Unpacker_init_26 rfl ?_
  refine kw_new (o := 21) (cl' := 9) (sl' := 655) C nj_Unpacker_11 (kw_fresh (kw_fresh (kw_fresh (kw_fresh (hn 21 (by decide)) (by decide : 21 ∉ [13])) (by decide : 21 ∉ [14, 15, 16])) (by decide : 21 ∉ [17])) (by decide : 21 ∉ [18, 19, 20])) rfl rfl (kw_lr (by decide : 12 ∉ ([21] : List Nat)) (kw_lr (fun z => hN_r0 _ ((by decide : ∀ q ∈ ([21] : List Nat), q ∈ [13, 14, 15, 16, 17, 18, 19, 20, 21, 22, 23, 24, 25, 26, 27, 28, 29, 30, 31, 32, 33]) _ z) rfl) (kw_lr (fun z => hN_r1 _ ((by decide : ∀ q ∈ ([21] : List Nat), q ∈ [13, 14, 15, 16, 17, 18, 19, 20, 21, 22, 23, 24, 25, 26, 27, 28, 29, 30, 31, 32, 33]) _ z) rfl) (kw_lr (fun z => hN_r2 _ ((by decide : ∀ q ∈ ([21] : List Nat), q ∈ [13, 14, 15, 16, 17, 18, 19, 20, 21, 22, 23, 24, 25, 26, 27, 28, 29, 30, 31, 32, 33]) _ z) rfl) (kw_ln kw_lz))))) (kw_sr9 (by decide : 12 ∉ ([21] : List Nat)) kw_sz) ⟨rfl, rfl⟩ ⟨Nat.le_of_ble_eq_true rfl, Nat.le_of_ble_eq_true rfl⟩ d_Unpacker_init_27 (fun ad12 σ11 had12 => ?_)
  have h12 := h12.more [21]
  have hr0 := hr0.more [21]
  have hr1 := hr1.more [21]
  have hr2 := hr2.more [21]
  have h13 := h13.more [21]
  have h17 := h17.more [21]
  have hA := kw_ch hA had12
  have h21 : mm_ok (ids ++ [13] ++ [14, 15, 16] ++ [17] ++ [18, 19, 20] ++ [21]) 21 1 7 := ⟨List.mem_append_right _ (List.mem_singleton_self _), rfl, rfl⟩
  refine kw_dup C d_Unpacker_init_30 rfl ?_
  refine kw_callI (As := []) (cl' := 12) (sl' := 975) C (c_Codes_init_21 hl n (ids ++ [13] ++ [14, 15, 16] ++ [17] ++ [18, 19, 20] ++ [21]) (fun q9 h9 => kw_fresh (kw_fresh (kw_fresh (kw_fresh (kw_fresh (hn q9 ((by decide : ∀ q ∈ ([22, 23, 24] : List Nat), q ∈ [13, 14, 15, 16, 17, 18, 19, 20, 21, 22, 23, 24, 25, 26, 27, 28, 29, 30, 31, 32, 33]) q9 h9)) ((by decide : ∀ q ∈ ([22, 23, 24] : List Nat), q ∉ ([13] : List Nat)) q9 h9)) ((by decide : ∀ q ∈ ([22, 23, 24] : List Nat), q ∉ ([14, 15, 16] : List Nat)) q9 h9)) ((by decide : ∀ q ∈ ([22, 23, 24] : List Nat), q ∉ ([17] : List Nat)) q9 h9)) ((by decide : ∀ q ∈ ([22, 23, 24] : List Nat), q ∉ ([18, 19, 20] : List Nat)) q9 h9)) ((by decide : ∀ q ∈ ([22, 23, 24] : List Nat), q ∉ ([21] : List Nat)) q9 h9)) h21 σ11) li_Unpacker_13 w_Codes_init in_Codes iv_Codes_init rfl m4_Codes_init ⟨Nat.le_of_ble_eq_true rfl, Nat.le_of_ble_eq_true rfl⟩ (Nat.le_of_ble_eq_true rfl) ⟨Nat.le_of_ble_eq_true rfl, Nat.le_of_ble_eq_true rfl⟩ ⟨rfl, rfl⟩ rfl (kw_lr (by decide : 12 ∉ ([22, 23, 24] : List Nat)) (kw_lr (fun z => hN_r0 _ ((by decide : ∀ q ∈ ([22, 23, 24] : List Nat), q ∈ [13, 14, 15, 16, 17, 18, 19, 20, 21, 22, 23, 24, 25, 26, 27, 28, 29, 30, 31, 32, 33]) _ z) rfl) (kw_lr (fun z => hN_r1 _ ((by decide : ∀ q ∈ ([22, 23, 24] : List Nat), q ∈ [13, 14, 15, 16, 17, 18, 19, 20, 21, 22, 23, 24, 25, 26, 27, 28, 29, 30, 31, 32, 33]) _ z) rfl) (kw_lr (fun z => hN_r2 _ ((by decide : ∀ q ∈ ([22, 23, 24] : List Nat), q ∈ [13, 14, 15, 16, 17, 18, 19, 20, 21, 22, 23, 24, 25, 26, 27, 28, 29, 30, 31, 32, 33]) _ z) rfl) (kw_ln kw_lz))))) (kw_sr9 (by decide : 21 ∉ ([22, 23, 24] : List Nat)) (kw_sr9 (by decide : 12 ∉ ([22, 23, 24] : List Nat)) kw_sz)) d_Unpacker_init_31 (fun ad14 σ13 had14 => ?_)
  have h12 := h12.more [22, 23, 24]
  have hr0 := hr0.more [22, 23, 24]
  have hr1 := hr1.more [22, 23, 24]
  have hr2 := hr2.more [22, 23, 24]
  have h13 := h13.more [22, 23, 24]
  have h17 := h17.more [22, 23, 24]
  have h21 := h21.more [22, 23, 24]
  have hA := kw_ch hA had14
  refine kw_putOF C rfl (fun _ _ _ h => by have h : some (mmR_6, mmT_6, _) = some _ := h; cases h; rfl) fi_Unpacker_23 rfl rfl h12 h21 d_Unpacker_init_34 (fun σ15 => ?_)
  refine kw_aload_n C d_Unpacker_init_37 rfl ?_
  refine kw_new (o := 25) (cl' := 13) (sl' := 980) C nj_Unpacker_11 (kw_fresh (kw_fresh (kw_fresh (kw_fresh (kw_fresh (kw_fresh (hn 25 (by decide)) (by decide : 25 ∉ [13])) (by decide : 25 ∉ [14, 15, 16])) (by decide : 25 ∉ [17])) (by decide : 25 ∉ [18, 19, 20])) (by decide : 25 ∉ [21])) (by decide : 25 ∉ [22, 23, 24])) rfl rfl (kw_lr (by decide : 12 ∉ ([25] : List Nat)) (kw_lr (fun z => hN_r0 _ ((by decide : ∀ q ∈ ([25] : List Nat), q ∈ [13, 14, 15, 16, 17, 18, 19, 20, 21, 22, 23, 24, 25, 26, 27, 28, 29, 30, 31, 32, 33]) _ z) rfl) (kw_lr (fun z => hN_r1 _ ((by decide : ∀ q ∈ ([25] : List Nat), q ∈ [13, 14, 15, 16, 17, 18, 19, 20, 21, 22, 23, 24, 25, 26, 27, 28, 29, 30, 31, 32, 33]) _ z) rfl) (kw_lr (fun z => hN_r2 _ ((by decide : ∀ q ∈ ([25] : List Nat), q ∈ [13, 14, 15, 16, 17, 18, 19, 20, 21, 22, 23, 24, 25, 26, 27, 28, 29, 30, 31, 32, 33]) _ z) rfl) (kw_ln kw_lz))))) (kw_sr9 (by decide : 12 ∉ ([25] : List Nat)) kw_sz) ⟨rfl, rfl⟩ ⟨Nat.le_of_ble_eq_true rfl, Nat.le_of_ble_eq_true rfl⟩ d_Unpacker_init_38 (fun ad17 σ16 had17 => ?_)
  have h12 := h12.more [25]
  have hr0 := hr0.more [25]
  have hr1 := hr1.more [25]
  have hr2 := hr2.more [25]
  have h13 := h13.more [25]
  have h17 := h17.more [25]
  have h21 := h21.more [25]
  have hA := kw_ch hA had17
  have h25 : mm_ok (ids ++ [13] ++ [14, 15, 16] ++ [17] ++ [18, 19, 20] ++ [21] ++ [22, 23, 24] ++ [25]) 25 1 7 := ⟨List.mem_append_right _ (List.mem_singleton_self _), rfl, rfl⟩
  refine kw_dup C d_Unpacker_init_41 rfl ?_
  refine kw_callI (As := []) (cl' := 16) (sl' := 1300) C (c_Codes_init_25 hl n (ids ++ [13] ++ [14, 15, 16] ++ [17] ++ [18, 19, 20] ++ [21] ++ [22, 23, 24] ++ [25]) (fun q9 h9 => kw_fresh (kw_fresh (kw_fresh (kw_fresh (kw_fresh (kw_fresh (kw_fresh (hn q9 ((by decide : ∀ q ∈ ([26, 27, 28] : List Nat), q ∈ [13, 14, 15, 16, 17, 18, 19, 20, 21, 22, 23, 24, 25, 26, 27, 28, 29, 30, 31, 32, 33]) q9 h9)) ((by decide : ∀ q ∈ ([26, 27, 28] : List Nat), q ∉ ([13] : List Nat)) q9 h9)) ((by decide : ∀ q ∈ ([26, 27, 28] : List Nat), q ∉ ([14, 15, 16] : List Nat)) q9 h9)) ((by decide : ∀ q ∈ ([26, 27, 28] : List Nat), q ∉ ([17] : List Nat)) q9 h9)) ((by decide : ∀ q ∈ ([26, 27, 28] : List Nat), q ∉ ([18, 19, 20] : List Nat)) q9 h9)) ((by decide : ∀ q ∈ ([26, 27, 28] : List Nat), q ∉ ([21] : List Nat)) q9 h9)) ((by decide : ∀ q ∈ ([26, 27, 28] : List Nat), q ∉ ([22, 23, 24] : List Nat)) q9 h9)) ((by decide : ∀ q ∈ ([26, 27, 28] : List Nat), q ∉ ([25] : List Nat)) q9 h9)) h25 σ16) li_Unpacker_13 w_Codes_init in_Codes iv_Codes_init rfl m4_Codes_init ⟨Nat.le_of_ble_eq_true rfl, Nat.le_of_ble_eq_true rfl⟩ (Nat.le_of_ble_eq_true rfl) ⟨Nat.le_of_ble_eq_true rfl, Nat.le_of_ble_eq_true rfl⟩ ⟨rfl, rfl⟩ rfl (kw_lr (by decide : 12 ∉ ([26, 27, 28] : List Nat)) (kw_lr (fun z => hN_r0 _ ((by decide : ∀ q ∈ ([26, 27, 28] : List Nat), q ∈ [13, 14, 15, 16, 17, 18, 19, 20, 21, 22, 23, 24, 25, 26, 27, 28, 29, 30, 31, 32, 33]) _ z) rfl) (kw_lr (fun z => hN_r1 _ ((by decide : ∀ q ∈ ([26, 27, 28] : List Nat), q ∈ [13, 14, 15, 16, 17, 18, 19, 20, 21, 22, 23, 24, 25, 26, 27, 28, 29, 30, 31, 32, 33]) _ z) rfl) (kw_lr (fun z => hN_r2 _ ((by decide : ∀ q ∈ ([26, 27, 28] : List Nat), q ∈ [13, 14, 15, 16, 17, 18, 19, 20, 21, 22, 23, 24, 25, 26, 27, 28, 29, 30, 31, 32, 33]) _ z) rfl) (kw_ln kw_lz))))) (kw_sr9 (by decide : 25 ∉ ([26, 27, 28] : List Nat)) (kw_sr9 (by decide : 12 ∉ ([26, 27, 28] : List Nat)) kw_sz)) d_Unpacker_init_42 (fun ad19 σ18 had19 => ?_)
  have h12 := h12.more [26, 27, 28]
  have hr0 := hr0.more [26, 27, 28]
  have hr1 := hr1.more [26, 27, 28]
  have hr2 := hr2.more [26, 27, 28]
  have h13 := h13.more [26, 27, 28]
  have h17 := h17.more [26, 27, 28]
  have h21 := h21.more [26, 27, 28]
  have h25 := h25.more [26, 27, 28]
  have hA := kw_ch hA had19
  refine kw_putOF C rfl (fun _ _ _ h => by have h : some (mmR_6, mmT_6, _) = some _ := h; cases h; rfl) fi_Unpacker_26 rfl rfl h12 h25 d_Unpacker_init_45 (fun σ20 => ?_)
  refine kw_aload_n C d_Unpacker_init_48 rfl ?_
  refine kw_new (o := 29) (cl' := 17) (sl' := 1305) C nj_Unpacker_11 (kw_fresh (kw_fresh (kw_fresh (kw_fresh (kw_fresh (kw_fresh (kw_fresh (kw_fresh (hn 29 (by decide)) (by decide : 29 ∉ [13])) (by decide : 29 ∉ [14, 15, 16])) (by decide : 29 ∉ [17])) (by decide : 29 ∉ [18, 19, 20])) (by decide : 29 ∉ [21])) (by decide : 29 ∉ [22, 23, 24])) (by decide : 29 ∉ [25])) (by decide : 29 ∉ [26, 27, 28])) rfl rfl (kw_lr (by decide : 12 ∉ ([29] : List Nat)) (kw_lr (fun z => hN_r0 _ ((by decide : ∀ q ∈ ([29] : List Nat), q ∈ [13, 14, 15, 16, 17, 18, 19, 20, 21, 22, 23, 24, 25, 26, 27, 28, 29, 30, 31, 32, 33]) _ z) rfl) (kw_lr (fun z => hN_r1 _ ((by decide : ∀ q ∈ ([29] : List Nat), q ∈ [13, 14, 15, 16, 17, 18, 19, 20, 21, 22, 23, 24, 25, 26, 27, 28, 29, 30, 31, 32, 33]) _ z) rfl) (kw_lr (fun z => hN_r2 _ ((by decide : ∀ q ∈ ([29] : List Nat), q ∈ [13, 14, 15, 16, 17, 18, 19, 20, 21, 22, 23, 24, 25, 26, 27, 28, 29, 30, 31, 32, 33]) _ z) rfl) (kw_ln kw_lz))))) (kw_sr9 (by decide : 12 ∉ ([29] : List Nat)) kw_sz) ⟨rfl, rfl⟩ ⟨Nat.le_of_ble_eq_true rfl, Nat.le_of_ble_eq_true rfl⟩ d_Unpacker_init_49 (fun ad22 σ21 had22 => ?_)
  have h12 := h12.more [29]
  have hr0 := hr0.more [29]
  have hr1 := hr1.more [29]
  have hr2 := hr2.more [29]
  have h13 := h13.more [29]
  have h17 := h17.more [29]
  have h21 := h21.more [29]
  have h25 := h25.more [29]
  have hA := kw_ch hA had22
  have h29 : mm_ok (ids ++ [13] ++ [14, 15, 16] ++ [17] ++ [18, 19, 20] ++ [21] ++ [22, 23, 24] ++ [25] ++ [26, 27, 28] ++ [29]) 29 1 7 := ⟨List.mem_append_right _ (List.mem_singleton_self _), rfl, rfl⟩
  refine kw_dup C d_Unpacker_init_52 rfl ?_
  refine kw_callI (As := []) (cl' := 20) (sl' := 1625) C (c_Codes_init_29 hl n (ids ++ [13] ++ [14, 15, 16] ++ [17] ++ [18, 19, 20] ++ [21] ++ [22, 23, 24] ++ [25] ++ [26, 27, 28] ++ [29]) (fun q9 h9 => kw_fresh (kw_fresh (kw_fresh (kw_fresh (kw_fresh (kw_fresh (kw_fresh (kw_fresh (kw_fresh (hn q9 ((by decide : ∀ q ∈ ([30, 31, 32] : List Nat), q ∈ [13, 14, 15, 16, 17, 18, 19, 20, 21, 22, 23, 24, 25, 26, 27, 28, 29, 30, 31, 32, 33]) q9 h9)) ((by decide : ∀ q ∈ ([30, 31, 32] : List Nat), q ∉ ([13] : List Nat)) q9 h9)) ((by decide : ∀ q ∈ ([30, 31, 32] : List Nat), q ∉ ([14, 15, 16] : List Nat)) q9 h9)) ((by decide : ∀ q ∈ ([30, 31, 32] : List Nat), q ∉ ([17] : List Nat)) q9 h9)) ((by decide : ∀ q ∈ ([30, 31, 32] : List Nat), q ∉ ([18, 19, 20] : List Nat)) q9 h9)) ((by decide : ∀ q ∈ ([30, 31, 32] : List Nat), q ∉ ([21] : List Nat)) q9 h9)) ((by decide : ∀ q ∈ ([30, 31, 32] : List Nat), q ∉ ([22, 23, 24] : List Nat)) q9 h9)) ((by decide : ∀ q ∈ ([30, 31, 32] : List Nat), q ∉ ([25] : List Nat)) q9 h9)) ((by decide : ∀ q ∈ ([30, 31, 32] : List Nat), q ∉ ([26, 27, 28] : List Nat)) q9 h9)) ((by decide : ∀ q ∈ ([30, 31, 32] : List Nat), q ∉ ([29] : List Nat)) q9 h9)) h29 σ21) li_Unpacker_13 w_Codes_init in_Codes iv_Codes_init rfl m4_Codes_init ⟨Nat.le_of_ble_eq_true rfl, Nat.le_of_ble_eq_true rfl⟩ (Nat.le_of_ble_eq_true rfl) ⟨Nat.le_of_ble_eq_true rfl, Nat.le_of_ble_eq_true rfl⟩ ⟨rfl, rfl⟩ rfl (kw_lr (by decide : 12 ∉ ([30, 31, 32] : List Nat)) (kw_lr (fun z => hN_r0 _ ((by decide : ∀ q ∈ ([30, 31, 32] : List Nat), q ∈ [13, 14, 15, 16, 17, 18, 19, 20, 21, 22, 23, 24, 25, 26, 27, 28, 29, 30, 31, 32, 33]) _ z) rfl) (kw_lr (fun z => hN_r1 _ ((by decide : ∀ q ∈ ([30, 31, 32] : List Nat), q ∈ [13, 14, 15, 16, 17, 18, 19, 20, 21, 22, 23, 24, 25, 26, 27, 28, 29, 30, 31, 32, 33]) _ z) rfl) (kw_lr (fun z => hN_r2 _ ((by decide : ∀ q ∈ ([30, 31, 32] : List Nat), q ∈ [13, 14, 15, 16, 17, 18, 19, 20, 21, 22, 23, 24, 25, 26, 27, 28, 29, 30, 31, 32, 33]) _ z) rfl) (kw_ln kw_lz))))) (kw_sr9 (by decide : 29 ∉ ([30, 31, 32] : List Nat)) (kw_sr9 (by decide : 12 ∉ ([30, 31, 32] : List Nat)) kw_sz)) d_Unpacker_init_53 (fun ad24 σ23 had24 => ?_)
  have h12 := h12.more [30, 31, 32]
  have hr0 := hr0.more [30, 31, 32]
  have hr1 := hr1.more [30, 31, 32]
  have hr2 := hr2.more [30, 31, 32]
  have h13 := h13.more [30, 31, 32]
  have h17 := h17.more [30, 31, 32]
  have h21 := h21.more [30, 31, 32]
  have h25 := h25.more [30, 31, 32]
  have h29 := h29.more [30, 31, 32]
  have hA := kw_ch hA had24
  refine kw_putOF C rfl (fun _ _ _ h => by have h : some (mmR_6, mmT_6, _) = some _ := h; cases h; rfl) fi_Unpacker_29 rfl rfl h12 h29 d_Unpacker_init_56 (fun σ25 => ?_)
  refine kw_aload_n C d_Unpacker_init_59 rfl ?_
  refine kw_sipush (v := 320) C d_Unpacker_init_60 (by decide) ?_
  refine kw_newI (o := 33) (cl' := 21) (sl' := 1945) C ac_int (kw_fresh (kw_fresh (kw_fresh (kw_fresh (kw_fresh (kw_fresh (kw_fresh (kw_fresh (kw_fresh (kw_fresh (hn 33 (by decide)) (by decide : 33 ∉ [13])) (by decide : 33 ∉ [14, 15, 16])) (by decide : 33 ∉ [17])) (by decide : 33 ∉ [18, 19, 20])) (by decide : 33 ∉ [21])) (by decide : 33 ∉ [22, 23, 24])) (by decide : 33 ∉ [25])) (by decide : 33 ∉ [26, 27, 28])) (by decide : 33 ∉ [29])) (by decide : 33 ∉ [30, 31, 32])) rfl rfl (by decide) (by decide) (by decide) (kw_lr (by decide : 12 ∉ ([33] : List Nat)) (kw_lr (fun z => hN_r0 _ ((by decide : ∀ q ∈ ([33] : List Nat), q ∈ [13, 14, 15, 16, 17, 18, 19, 20, 21, 22, 23, 24, 25, 26, 27, 28, 29, 30, 31, 32, 33]) _ z) rfl) (kw_lr (fun z => hN_r1 _ ((by decide : ∀ q ∈ ([33] : List Nat), q ∈ [13, 14, 15, 16, 17, 18, 19, 20, 21, 22, 23, 24, 25, 26, 27, 28, 29, 30, 31, 32, 33]) _ z) rfl) (kw_lr (fun z => hN_r2 _ ((by decide : ∀ q ∈ ([33] : List Nat), q ∈ [13, 14, 15, 16, 17, 18, 19, 20, 21, 22, 23, 24, 25, 26, 27, 28, 29, 30, 31, 32, 33]) _ z) rfl) (kw_ln kw_lz))))) (kw_sr9 (by decide : 12 ∉ ([33] : List Nat)) kw_sz) ⟨rfl, rfl⟩ ⟨Nat.le_of_ble_eq_true rfl, Nat.le_of_ble_eq_true rfl⟩ d_Unpacker_init_63 (fun ad27 σ26 had27 => ?_)
  have h12 := h12.more [33]
  have hr0 := hr0.more [33]
  have hr1 := hr1.more [33]
  have hr2 := hr2.more [33]
  have h13 := h13.more [33]
  have h17 := h17.more [33]
  have h21 := h21.more [33]
  have h25 := h25.more [33]
  have h29 := h29.more [33]
  have hA := kw_ch hA had27
  have h33 : mm_ok (ids ++ [13] ++ [14, 15, 16] ++ [17] ++ [18, 19, 20] ++ [21] ++ [22, 23, 24] ++ [25] ++ [26, 27, 28] ++ [29] ++ [30, 31, 32] ++ [33]) 33 2 0 := ⟨List.mem_append_right _ (List.mem_singleton_self _), rfl, rfl⟩
  refine kw_putOF C rfl (fun _ _ _ h => by have h : some (mmR_6, mmT_6, _) = some _ := h; cases h; rfl) fi_Unpacker_32 rfl rfl h12 h33 d_Unpacker_init_65 (fun σ28 => ?_)
  refine kw_aload_n C d_Unpacker_init_68 rfl ?_
  refine kw_aload_n C d_Unpacker_init_69 rfl ?_
  refine kw_putOF C rfl (fun _ _ _ h => by have h : some (mmR_6, mmT_6, _) = some _ := h; cases h; rfl) fi_Unpacker_36 rfl rfl h12 hr0 d_Unpacker_init_70 (fun σ29 => ?_)
  refine kw_aload_n C d_Unpacker_init_73 rfl ?_
  refine kw_aload_n C d_Unpacker_init_74 rfl ?_
  refine kw_putOF C rfl (fun _ _ _ h => by have h : some (mmR_6, mmT_6, _) = some _ := h; cases h; rfl) fi_Unpacker_40 rfl rfl h12 hr1 d_Unpacker_init_75 (fun σ30 => ?_)
  refine kw_aload_n C d_Unpacker_init_78 rfl ?_
  refine kw_aload_n C d_Unpacker_init_79 rfl ?_
  refine kw_putOF C rfl (fun _ _ _ h => by have h : some (mmR_6, mmT_6, _) = some _ := h; cases h; rfl) fi_Unpacker_44 rfl rfl h12 hr2 d_Unpacker_init_80 (fun σ31 => ?_)
  refine kw_aload_n C d_Unpacker_init_83 rfl ?_
  refine kw_aload_n C d_Unpacker_init_84 rfl ?_
  refine kw_getR C fi_Unpacker_48 rfl rfl hr2 d_Unpacker_init_85 (fun o32 ho32 => ?_)
  refine kw_putOF C rfl (fun _ _ _ h => by have h : some (mmR_6, mmT_6, _) = some _ := h; cases h; rfl) fi_Unpacker_53 rfl rfl h12 ho32 d_Unpacker_init_88 (fun σ33 => ?_)
  refine kw_iconst (v := 0) C d_Unpacker_init_91 (by decide) ?_
  refine kw_istore (L' := [some (.ref 12), some (.ref r0), some (.ref r1), some (.ref r2), some (.int 0)]) C d_Unpacker_init_92 (by decide) rfl ?_
  refine kw_wk (kw_l (α := Int32) (pc := 94) (Lj := fun x35 => [some (.ref 12), none, none, none, some (.int x35)]) (stj := fun x35 => []) (fun k34 hk34 x35 σ36 => ?_) n 0 σ33) ⟨Or.inr rfl, Or.inl rfl, Or.inl rfl, Or.inl rfl, Or.inr rfl, trivial⟩
  refine kw_iload C d_Unpacker_init_94 rfl ?_
  refine kw_sipush (v := 288) C d_Unpacker_init_96 (by decide) ?_
  refine kw_icmp_ge (tgt := 156) C d_Unpacker_init_99 (by decide) ?_ ?_
  · refine kw_aload_n C d_Unpacker_init_156 rfl ?_
    refine kw_getR C fi_Unpacker_14 rfl rfl h12 d_Unpacker_init_157 (fun o37 ho37 => ?_)
    refine kw_aload_n C d_Unpacker_init_160 rfl ?_
    refine kw_getR C fi_Unpacker_32 rfl rfl h12 d_Unpacker_init_161 (fun o38 ho38 => ?_)
    refine kw_iconst (v := 0) C d_Unpacker_init_164 (by decide) ?_
    refine kw_sipush (v := 288) C d_Unpacker_init_165 (by decide) ?_
    refine kw_callVv (cl' := 21) (sl' := 1945) (As := [.ref o38, .int 0, .int 288]) C (c_Codes_assign hl n (ids ++ [13] ++ [14, 15, 16] ++ [17] ++ [18, 19, 20] ++ [21] ++ [22, 23, 24] ++ [25] ++ [26, 27, 28] ++ [29] ++ [30, 31, 32] ++ [33]) ho37 (Or.inl ⟨ho38.1, ho38.2.1⟩) 0 288 σ36) mi_Unpacker_54 v_Codes_assign ⟨_, _, rfl⟩ ho37 ⟨Nat.le_of_ble_eq_true rfl, Nat.le_of_ble_eq_true rfl⟩ (Nat.le_of_ble_eq_true rfl) ⟨Nat.le_of_ble_eq_true rfl, Nat.le_of_ble_eq_true rfl⟩ ⟨rfl, rfl⟩ rfl d_Unpacker_init_168 (fun σ39 => ?_)
    refine kw_iconst (v := 0) C d_Unpacker_init_171 (by decide) ?_
    refine kw_istore (L' := [some (.ref 12), none, none, none, some (.int 0)]) C d_Unpacker_init_172 (by decide) rfl ?_
    refine kw_wk (kw_l (α := Int32) (pc := 174) (Lj := fun x41 => [some (.ref 12), none, none, none, some (.int x41)]) (stj := fun x41 => []) (fun k40 hk40 x41 σ42 => ?_) n 0 σ39) ⟨Or.inr rfl, Or.inl rfl, Or.inl rfl, Or.inl rfl, Or.inr rfl, trivial⟩
    refine kw_iload C d_Unpacker_init_174 rfl ?_
    refine kw_bipush (v := 32) C d_Unpacker_init_176 (by decide) ?_
    refine kw_icmp_ge (tgt := 195) C d_Unpacker_init_178 (by decide) ?_ ?_
    · refine kw_aload_n C d_Unpacker_init_195 rfl ?_
      refine kw_getR C fi_Unpacker_20 rfl rfl h12 d_Unpacker_init_196 (fun o43 ho43 => ?_)
      refine kw_aload_n C d_Unpacker_init_199 rfl ?_
      refine kw_getR C fi_Unpacker_32 rfl rfl h12 d_Unpacker_init_200 (fun o44 ho44 => ?_)
      refine kw_iconst (v := 0) C d_Unpacker_init_203 (by decide) ?_
      refine kw_bipush (v := 32) C d_Unpacker_init_204 (by decide) ?_
      refine kw_callVv (cl' := 21) (sl' := 1945) (As := [.ref o44, .int 0, .int 32]) C (c_Codes_assign hl n (ids ++ [13] ++ [14, 15, 16] ++ [17] ++ [18, 19, 20] ++ [21] ++ [22, 23, 24] ++ [25] ++ [26, 27, 28] ++ [29] ++ [30, 31, 32] ++ [33]) ho43 (Or.inl ⟨ho44.1, ho44.2.1⟩) 0 32 σ42) mi_Unpacker_54 v_Codes_assign ⟨_, _, rfl⟩ ho43 ⟨Nat.le_of_ble_eq_true rfl, Nat.le_of_ble_eq_true rfl⟩ (Nat.le_of_ble_eq_true rfl) ⟨Nat.le_of_ble_eq_true rfl, Nat.le_of_ble_eq_true rfl⟩ ⟨rfl, rfl⟩ rfl d_Unpacker_init_206 (fun σ45 => ?_)
      exact kw_vret C Ce rfl (by simp) hA (Nat.le_of_ble_eq_true rfl) (Nat.le_of_ble_eq_true rfl) rfl d_Unpacker_init_209
    · refine kw_aload_n C d_Unpacker_init_181 rfl ?_
      refine kw_getR C fi_Unpacker_32 rfl rfl h12 d_Unpacker_init_182 (fun o46 ho46 => ?_)
      refine kw_iload C d_Unpacker_init_185 rfl ?_
      refine kw_iconst (v := 5) C d_Unpacker_init_187 (by decide) ?_
      refine kw_iast C ho46 d_Unpacker_init_188 (fun σ47 => ?_)
      refine kw_iincL (L2 := fun x48 => [some (.ref 12), none, none, none, some (.int x48)]) C d_Unpacker_init_189 (by decide) rfl (fun _ => rfl) (fun x48 => ?_)
      refine kw_goto (tgt := 174) C d_Unpacker_init_192 (by decide) ?_
      exact kw_wk (hk40 x48 σ47) ⟨Or.inr rfl, Or.inl rfl, Or.inl rfl, Or.inl rfl, Or.inr rfl, trivial⟩
  · refine kw_aload_n C d_Unpacker_init_102 rfl ?_
    refine kw_getR C fi_Unpacker_32 rfl rfl h12 d_Unpacker_init_103 (fun o49 ho49 => ?_)
    refine kw_iload C d_Unpacker_init_106 rfl ?_
    refine kw_iload C d_Unpacker_init_108 rfl ?_
    refine kw_sipush (v := 144) C d_Unpacker_init_110 (by decide) ?_
    refine kw_j (α := Int32 × Int32) (pcj := 149) (Lj := fun x51 => [some (.ref 12), none, none, none, some (.int x35)]) (stj := fun x51 => [.int x51.2, .int x51.1, .ref o49]) (fun x51 σ52 => ?_) (fun k50 hk50 => ?_)
    · refine kw_iast C ho49 d_Unpacker_init_149 (fun σ53 => ?_)
      refine kw_iincL (L2 := fun x54 => [some (.ref 12), none, none, none, some (.int x54)]) C d_Unpacker_init_150 (by decide) rfl (fun _ => rfl) (fun x54 => ?_)
      refine kw_goto (tgt := 94) C d_Unpacker_init_153 (by decide) ?_
      exact kw_wk (hk34 x54 σ53) ⟨Or.inr rfl, Or.inl rfl, Or.inl rfl, Or.inl rfl, Or.inr rfl, trivial⟩
    · refine kw_icmp_ge (tgt := 121) C d_Unpacker_init_113 (by decide) ?_ ?_
      · refine kw_iload C d_Unpacker_init_121 rfl ?_
        refine kw_sipush (v := 256) C d_Unpacker_init_123 (by decide) ?_
        refine kw_icmp_ge (tgt := 134) C d_Unpacker_init_126 (by decide) ?_ ?_
        · refine kw_iload C d_Unpacker_init_134 rfl ?_
          refine kw_sipush (v := 280) C d_Unpacker_init_136 (by decide) ?_
          refine kw_icmp_ge (tgt := 147) C d_Unpacker_init_139 (by decide) ?_ ?_
          · refine kw_bipush (v := 8) C d_Unpacker_init_147 (by decide) ?_
            exact kw_wk (hk50 (x35, 8) σ36) ⟨Or.inr rfl, Or.inl rfl, Or.inl rfl, Or.inl rfl, Or.inr rfl, trivial⟩
          · refine kw_bipush (v := 7) C d_Unpacker_init_142 (by decide) ?_
            refine kw_goto (tgt := 149) C d_Unpacker_init_144 (by decide) ?_
            exact kw_wk (hk50 (x35, 7) σ36) ⟨Or.inr rfl, Or.inl rfl, Or.inl rfl, Or.inl rfl, Or.inr rfl, trivial⟩
        · refine kw_bipush (v := 9) C d_Unpacker_init_129 (by decide) ?_
          refine kw_goto (tgt := 149) C d_Unpacker_init_131 (by decide) ?_
          exact kw_wk (hk50 (x35, 9) σ36) ⟨Or.inr rfl, Or.inl rfl, Or.inl rfl, Or.inl rfl, Or.inr rfl, trivial⟩
      · refine kw_bipush (v := 8) C d_Unpacker_init_116 (by decide) ?_
        refine kw_goto (tgt := 149) C d_Unpacker_init_118 (by decide) ?_
        exact kw_wk (hk50 (x35, 8) σ36) ⟨Or.inr rfl, Or.inl rfl, Or.inl rfl, Or.inl rfl, Or.inr rfl, trivial⟩
def rm_Packer_init_35 : Room := { frames := 1, cells := 2, slots := 36984, locals := 20 }
def F_Packer_init_35 (n : Nat) (r0 : Nat) (r1 : Nat) (σ : Mm) : Option Mm :=
kf_let (mm_nw σ 36) fun σ1 =>
kf_let (pR σ1 (64 * 35 + 2) (some 36)) fun σ3 =>
kf_let (mm_nw σ3 37) fun σ4 =>
kf_let (pR σ4 (64 * 35 + 3) (some 37)) fun σ6 =>
kf_let (pR σ6 (64 * 35 + 0) (some r0)) fun σ7 =>
kf_let (pR σ7 (64 * 35 + 1) (some r1)) fun σ8 =>
some σ8
theorem d_Packer_init_0 : decode prog_6_method_1_code 0 = .ok (.aload_n 0, 1) := by decide +kernel
theorem d_Packer_init_1 : decode prog_6_method_1_code 1 = .ok (.invokespecial 3, 3) := by decide +kernel
theorem d_Packer_init_4 : decode prog_6_method_1_code 4 = .ok (.aload_n 0, 1) := by decide +kernel
theorem d_Packer_init_5 : decode prog_6_method_1_code 5 = .ok (.sipush 4096, 3) := by decide +kernel
theorem d_Packer_init_8 : decode prog_6_method_1_code 8 = .ok (.newarray .int, 2) := by decide +kernel
theorem d_Packer_init_10 : decode prog_6_method_1_code 10 = .ok (.putfield 11, 3) := by decide +kernel
theorem d_Packer_init_13 : decode prog_6_method_1_code 13 = .ok (.aload_n 0, 1) := by decide +kernel
theorem d_Packer_init_14 : decode prog_6_method_1_code 14 = .ok (.ldc 17, 2) := by decide +kernel
theorem d_Packer_init_16 : decode prog_6_method_1_code 16 = .ok (.newarray .int, 2) := by decide +kernel
theorem d_Packer_init_18 : decode prog_6_method_1_code 18 = .ok (.putfield 18, 3) := by decide +kernel
theorem d_Packer_init_21 : decode prog_6_method_1_code 21 = .ok (.aload_n 0, 1) := by decide +kernel
theorem d_Packer_init_22 : decode prog_6_method_1_code 22 = .ok (.aload_n 1, 1) := by decide +kernel
theorem d_Packer_init_23 : decode prog_6_method_1_code 23 = .ok (.putfield 21, 3) := by decide +kernel
theorem d_Packer_init_26 : decode prog_6_method_1_code 26 = .ok (.aload_n 0, 1) := by decide +kernel
theorem d_Packer_init_27 : decode prog_6_method_1_code 27 = .ok (.aload_n 2, 1) := by decide +kernel
theorem d_Packer_init_28 : decode prog_6_method_1_code 28 = .ok (.putfield 25, 3) := by decide +kernel
theorem d_Packer_init_31 : decode prog_6_method_1_code 31 = .ok (.return_, 1) := by decide +kernel
set_option maxRecDepth 100000 in
set_option maxHeartbeats 4000000 in
theorem c_Packer_init_35 {l0 : Launch} (hl : l0.stackTraces = false) (n : Nat) (ids : List Nat) (hn : ∀ q ∈ ([36, 37] : List Nat), q ∉ ids) (h35 : mm_ok ids 35 1 9) {r0 : Nat} (hr0 : mm_ok ids r0 1 1) {r1 : Nat} (hr1 : mm_ok ids r1 2 0) (σ : Mm) : kw_C l0 y_Packer_init (Cond.code y_Packer_init prog_6_method_1_code 3 none :: kw_Ts) rm_Packer_init_35 kw_ov ids [36, 37] [.ref 35, .ref r0, .ref r1] σ (F_Packer_init_35 n r0 r1 σ) := by
  refine kw_start (L0 := [some (.ref 35), some (.ref r0), some (.ref r1)]) hl (by decide +kernel) (Nat.le_of_ble_eq_true rfl) rfl (fun Γ ad C Ce => ?_)
  unfold F_Packer_init_35
  have hA : ∀ q, q ∉ ([] : List Nat) → ad q = ad q := fun _ _ => rfl
  have hN_r0 : ∀ q ∈ [36, 37], r0 ≠ q := fun q hq z => hn q hq (z ▸ hr0.1)
  have hN_r1 : ∀ q ∈ [36, 37], r1 ≠ q := fun q hq z => hn q hq (z ▸ hr1.1)
  refine kw_aload_n C d_Packer_init_0 rfl ?_
  refine kw_objI C ob_Packer_3 ob_i ob_c (Nat.le_of_ble_eq_true rfl) (Nat.le_of_ble_eq_true rfl) d_Packer_init_1 ?_
  refine kw_aload_n C d_Packer_init_4 rfl ?_
  refine kw_sipush (v := 4096) C d_Packer_init_5 (by decide) ?_
  refine kw_newI (o := 36) (cl' := 1) (sl' := 4096) C ac_int (hn 36 (by decide)) rfl rfl (by decide) (by decide) (by decide) (kw_lr (by decide : 35 ∉ ([36] : List Nat)) (kw_lr (fun z => hN_r0 _ ((by decide : ∀ q ∈ ([36] : List Nat), q ∈ [36, 37]) _ z) rfl) (kw_lr (fun z => hN_r1 _ ((by decide : ∀ q ∈ ([36] : List Nat), q ∈ [36, 37]) _ z) rfl) kw_lz))) (kw_sr9 (by decide : 35 ∉ ([36] : List Nat)) kw_sz) ⟨rfl, rfl⟩ ⟨Nat.le_of_ble_eq_true rfl, Nat.le_of_ble_eq_true rfl⟩ d_Packer_init_8 (fun ad2 σ1 had2 => ?_)
  have h35 := h35.more [36]
  have hr0 := hr0.more [36]
  have hr1 := hr1.more [36]
  have hA := kw_ch hA had2
  have h36 : mm_ok (ids ++ [36]) 36 2 0 := ⟨List.mem_append_right _ (List.mem_singleton_self _), rfl, rfl⟩
  refine kw_putOF C rfl (fun _ _ _ h => by have h : some (mmR_9, mmT_9, _) = some _ := h; cases h; rfl) fi_Packer_11 rfl rfl h35 h36 d_Packer_init_10 (fun σ3 => ?_)
  refine kw_aload_n C d_Packer_init_13 rfl ?_
  refine kw_ldc (v := 32888) C d_Packer_init_14 k_Packer_17 ?_
  refine kw_newI (o := 37) (cl' := 2) (sl' := 36984) C ac_int (kw_fresh (hn 37 (by decide)) (by decide : 37 ∉ [36])) rfl rfl (by decide) (by decide) (by decide) (kw_lr (by decide : 35 ∉ ([37] : List Nat)) (kw_lr (fun z => hN_r0 _ ((by decide : ∀ q ∈ ([37] : List Nat), q ∈ [36, 37]) _ z) rfl) (kw_lr (fun z => hN_r1 _ ((by decide : ∀ q ∈ ([37] : List Nat), q ∈ [36, 37]) _ z) rfl) kw_lz))) (kw_sr9 (by decide : 35 ∉ ([37] : List Nat)) kw_sz) ⟨rfl, rfl⟩ ⟨Nat.le_of_ble_eq_true rfl, Nat.le_of_ble_eq_true rfl⟩ d_Packer_init_16 (fun ad5 σ4 had5 => ?_)
  have h35 := h35.more [37]
  have hr0 := hr0.more [37]
  have hr1 := hr1.more [37]
  have h36 := h36.more [37]
  have hA := kw_ch hA had5
  have h37 : mm_ok (ids ++ [36] ++ [37]) 37 2 0 := ⟨List.mem_append_right _ (List.mem_singleton_self _), rfl, rfl⟩
  refine kw_putOF C rfl (fun _ _ _ h => by have h : some (mmR_9, mmT_9, _) = some _ := h; cases h; rfl) fi_Packer_18 rfl rfl h35 h37 d_Packer_init_18 (fun σ6 => ?_)
  refine kw_aload_n C d_Packer_init_21 rfl ?_
  refine kw_aload_n C d_Packer_init_22 rfl ?_
  refine kw_putOF C rfl (fun _ _ _ h => by have h : some (mmR_9, mmT_9, _) = some _ := h; cases h; rfl) fi_Packer_21 rfl rfl h35 hr0 d_Packer_init_23 (fun σ7 => ?_)
  refine kw_aload_n C d_Packer_init_26 rfl ?_
  refine kw_aload_n C d_Packer_init_27 rfl ?_
  refine kw_putOF C rfl (fun _ _ _ h => by have h : some (mmR_9, mmT_9, _) = some _ := h; cases h; rfl) fi_Packer_25 rfl rfl h35 hr1 d_Packer_init_28 (fun σ8 => ?_)
  exact kw_vret C Ce rfl (by simp) hA (Nat.le_of_ble_eq_true rfl) (Nat.le_of_ble_eq_true rfl) rfl d_Packer_init_31
def rm_Writer_init_34 : Room := { frames := 2, cells := 3, slots := 36993, locals := 42 }
def F_Writer_init_34 (n : Nat) (r0 : Nat) (r1 : Nat) (σ : Mm) : Option Mm :=
kf_let (pR σ (64 * 34 + 0) (some r0)) fun σ1 =>
kf_let (pR σ1 (64 * 34 + 1) (some r1)) fun σ2 =>
kf_let (mm_nw σ2 35) fun σ3 =>
Option.bind (gR σ3 (64 * r1 + 0)) fun o5 =>
Option.bind (F_Packer_init_35 n r0 o5 σ3) fun σ6 =>
kf_let (pR σ6 (64 * 34 + 2) (some 35)) fun σ8 =>
some σ8
theorem d_Writer_init_0 : decode prog_12_method_1_code 0 = .ok (.aload_n 0, 1) := by decide +kernel
theorem d_Writer_init_1 : decode prog_12_method_1_code 1 = .ok (.invokespecial 1, 3) := by decide +kernel
theorem d_Writer_init_4 : decode prog_12_method_1_code 4 = .ok (.aload_n 0, 1) := by decide +kernel
theorem d_Writer_init_5 : decode prog_12_method_1_code 5 = .ok (.aload_n 1, 1) := by decide +kernel
theorem d_Writer_init_6 : decode prog_12_method_1_code 6 = .ok (.putfield 7, 3) := by decide +kernel
theorem d_Writer_init_9 : decode prog_12_method_1_code 9 = .ok (.aload_n 0, 1) := by decide +kernel
theorem d_Writer_init_10 : decode prog_12_method_1_code 10 = .ok (.aload_n 2, 1) := by decide +kernel
theorem d_Writer_init_11 : decode prog_12_method_1_code 11 = .ok (.putfield 13, 3) := by decide +kernel
theorem d_Writer_init_14 : decode prog_12_method_1_code 14 = .ok (.aload_n 0, 1) := by decide +kernel
theorem d_Writer_init_15 : decode prog_12_method_1_code 15 = .ok (.new 17, 3) := by decide +kernel
theorem d_Writer_init_18 : decode prog_12_method_1_code 18 = .ok (.dup, 1) := by decide +kernel
theorem d_Writer_init_19 : decode prog_12_method_1_code 19 = .ok (.aload_n 1, 1) := by decide +kernel
theorem d_Writer_init_20 : decode prog_12_method_1_code 20 = .ok (.aload_n 2, 1) := by decide +kernel
theorem d_Writer_init_21 : decode prog_12_method_1_code 21 = .ok (.getfield 19, 3) := by decide +kernel
theorem d_Writer_init_24 : decode prog_12_method_1_code 24 = .ok (.invokespecial 25, 3) := by decide +kernel
theorem d_Writer_init_27 : decode prog_12_method_1_code 27 = .ok (.putfield 28, 3) := by decide +kernel
theorem d_Writer_init_30 : decode prog_12_method_1_code 30 = .ok (.return_, 1) := by decide +kernel
set_option maxRecDepth 100000 in
set_option maxHeartbeats 4000000 in
theorem c_Writer_init_34 {l0 : Launch} (hl : l0.stackTraces = false) (n : Nat) (ids : List Nat) (hn : ∀ q ∈ ([35, 36, 37] : List Nat), q ∉ ids) (h34 : mm_ok ids 34 1 8) {r0 : Nat} (hr0 : mm_ok ids r0 1 1) {r1 : Nat} (hr1 : mm_ok ids r1 1 3) (σ : Mm) : kw_C l0 y_Writer_init (Cond.code y_Writer_init prog_12_method_1_code 3 none :: kw_Ts) rm_Writer_init_34 kw_ov ids [35, 36, 37] [.ref 34, .ref r0, .ref r1] σ (F_Writer_init_34 n r0 r1 σ) := by
  refine kw_start (L0 := [some (.ref 34), some (.ref r0), some (.ref r1)]) hl (by decide +kernel) (Nat.le_of_ble_eq_true rfl) rfl (fun Γ ad C Ce => ?_)
  unfold F_Writer_init_34
  have hA : ∀ q, q ∉ ([] : List Nat) → ad q = ad q := fun _ _ => rfl
  have hN_r0 : ∀ q ∈ [35, 36, 37], r0 ≠ q := fun q hq z => hn q hq (z ▸ hr0.1)
  have hN_r1 : ∀ q ∈ [35, 36, 37], r1 ≠ q := fun q hq z => hn q hq (z ▸ hr1.1)
  refine kw_aload_n C d_Writer_init_0 rfl ?_
  refine kw_objI C ob_Writer_1 ob_i ob_c (Nat.le_of_ble_eq_true rfl) (Nat.le_of_ble_eq_true rfl) d_Writer_init_1 ?_
  refine kw_aload_n C d_Writer_init_4 rfl ?_
  refine kw_aload_n C d_Writer_init_5 rfl ?_
  refine kw_putOF C rfl (fun _ _ _ h => by have h : some (mmR_8, mmT_8, _) = some _ := h; cases h; rfl) fi_Writer_7 rfl rfl h34 hr0 d_Writer_init_6 (fun σ1 => ?_)
  refine kw_aload_n C d_Writer_init_9 rfl ?_
  refine kw_aload_n C d_Writer_init_10 rfl ?_
  refine kw_putOF C rfl (fun _ _ _ h => by have h : some (mmR_8, mmT_8, _) = some _ := h; cases h; rfl) fi_Writer_13 rfl rfl h34 hr1 d_Writer_init_11 (fun σ2 => ?_)
  refine kw_aload_n C d_Writer_init_14 rfl ?_
  refine kw_new (o := 35) (cl' := 1) (sl' := 9) C nj_Writer_17 (hn 35 (by decide)) rfl rfl (kw_lr (by decide : 34 ∉ ([35] : List Nat)) (kw_lr (fun z => hN_r0 _ ((by decide : ∀ q ∈ ([35] : List Nat), q ∈ [35, 36, 37]) _ z) rfl) (kw_lr (fun z => hN_r1 _ ((by decide : ∀ q ∈ ([35] : List Nat), q ∈ [35, 36, 37]) _ z) rfl) kw_lz))) (kw_sr9 (by decide : 34 ∉ ([35] : List Nat)) kw_sz) ⟨rfl, rfl⟩ ⟨Nat.le_of_ble_eq_true rfl, Nat.le_of_ble_eq_true rfl⟩ d_Writer_init_15 (fun ad4 σ3 had4 => ?_)
  have h34 := h34.more [35]
  have hr0 := hr0.more [35]
  have hr1 := hr1.more [35]
  have hA := kw_ch hA had4
  have h35 : mm_ok (ids ++ [35]) 35 1 9 := ⟨List.mem_append_right _ (List.mem_singleton_self _), rfl, rfl⟩
  refine kw_dup C d_Writer_init_18 rfl ?_
  refine kw_aload_n C d_Writer_init_19 rfl ?_
  refine kw_aload_n C d_Writer_init_20 rfl ?_
  refine kw_getR C fi_Writer_19 rfl rfl hr1 d_Writer_init_21 (fun o5 ho5 => ?_)
  refine kw_callI (As := [.ref r0, .ref o5]) (cl' := 3) (sl' := 36993) C (c_Packer_init_35 hl n (ids ++ [35]) (fun q9 h9 => kw_fresh (hn q9 ((by decide : ∀ q ∈ ([36, 37] : List Nat), q ∈ [35, 36, 37]) q9 h9)) ((by decide : ∀ q ∈ ([36, 37] : List Nat), q ∉ ([35] : List Nat)) q9 h9)) h35 hr0 ho5 σ3) li_Writer_25 w_Packer_init in_Packer iv_Packer_init rfl m4_Packer_init ⟨Nat.le_of_ble_eq_true rfl, Nat.le_of_ble_eq_true rfl⟩ (Nat.le_of_ble_eq_true rfl) ⟨Nat.le_of_ble_eq_true rfl, Nat.le_of_ble_eq_true rfl⟩ ⟨rfl, rfl⟩ rfl (kw_lr (by decide : 34 ∉ ([36, 37] : List Nat)) (kw_lr (fun z => hN_r0 _ ((by decide : ∀ q ∈ ([36, 37] : List Nat), q ∈ [35, 36, 37]) _ z) rfl) (kw_lr (fun z => hN_r1 _ ((by decide : ∀ q ∈ ([36, 37] : List Nat), q ∈ [35, 36, 37]) _ z) rfl) kw_lz))) (kw_sr9 (by decide : 35 ∉ ([36, 37] : List Nat)) (kw_sr9 (by decide : 34 ∉ ([36, 37] : List Nat)) kw_sz)) d_Writer_init_24 (fun ad7 σ6 had7 => ?_)
  have h34 := h34.more [36, 37]
  have hr0 := hr0.more [36, 37]
  have hr1 := hr1.more [36, 37]
  have h35 := h35.more [36, 37]
  have hA := kw_ch hA had7
  refine kw_putOF C rfl (fun _ _ _ h => by have h : some (mmR_8, mmT_8, _) = some _ := h; cases h; rfl) fi_Writer_28 rfl rfl h34 h35 d_Writer_init_27 (fun σ8 => ?_)
  exact kw_vret C Ce rfl (by simp) hA (Nat.le_of_ble_eq_true rfl) (Nat.le_of_ble_eq_true rfl) rfl d_Writer_init_30
def rm_Layout_init_42 : Room := { frames := 1, cells := 7, slots := 840, locals := 20 }
def F_Layout_init_42 (n : Nat)  (σ : Mm) : Option Mm :=
kf_let (mm_nw σ 43) fun σ1 =>
kf_let (pR σ1 (64 * 42 + 3) (some 43)) fun σ3 =>
kf_let (mm_nw σ3 44) fun σ4 =>
kf_let (pR σ4 (64 * 42 + 4) (some 44)) fun σ6 =>
kf_let (mm_nw σ6 45) fun σ7 =>
kf_let (pR σ7 (64 * 42 + 5) (some 45)) fun σ9 =>
kf_let (mm_nw σ9 46) fun σ10 =>
kf_let (pR σ10 (64 * 42 + 6) (some 46)) fun σ12 =>
kf_let (mm_nw σ12 47) fun σ13 =>
kf_let (pR σ13 (64 * 42 + 7) (some 47)) fun σ15 =>
kf_let (mm_nw σ15 48) fun σ16 =>
kf_let (pR σ16 (64 * 42 + 8) (some 48)) fun σ18 =>
kf_let (mm_nw σ18 49) fun σ19 =>
kf_let (pR σ19 (64 * 42 + 9) (some 49)) fun σ21 =>
some σ21
theorem d_Layout_init_0 : decode prog_4_method_1_code 0 = .ok (.aload_n 0, 1) := by decide +kernel
theorem d_Layout_init_1 : decode prog_4_method_1_code 1 = .ok (.invokespecial 3, 3) := by decide +kernel
theorem d_Layout_init_4 : decode prog_4_method_1_code 4 = .ok (.aload_n 0, 1) := by decide +kernel
theorem d_Layout_init_5 : decode prog_4_method_1_code 5 = .ok (.bipush 120, 2) := by decide +kernel
theorem d_Layout_init_7 : decode prog_4_method_1_code 7 = .ok (.newarray .int, 2) := by decide +kernel
theorem d_Layout_init_9 : decode prog_4_method_1_code 9 = .ok (.putfield 9, 3) := by decide +kernel
theorem d_Layout_init_12 : decode prog_4_method_1_code 12 = .ok (.aload_n 0, 1) := by decide +kernel
theorem d_Layout_init_13 : decode prog_4_method_1_code 13 = .ok (.bipush 120, 2) := by decide +kernel
theorem d_Layout_init_15 : decode prog_4_method_1_code 15 = .ok (.newarray .int, 2) := by decide +kernel
theorem d_Layout_init_17 : decode prog_4_method_1_code 17 = .ok (.putfield 13, 3) := by decide +kernel
theorem d_Layout_init_20 : decode prog_4_method_1_code 20 = .ok (.aload_n 0, 1) := by decide +kernel
theorem d_Layout_init_21 : decode prog_4_method_1_code 21 = .ok (.bipush 120, 2) := by decide +kernel
theorem d_Layout_init_23 : decode prog_4_method_1_code 23 = .ok (.newarray .int, 2) := by decide +kernel
theorem d_Layout_init_25 : decode prog_4_method_1_code 25 = .ok (.putfield 16, 3) := by decide +kernel
theorem d_Layout_init_28 : decode prog_4_method_1_code 28 = .ok (.aload_n 0, 1) := by decide +kernel
theorem d_Layout_init_29 : decode prog_4_method_1_code 29 = .ok (.bipush 120, 2) := by decide +kernel
theorem d_Layout_init_31 : decode prog_4_method_1_code 31 = .ok (.newarray .int, 2) := by decide +kernel
theorem d_Layout_init_33 : decode prog_4_method_1_code 33 = .ok (.putfield 19, 3) := by decide +kernel
theorem d_Layout_init_36 : decode prog_4_method_1_code 36 = .ok (.aload_n 0, 1) := by decide +kernel
theorem d_Layout_init_37 : decode prog_4_method_1_code 37 = .ok (.bipush 120, 2) := by decide +kernel
theorem d_Layout_init_39 : decode prog_4_method_1_code 39 = .ok (.newarray .int, 2) := by decide +kernel
theorem d_Layout_init_41 : decode prog_4_method_1_code 41 = .ok (.putfield 22, 3) := by decide +kernel
theorem d_Layout_init_44 : decode prog_4_method_1_code 44 = .ok (.aload_n 0, 1) := by decide +kernel
theorem d_Layout_init_45 : decode prog_4_method_1_code 45 = .ok (.bipush 120, 2) := by decide +kernel
theorem d_Layout_init_47 : decode prog_4_method_1_code 47 = .ok (.newarray .int, 2) := by decide +kernel
theorem d_Layout_init_49 : decode prog_4_method_1_code 49 = .ok (.putfield 25, 3) := by decide +kernel
theorem d_Layout_init_52 : decode prog_4_method_1_code 52 = .ok (.aload_n 0, 1) := by decide +kernel
theorem d_Layout_init_53 : decode prog_4_method_1_code 53 = .ok (.bipush 120, 2) := by decide +kernel
theorem d_Layout_init_55 : decode prog_4_method_1_code 55 = .ok (.newarray .int, 2) := by decide +kernel
theorem d_Layout_init_57 : decode prog_4_method_1_code 57 = .ok (.putfield 28, 3) := by decide +kernel
theorem d_Layout_init_60 : decode prog_4_method_1_code 60 = .ok (.return_, 1) := by decide +kernel
set_option maxRecDepth 100000 in
set_option maxHeartbeats 4000000 in
theorem c_Layout_init_42 {l0 : Launch} (hl : l0.stackTraces = false) (n : Nat) (ids : List Nat) (hn : ∀ q ∈ ([43, 44, 45, 46, 47, 48, 49] : List Nat), q ∉ ids) (h42 : mm_ok ids 42 1 11) (σ : Mm) : kw_C l0 y_Layout_init (Cond.code y_Layout_init prog_4_method_1_code 1 none :: kw_Ts) rm_Layout_init_42 kw_ov ids [43, 44, 45, 46, 47, 48, 49] [.ref 42] σ (F_Layout_init_42 n  σ) := by
  refine kw_start (L0 := [some (.ref 42)]) hl (by decide +kernel) (Nat.le_of_ble_eq_true rfl) rfl (fun Γ ad C Ce => ?_)
  unfold F_Layout_init_42
  have hA : ∀ q, q ∉ ([] : List Nat) → ad q = ad q := fun _ _ => rfl
  refine kw_aload_n C d_Layout_init_0 rfl ?_
  refine kw_objI C ob_Layout_3 ob_i ob_c (Nat.le_of_ble_eq_true rfl) (Nat.le_of_ble_eq_true rfl) d_Layout_init_1 ?_
  refine kw_aload_n C d_Layout_init_4 rfl ?_
  refine kw_bipush (v := 120) C d_Layout_init_5 (by decide) ?_
  refine kw_newI (o := 43) (cl' := 1) (sl' := 120) C ac_int (hn 43 (by decide)) rfl rfl (by decide) (by decide) (by decide) (kw_lr (by decide : 42 ∉ ([43] : List Nat)) kw_lz) (kw_sr9 (by decide : 42 ∉ ([43] : List Nat)) kw_sz) ⟨rfl, rfl⟩ ⟨Nat.le_of_ble_eq_true rfl, Nat.le_of_ble_eq_true rfl⟩ d_Layout_init_7 (fun ad2 σ1 had2 => ?_)
  have h42 := h42.more [43]
  have hA := kw_ch hA had2
  have h43 : mm_ok (ids ++ [43]) 43 2 0 := ⟨List.mem_append_right _ (List.mem_singleton_self _), rfl, rfl⟩
  refine kw_putOF C rfl (fun _ _ _ h => by have h : some (mmR_11, mmT_11, _) = some _ := h; cases h; rfl) fi_Layout_9 rfl rfl h42 h43 d_Layout_init_9 (fun σ3 => ?_)
  refine kw_aload_n C d_Layout_init_12 rfl ?_
  refine kw_bipush (v := 120) C d_Layout_init_13 (by decide) ?_
  refine kw_newI (o := 44) (cl' := 2) (sl' := 240) C ac_int (kw_fresh (hn 44 (by decide)) (by decide : 44 ∉ [43])) rfl rfl (by decide) (by decide) (by decide) (kw_lr (by decide : 42 ∉ ([44] : List Nat)) kw_lz) (kw_sr9 (by decide : 42 ∉ ([44] : List Nat)) kw_sz) ⟨rfl, rfl⟩ ⟨Nat.le_of_ble_eq_true rfl, Nat.le_of_ble_eq_true rfl⟩ d_Layout_init_15 (fun ad5 σ4 had5 => ?_)
  have h42 := h42.more [44]
  have h43 := h43.more [44]
  have hA := kw_ch hA had5
  have h44 : mm_ok (ids ++ [43] ++ [44]) 44 2 0 := ⟨List.mem_append_right _ (List.mem_singleton_self _), rfl, rfl⟩
  refine kw_putOF C rfl (fun _ _ _ h => by have h : some (mmR_11, mmT_11, _) = some _ := h; cases h; rfl) fi_Layout_13 rfl rfl h42 h44 d_Layout_init_17 (fun σ6 => ?_)
  refine kw_aload_n C d_Layout_init_20 rfl ?_
  refine kw_bipush (v := 120) C d_Layout_init_21 (by decide) ?_
  refine kw_newI (o := 45) (cl' := 3) (sl' := 360) C ac_int (kw_fresh (kw_fresh (hn 45 (by decide)) (by decide : 45 ∉ [43])) (by decide : 45 ∉ [44])) rfl rfl (by decide) (by decide) (by decide) (kw_lr (by decide : 42 ∉ ([45] : List Nat)) kw_lz) (kw_sr9 (by decide : 42 ∉ ([45] : List Nat)) kw_sz) ⟨rfl, rfl⟩ ⟨Nat.le_of_ble_eq_true rfl, Nat.le_of_ble_eq_true rfl⟩ d_Layout_init_23 (fun ad8 σ7 had8 => ?_)
  have h42 := h42.more [45]
  have h43 := h43.more [45]
  have h44 := h44.more [45]
  have hA := kw_ch hA had8
  have h45 : mm_ok (ids ++ [43] ++ [44] ++ [45]) 45 2 0 := ⟨List.mem_append_right _ (List.mem_singleton_self _), rfl, rfl⟩
  refine kw_putOF C rfl (fun _ _ _ h => by have h : some (mmR_11, mmT_11, _) = some _ := h; cases h; rfl) fi_Layout_16 rfl rfl h42 h45 d_Layout_init_25 (fun σ9 => ?_)
  refine kw_aload_n C d_Layout_init_28 rfl ?_
  refine kw_bipush (v := 120) C d_Layout_init_29 (by decide) ?_
  refine kw_newI (o := 46) (cl' := 4) (sl' := 480) C ac_int (kw_fresh (kw_fresh (kw_fresh (hn 46 (by decide)) (by decide : 46 ∉ [43])) (by decide : 46 ∉ [44])) (by decide : 46 ∉ [45])) rfl rfl (by decide) (by decide) (by decide) (kw_lr (by decide : 42 ∉ ([46] : List Nat)) kw_lz) (kw_sr9 (by decide : 42 ∉ ([46] : List Nat)) kw_sz) ⟨rfl, rfl⟩ ⟨Nat.le_of_ble_eq_true rfl, Nat.le_of_ble_eq_true rfl⟩ d_Layout_init_31 (fun ad11 σ10 had11 => ?_)
  have h42 := h42.more [46]
  have h43 := h43.more [46]
  have h44 := h44.more [46]
  have h45 := h45.more [46]
  have hA := kw_ch hA had11
  have h46 : mm_ok (ids ++ [43] ++ [44] ++ [45] ++ [46]) 46 2 0 := ⟨List.mem_append_right _ (List.mem_singleton_self _), rfl, rfl⟩
  refine kw_putOF C rfl (fun _ _ _ h => by have h : some (mmR_11, mmT_11, _) = some _ := h; cases h; rfl) fi_Layout_19 rfl rfl h42 h46 d_Layout_init_33 (fun σ12 => ?_)
  refine kw_aload_n C d_Layout_init_36 rfl ?_
  refine kw_bipush (v := 120) C d_Layout_init_37 (by decide) ?_
  refine kw_newI (o := 47) (cl' := 5) (sl' := 600) C ac_int (kw_fresh (kw_fresh (kw_fresh (kw_fresh (hn 47 (by decide)) (by decide : 47 ∉ [43])) (by decide : 47 ∉ [44])) (by decide : 47 ∉ [45])) (by decide : 47 ∉ [46])) rfl rfl (by decide) (by decide) (by decide) (kw_lr (by decide : 42 ∉ ([47] : List Nat)) kw_lz) (kw_sr9 (by decide : 42 ∉ ([47] : List Nat)) kw_sz) ⟨rfl, rfl⟩ ⟨Nat.le_of_ble_eq_true rfl, Nat.le_of_ble_eq_true rfl⟩ d_Layout_init_39 (fun ad14 σ13 had14 => ?_)
  have h42 := h42.more [47]
  have h43 := h43.more [47]
  have h44 := h44.more [47]
  have h45 := h45.more [47]
  have h46 := h46.more [47]
  have hA := kw_ch hA had14
  have h47 : mm_ok (ids ++ [43] ++ [44] ++ [45] ++ [46] ++ [47]) 47 2 0 := ⟨List.mem_append_right _ (List.mem_singleton_self _), rfl, rfl⟩
  refine kw_putOF C rfl (fun _ _ _ h => by have h : some (mmR_11, mmT_11, _) = some _ := h; cases h; rfl) fi_Layout_22 rfl rfl h42 h47 d_Layout_init_41 (fun σ15 => ?_)
  refine kw_aload_n C d_Layout_init_44 rfl ?_
  refine kw_bipush (v := 120) C d_Layout_init_45 (by decide) ?_
  refine kw_newI (o := 48) (cl' := 6) (sl' := 720) C ac_int (kw_fresh (kw_fresh (kw_fresh (kw_fresh (kw_fresh (hn 48 (by decide)) (by decide : 48 ∉ [43])) (by decide : 48 ∉ [44])) (by decide : 48 ∉ [45])) (by decide : 48 ∉ [46])) (by decide : 48 ∉ [47])) rfl rfl (by decide) (by decide) (by decide) (kw_lr (by decide : 42 ∉ ([48] : List Nat)) kw_lz) (kw_sr9 (by decide : 42 ∉ ([48] : List Nat)) kw_sz) ⟨rfl, rfl⟩ ⟨Nat.le_of_ble_eq_true rfl, Nat.le_of_ble_eq_true rfl⟩ d_Layout_init_47 (fun ad17 σ16 had17 => ?_)
  have h42 := h42.more [48]
  have h43 := h43.more [48]
  have h44 := h44.more [48]
  have h45 := h45.more [48]
  have h46 := h46.more [48]
  have h47 := h47.more [48]
  have hA := kw_ch hA had17
  have h48 : mm_ok (ids ++ [43] ++ [44] ++ [45] ++ [46] ++ [47] ++ [48]) 48 2 0 := ⟨List.mem_append_right _ (List.mem_singleton_self _), rfl, rfl⟩
  refine kw_putOF C rfl (fun _ _ _ h => by have h : some (mmR_11, mmT_11, _) = some _ := h; cases h; rfl) fi_Layout_25 rfl rfl h42 h48 d_Layout_init_49 (fun σ18 => ?_)
  refine kw_aload_n C d_Layout_init_52 rfl ?_
  refine kw_bipush (v := 120) C d_Layout_init_53 (by decide) ?_
  refine kw_newI (o := 49) (cl' := 7) (sl' := 840) C ac_int (kw_fresh (kw_fresh (kw_fresh (kw_fresh (kw_fresh (kw_fresh (hn 49 (by decide)) (by decide : 49 ∉ [43])) (by decide : 49 ∉ [44])) (by decide : 49 ∉ [45])) (by decide : 49 ∉ [46])) (by decide : 49 ∉ [47])) (by decide : 49 ∉ [48])) rfl rfl (by decide) (by decide) (by decide) (kw_lr (by decide : 42 ∉ ([49] : List Nat)) kw_lz) (kw_sr9 (by decide : 42 ∉ ([49] : List Nat)) kw_sz) ⟨rfl, rfl⟩ ⟨Nat.le_of_ble_eq_true rfl, Nat.le_of_ble_eq_true rfl⟩ d_Layout_init_55 (fun ad20 σ19 had20 => ?_)
  have h42 := h42.more [49]
  have h43 := h43.more [49]
  have h44 := h44.more [49]
  have h45 := h45.more [49]
  have h46 := h46.more [49]
  have h47 := h47.more [49]
  have h48 := h48.more [49]
  have hA := kw_ch hA had20
  have h49 : mm_ok (ids ++ [43] ++ [44] ++ [45] ++ [46] ++ [47] ++ [48] ++ [49]) 49 2 0 := ⟨List.mem_append_right _ (List.mem_singleton_self _), rfl, rfl⟩
  refine kw_putOF C rfl (fun _ _ _ h => by have h : some (mmR_11, mmT_11, _) = some _ := h; cases h; rfl) fi_Layout_28 rfl rfl h42 h49 d_Layout_init_57 (fun σ21 => ?_)
  exact kw_vret C Ce rfl (by simp) hA (Nat.le_of_ble_eq_true rfl) (Nat.le_of_ble_eq_true rfl) rfl d_Layout_init_60
def rm_Layout_init_54 : Room := { frames := 1, cells := 7, slots := 840, locals := 20 }
def F_Layout_init_54 (n : Nat)  (σ : Mm) : Option Mm :=
kf_let (mm_nw σ 55) fun σ1 =>
kf_let (pR σ1 (64 * 54 + 3) (some 55)) fun σ3 =>
kf_let (mm_nw σ3 56) fun σ4 =>
kf_let (pR σ4 (64 * 54 + 4) (some 56)) fun σ6 =>
kf_let (mm_nw σ6 57) fun σ7 =>
kf_let (pR σ7 (64 * 54 + 5) (some 57)) fun σ9 =>
kf_let (mm_nw σ9 58) fun σ10 =>
kf_let (pR σ10 (64 * 54 + 6) (some 58)) fun σ12 =>
kf_let (mm_nw σ12 59) fun σ13 =>
kf_let (pR σ13 (64 * 54 + 7) (some 59)) fun σ15 =>
kf_let (mm_nw σ15 60) fun σ16 =>
kf_let (pR σ16 (64 * 54 + 8) (some 60)) fun σ18 =>
kf_let (mm_nw σ18 61) fun σ19 =>
kf_let (pR σ19 (64 * 54 + 9) (some 61)) fun σ21 =>
some σ21
set_option maxRecDepth 100000 in
set_option maxHeartbeats 4000000 in
theorem c_Layout_init_54 {l0 : Launch} (hl : l0.stackTraces = false) (n : Nat) (ids : List Nat) (hn : ∀ q ∈ ([55, 56, 57, 58, 59, 60, 61] : List Nat), q ∉ ids) (h54 : mm_ok ids 54 1 11) (σ : Mm) : kw_C l0 y_Layout_init (Cond.code y_Layout_init prog_4_method_1_code 1 none :: kw_Ts) rm_Layout_init_54 kw_ov ids [55, 56, 57, 58, 59, 60, 61] [.ref 54] σ (F_Layout_init_54 n  σ) := by
  refine kw_start (L0 := [some (.ref 54)]) hl (by decide +kernel) (Nat.le_of_ble_eq_true rfl) rfl (fun Γ ad C Ce => ?_)
  unfold F_Layout_init_54
  have hA : ∀ q, q ∉ ([] : List Nat) → ad q = ad q := fun _ _ => rfl
  refine kw_aload_n C d_Layout_init_0 rfl ?_
  refine kw_objI C ob_Layout_3 ob_i ob_c (Nat.le_of_ble_eq_true rfl) (Nat.le_of_ble_eq_true rfl) d_Layout_init_1 ?_
  refine kw_aload_n C d_Layout_init_4 rfl ?_
  refine kw_bipush (v := 120) C d_Layout_init_5 (by decide) ?_
  refine kw_newI (o := 55) (cl' := 1) (sl' := 120) C ac_int (hn 55 (by decide)) rfl rfl (by decide) (by decide) (by decide) (kw_lr (by decide : 54 ∉ ([55] : List Nat)) kw_lz) (kw_sr9 (by decide : 54 ∉ ([55] : List Nat)) kw_sz) ⟨rfl, rfl⟩ ⟨Nat.le_of_ble_eq_true rfl, Nat.le_of_ble_eq_true rfl⟩ d_Layout_init_7 (fun ad2 σ1 had2 => ?_)
  have h54 := h54.more [55]
  have hA := kw_ch hA had2
  have h55 : mm_ok (ids ++ [55]) 55 2 0 := ⟨List.mem_append_right _ (List.mem_singleton_self _), rfl, rfl⟩
  refine kw_putOF C rfl (fun _ _ _ h => by have h : some (mmR_11, mmT_11, _) = some _ := h; cases h; rfl) fi_Layout_9 rfl rfl h54 h55 d_Layout_init_9 (fun σ3 => ?_)
  refine kw_aload_n C d_Layout_init_12 rfl ?_
  refine kw_bipush (v := 120) C d_Layout_init_13 (by decide) ?_
  refine kw_newI (o := 56) (cl' := 2) (sl' := 240) C ac_int (kw_fresh (hn 56 (by decide)) (by decide : 56 ∉ [55])) rfl rfl (by decide) (by decide) (by decide) (kw_lr (by decide : 54 ∉ ([56] : List Nat)) kw_lz) (kw_sr9 (by decide : 54 ∉ ([56] : List Nat)) kw_sz) ⟨rfl, rfl⟩ ⟨Nat.le_of_ble_eq_true rfl, Nat.le_of_ble_eq_true rfl⟩ d_Layout_init_15 (fun ad5 σ4 had5 => ?_)
  have h54 := h54.more [56]
  have h55 := h55.more [56]
  have hA := kw_ch hA had5
  have h56 : mm_ok (ids ++ [55] ++ [56]) 56 2 0 := ⟨List.mem_append_right _ (List.mem_singleton_self _), rfl, rfl⟩
  refine kw_putOF C rfl (fun _ _ _ h => by have h : some (mmR_11, mmT_11, _) = some _ := h; cases h; rfl) fi_Layout_13 rfl rfl h54 h56 d_Layout_init_17 (fun σ6 => ?_)
  refine kw_aload_n C d_Layout_init_20 rfl ?_
  refine kw_bipush (v := 120) C d_Layout_init_21 (by decide) ?_
  refine kw_newI (o := 57) (cl' := 3) (sl' := 360) C ac_int (kw_fresh (kw_fresh (hn 57 (by decide)) (by decide : 57 ∉ [55])) (by decide : 57 ∉ [56])) rfl rfl (by decide) (by decide) (by decide) (kw_lr (by decide : 54 ∉ ([57] : List Nat)) kw_lz) (kw_sr9 (by decide : 54 ∉ ([57] : List Nat)) kw_sz) ⟨rfl, rfl⟩ ⟨Nat.le_of_ble_eq_true rfl, Nat.le_of_ble_eq_true rfl⟩ d_Layout_init_23 (fun ad8 σ7 had8 => ?_)
  have h54 := h54.more [57]
  have h55 := h55.more [57]
  have h56 := h56.more [57]
  have hA := kw_ch hA had8
  have h57 : mm_ok (ids ++ [55] ++ [56] ++ [57]) 57 2 0 := ⟨List.mem_append_right _ (List.mem_singleton_self _), rfl, rfl⟩
  refine kw_putOF C rfl (fun _ _ _ h => by have h : some (mmR_11, mmT_11, _) = some _ := h; cases h; rfl) fi_Layout_16 rfl rfl h54 h57 d_Layout_init_25 (fun σ9 => ?_)
  refine kw_aload_n C d_Layout_init_28 rfl ?_
  refine kw_bipush (v := 120) C d_Layout_init_29 (by decide) ?_
  refine kw_newI (o := 58) (cl' := 4) (sl' := 480) C ac_int (kw_fresh (kw_fresh (kw_fresh (hn 58 (by decide)) (by decide : 58 ∉ [55])) (by decide : 58 ∉ [56])) (by decide : 58 ∉ [57])) rfl rfl (by decide) (by decide) (by decide) (kw_lr (by decide : 54 ∉ ([58] : List Nat)) kw_lz) (kw_sr9 (by decide : 54 ∉ ([58] : List Nat)) kw_sz) ⟨rfl, rfl⟩ ⟨Nat.le_of_ble_eq_true rfl, Nat.le_of_ble_eq_true rfl⟩ d_Layout_init_31 (fun ad11 σ10 had11 => ?_)
  have h54 := h54.more [58]
  have h55 := h55.more [58]
  have h56 := h56.more [58]
  have h57 := h57.more [58]
  have hA := kw_ch hA had11
  have h58 : mm_ok (ids ++ [55] ++ [56] ++ [57] ++ [58]) 58 2 0 := ⟨List.mem_append_right _ (List.mem_singleton_self _), rfl, rfl⟩
  refine kw_putOF C rfl (fun _ _ _ h => by have h : some (mmR_11, mmT_11, _) = some _ := h; cases h; rfl) fi_Layout_19 rfl rfl h54 h58 d_Layout_init_33 (fun σ12 => ?_)
  refine kw_aload_n C d_Layout_init_36 rfl ?_
  refine kw_bipush (v := 120) C d_Layout_init_37 (by decide) ?_
  refine kw_newI (o := 59) (cl' := 5) (sl' := 600) C ac_int (kw_fresh (kw_fresh (kw_fresh (kw_fresh (hn 59 (by decide)) (by decide : 59 ∉ [55])) (by decide : 59 ∉ [56])) (by decide : 59 ∉ [57])) (by decide : 59 ∉ [58])) rfl rfl (by decide) (by decide) (by decide) (kw_lr (by decide : 54 ∉ ([59] : List Nat)) kw_lz) (kw_sr9 (by decide : 54 ∉ ([59] : List Nat)) kw_sz) ⟨rfl, rfl⟩ ⟨Nat.le_of_ble_eq_true rfl, Nat.le_of_ble_eq_true rfl⟩ d_Layout_init_39 (fun ad14 σ13 had14 => ?_)
  have h54 := h54.more [59]
  have h55 := h55.more [59]
  have h56 := h56.more [59]
  have h57 := h57.more [59]
  have h58 := h58.more [59]
  have hA := kw_ch hA had14
  have h59 : mm_ok (ids ++ [55] ++ [56] ++ [57] ++ [58] ++ [59]) 59 2 0 := ⟨List.mem_append_right _ (List.mem_singleton_self _), rfl, rfl⟩
  refine kw_putOF C rfl (fun _ _ _ h => by have h : some (mmR_11, mmT_11, _) = some _ := h; cases h; rfl) fi_Layout_22 rfl rfl h54 h59 d_Layout_init_41 (fun σ15 => ?_)
  refine kw_aload_n C d_Layout_init_44 rfl ?_
  refine kw_bipush (v := 120) C d_Layout_init_45 (by decide) ?_
  refine kw_newI (o := 60) (cl' := 6) (sl' := 720) C ac_int (kw_fresh (kw_fresh (kw_fresh (kw_fresh (kw_fresh (hn 60 (by decide)) (by decide : 60 ∉ [55])) (by decide : 60 ∉ [56])) (by decide : 60 ∉ [57])) (by decide : 60 ∉ [58])) (by decide : 60 ∉ [59])) rfl rfl (by decide) (by decide) (by decide) (kw_lr (by decide : 54 ∉ ([60] : List Nat)) kw_lz) (kw_sr9 (by decide : 54 ∉ ([60] : List Nat)) kw_sz) ⟨rfl, rfl⟩ ⟨Nat.le_of_ble_eq_true rfl, Nat.le_of_ble_eq_true rfl⟩ d_Layout_init_47 (fun ad17 σ16 had17 => ?_)
  have h54 := h54.more [60]
  have h55 := h55.more [60]
  have h56 := h56.more [60]
  have h57 := h57.more [60]
  have h58 := h58.more [60]
  have h59 := h59.more [60]
  have hA := kw_ch hA had17
  have h60 : mm_ok (ids ++ [55] ++ [56] ++ [57] ++ [58] ++ [59] ++ [60]) 60 2 0 := ⟨List.mem_append_right _ (List.mem_singleton_self _), rfl, rfl⟩
  refine kw_putOF C rfl (fun _ _ _ h => by have h : some (mmR_11, mmT_11, _) = some _ := h; cases h; rfl) fi_Layout_25 rfl rfl h54 h60 d_Layout_init_49 (fun σ18 => ?_)
  refine kw_aload_n C d_Layout_init_52 rfl ?_
  refine kw_bipush (v := 120) C d_Layout_init_53 (by decide) ?_
  refine kw_newI (o := 61) (cl' := 7) (sl' := 840) C ac_int (kw_fresh (kw_fresh (kw_fresh (kw_fresh (kw_fresh (kw_fresh (hn 61 (by decide)) (by decide : 61 ∉ [55])) (by decide : 61 ∉ [56])) (by decide : 61 ∉ [57])) (by decide : 61 ∉ [58])) (by decide : 61 ∉ [59])) (by decide : 61 ∉ [60])) rfl rfl (by decide) (by decide) (by decide) (kw_lr (by decide : 54 ∉ ([61] : List Nat)) kw_lz) (kw_sr9 (by decide : 54 ∉ ([61] : List Nat)) kw_sz) ⟨rfl, rfl⟩ ⟨Nat.le_of_ble_eq_true rfl, Nat.le_of_ble_eq_true rfl⟩ d_Layout_init_55 (fun ad20 σ19 had20 => ?_)
  have h54 := h54.more [61]
  have h55 := h55.more [61]
  have h56 := h56.more [61]
  have h57 := h57.more [61]
  have h58 := h58.more [61]
  have h59 := h59.more [61]
  have h60 := h60.more [61]
  have hA := kw_ch hA had20
  have h61 : mm_ok (ids ++ [55] ++ [56] ++ [57] ++ [58] ++ [59] ++ [60] ++ [61]) 61 2 0 := ⟨List.mem_append_right _ (List.mem_singleton_self _), rfl, rfl⟩
  refine kw_putOF C rfl (fun _ _ _ h => by have h : some (mmR_11, mmT_11, _) = some _ := h; cases h; rfl) fi_Layout_28 rfl rfl h54 h61 d_Layout_init_57 (fun σ21 => ?_)
  exact kw_vret C Ce rfl (by simp) hA (Nat.le_of_ble_eq_true rfl) (Nat.le_of_ble_eq_true rfl) rfl d_Layout_init_60
def rm_Picture_init_38 : Room := { frames := 2, cells := 11, slots := 18258, locals := 40 }
def F_Picture_init_38 (n : Nat)  (σ : Mm) : Option Mm :=
kf_let (mm_nw σ 39) fun σ1 =>
kf_let (pR σ1 (64 * 38 + 8) (some 39)) fun σ3 =>
kf_let (mm_nw σ3 40) fun σ4 =>
kf_let (pR σ4 (64 * 38 + 9) (some 40)) fun σ6 =>
kf_let (mm_nw σ6 41) fun σ7 =>
kf_let (pR σ7 (64 * 38 + 10) (some 41)) fun σ9 =>
kf_let (mm_nw σ9 42) fun σ10 =>
Option.bind (F_Layout_init_42 n  σ10) fun σ12 =>
kf_let (pR σ12 (64 * 38 + 11) (some 42)) fun σ14 =>
some σ14
theorem d_Picture_init_0 : decode prog_7_method_1_code 0 = .ok (.aload_n 0, 1) := by decide +kernel
theorem d_Picture_init_1 : decode prog_7_method_1_code 1 = .ok (.invokespecial 1, 3) := by decide +kernel
theorem d_Picture_init_4 : decode prog_7_method_1_code 4 = .ok (.aload_n 0, 1) := by decide +kernel
theorem d_Picture_init_5 : decode prog_7_method_1_code 5 = .ok (.sipush 16384, 3) := by decide +kernel
theorem d_Picture_init_8 : decode prog_7_method_1_code 8 = .ok (.newarray .int, 2) := by decide +kernel
theorem d_Picture_init_10 : decode prog_7_method_1_code 10 = .ok (.putfield 9, 3) := by decide +kernel
theorem d_Picture_init_13 : decode prog_7_method_1_code 13 = .ok (.aload_n 0, 1) := by decide +kernel
theorem d_Picture_init_14 : decode prog_7_method_1_code 14 = .ok (.sipush 768, 3) := by decide +kernel
theorem d_Picture_init_17 : decode prog_7_method_1_code 17 = .ok (.newarray .int, 2) := by decide +kernel
theorem d_Picture_init_19 : decode prog_7_method_1_code 19 = .ok (.putfield 13, 3) := by decide +kernel
theorem d_Picture_init_22 : decode prog_7_method_1_code 22 = .ok (.aload_n 0, 1) := by decide +kernel
theorem d_Picture_init_23 : decode prog_7_method_1_code 23 = .ok (.sipush 256, 3) := by decide +kernel
theorem d_Picture_init_26 : decode prog_7_method_1_code 26 = .ok (.newarray .int, 2) := by decide +kernel
theorem d_Picture_init_28 : decode prog_7_method_1_code 28 = .ok (.putfield 16, 3) := by decide +kernel
theorem d_Picture_init_31 : decode prog_7_method_1_code 31 = .ok (.aload_n 0, 1) := by decide +kernel
theorem d_Picture_init_32 : decode prog_7_method_1_code 32 = .ok (.new 19, 3) := by decide +kernel
theorem d_Picture_init_35 : decode prog_7_method_1_code 35 = .ok (.dup, 1) := by decide +kernel
theorem d_Picture_init_36 : decode prog_7_method_1_code 36 = .ok (.invokespecial 21, 3) := by decide +kernel
theorem d_Picture_init_39 : decode prog_7_method_1_code 39 = .ok (.putfield 22, 3) := by decide +kernel
theorem d_Picture_init_42 : decode prog_7_method_1_code 42 = .ok (.return_, 1) := by decide +kernel
set_option maxRecDepth 100000 in
set_option maxHeartbeats 4000000 in
theorem c_Picture_init_38 {l0 : Launch} (hl : l0.stackTraces = false) (n : Nat) (ids : List Nat) (hn : ∀ q ∈ ([39, 40, 41, 42, 43, 44, 45, 46, 47, 48, 49] : List Nat), q ∉ ids) (h38 : mm_ok ids 38 1 10) (σ : Mm) : kw_C l0 y_Picture_init (Cond.code y_Picture_init prog_7_method_1_code 1 none :: kw_Ts) rm_Picture_init_38 kw_ov ids [39, 40, 41, 42, 43, 44, 45, 46, 47, 48, 49] [.ref 38] σ (F_Picture_init_38 n  σ) := by
  refine kw_start (L0 := [some (.ref 38)]) hl (by decide +kernel) (Nat.le_of_ble_eq_true rfl) rfl (fun Γ ad C Ce => ?_)
  unfold F_Picture_init_38
  have hA : ∀ q, q ∉ ([] : List Nat) → ad q = ad q := fun _ _ => rfl
  refine kw_aload_n C d_Picture_init_0 rfl ?_
  refine kw_objI C ob_Picture_1 ob_i ob_c (Nat.le_of_ble_eq_true rfl) (Nat.le_of_ble_eq_true rfl) d_Picture_init_1 ?_
  refine kw_aload_n C d_Picture_init_4 rfl ?_
  refine kw_sipush (v := 16384) C d_Picture_init_5 (by decide) ?_
  refine kw_newI (o := 39) (cl' := 1) (sl' := 16384) C ac_int (hn 39 (by decide)) rfl rfl (by decide) (by decide) (by decide) (kw_lr (by decide : 38 ∉ ([39] : List Nat)) kw_lz) (kw_sr9 (by decide : 38 ∉ ([39] : List Nat)) kw_sz) ⟨rfl, rfl⟩ ⟨Nat.le_of_ble_eq_true rfl, Nat.le_of_ble_eq_true rfl⟩ d_Picture_init_8 (fun ad2 σ1 had2 => ?_)
  have h38 := h38.more [39]
  have hA := kw_ch hA had2
  have h39 : mm_ok (ids ++ [39]) 39 2 0 := ⟨List.mem_append_right _ (List.mem_singleton_self _), rfl, rfl⟩
  refine kw_putOF C rfl (fun _ _ _ h => by have h : some (mmR_10, mmT_10, _) = some _ := h; cases h; rfl) fi_Picture_9 rfl rfl h38 h39 d_Picture_init_10 (fun σ3 => ?_)
  refine kw_aload_n C d_Picture_init_13 rfl ?_
  refine kw_sipush (v := 768) C d_Picture_init_14 (by decide) ?_
  refine kw_newI (o := 40) (cl' := 2) (sl' := 17152) C ac_int (kw_fresh (hn 40 (by decide)) (by decide : 40 ∉ [39])) rfl rfl (by decide) (by decide) (by decide) (kw_lr (by decide : 38 ∉ ([40] : List Nat)) kw_lz) (kw_sr9 (by decide : 38 ∉ ([40] : List Nat)) kw_sz) ⟨rfl, rfl⟩ ⟨Nat.le_of_ble_eq_true rfl, Nat.le_of_ble_eq_true rfl⟩ d_Picture_init_17 (fun ad5 σ4 had5 => ?_)
  have h38 := h38.more [40]
  have h39 := h39.more [40]
  have hA := kw_ch hA had5
  have h40 : mm_ok (ids ++ [39] ++ [40]) 40 2 0 := ⟨List.mem_append_right _ (List.mem_singleton_self _), rfl, rfl⟩
  refine kw_putOF C rfl (fun _ _ _ h => by have h : some (mmR_10, mmT_10, _) = some _ := h; cases h; rfl) fi_Picture_13 rfl rfl h38 h40 d_Picture_init_19 (fun σ6 => ?_)
  refine kw_aload_n C d_Picture_init_22 rfl ?_
  refine kw_sipush (v := 256) C d_Picture_init_23 (by decide) ?_
  refine kw_newI (o := 41) (cl' := 3) (sl' := 17408) C ac_int (kw_fresh (kw_fresh (hn 41 (by decide)) (by decide : 41 ∉ [39])) (by decide : 41 ∉ [40])) rfl rfl (by decide) (by decide) (by decide) (kw_lr (by decide : 38 ∉ ([41] : List Nat)) kw_lz) (kw_sr9 (by decide : 38 ∉ ([41] : List Nat)) kw_sz) ⟨rfl, rfl⟩ ⟨Nat.le_of_ble_eq_true rfl, Nat.le_of_ble_eq_true rfl⟩ d_Picture_init_26 (fun ad8 σ7 had8 => ?_)
  have h38 := h38.more [41]
  have h39 := h39.more [41]
  have h40 := h40.more [41]
  have hA := kw_ch hA had8
  have h41 : mm_ok (ids ++ [39] ++ [40] ++ [41]) 41 2 0 := ⟨List.mem_append_right _ (List.mem_singleton_self _), rfl, rfl⟩
  refine kw_putOF C rfl (fun _ _ _ h => by have h : some (mmR_10, mmT_10, _) = some _ := h; cases h; rfl) fi_Picture_16 rfl rfl h38 h41 d_Picture_init_28 (fun σ9 => ?_)
  refine kw_aload_n C d_Picture_init_31 rfl ?_
  refine kw_new (o := 42) (cl' := 4) (sl' := 17418) C nj_Picture_19 (kw_fresh (kw_fresh (kw_fresh (hn 42 (by decide)) (by decide : 42 ∉ [39])) (by decide : 42 ∉ [40])) (by decide : 42 ∉ [41])) rfl rfl (kw_lr (by decide : 38 ∉ ([42] : List Nat)) kw_lz) (kw_sr9 (by decide : 38 ∉ ([42] : List Nat)) kw_sz) ⟨rfl, rfl⟩ ⟨Nat.le_of_ble_eq_true rfl, Nat.le_of_ble_eq_true rfl⟩ d_Picture_init_32 (fun ad11 σ10 had11 => ?_)
  have h38 := h38.more [42]
  have h39 := h39.more [42]
  have h40 := h40.more [42]
  have h41 := h41.more [42]
  have hA := kw_ch hA had11
  have h42 : mm_ok (ids ++ [39] ++ [40] ++ [41] ++ [42]) 42 1 11 := ⟨List.mem_append_right _ (List.mem_singleton_self _), rfl, rfl⟩
  refine kw_dup C d_Picture_init_35 rfl ?_
  refine kw_callI (As := []) (cl' := 11) (sl' := 18258) C (c_Layout_init_42 hl n (ids ++ [39] ++ [40] ++ [41] ++ [42]) (fun q9 h9 => kw_fresh (kw_fresh (kw_fresh (kw_fresh (hn q9 ((by decide : ∀ q ∈ ([43, 44, 45, 46, 47, 48, 49] : List Nat), q ∈ [39, 40, 41, 42, 43, 44, 45, 46, 47, 48, 49]) q9 h9)) ((by decide : ∀ q ∈ ([43, 44, 45, 46, 47, 48, 49] : List Nat), q ∉ ([39] : List Nat)) q9 h9)) ((by decide : ∀ q ∈ ([43, 44, 45, 46, 47, 48, 49] : List Nat), q ∉ ([40] : List Nat)) q9 h9)) ((by decide : ∀ q ∈ ([43, 44, 45, 46, 47, 48, 49] : List Nat), q ∉ ([41] : List Nat)) q9 h9)) ((by decide : ∀ q ∈ ([43, 44, 45, 46, 47, 48, 49] : List Nat), q ∉ ([42] : List Nat)) q9 h9)) h42 σ10) li_Picture_21 w_Layout_init in_Layout iv_Layout_init rfl m4_Layout_init ⟨Nat.le_of_ble_eq_true rfl, Nat.le_of_ble_eq_true rfl⟩ (Nat.le_of_ble_eq_true rfl) ⟨Nat.le_of_ble_eq_true rfl, Nat.le_of_ble_eq_true rfl⟩ ⟨rfl, rfl⟩ rfl (kw_lr (by decide : 38 ∉ ([43, 44, 45, 46, 47, 48, 49] : List Nat)) kw_lz) (kw_sr9 (by decide : 42 ∉ ([43, 44, 45, 46, 47, 48, 49] : List Nat)) (kw_sr9 (by decide : 38 ∉ ([43, 44, 45, 46, 47, 48, 49] : List Nat)) kw_sz)) d_Picture_init_36 (fun ad13 σ12 had13 => ?_)
  have h38 := h38.more [43, 44, 45, 46, 47, 48, 49]
  have h39 := h39.more [43, 44, 45, 46, 47, 48, 49]
  have h40 := h40.more [43, 44, 45, 46, 47, 48, 49]
  have h41 := h41.more [43, 44, 45, 46, 47, 48, 49]
  have h42 := h42.more [43, 44, 45, 46, 47, 48, 49]
  have hA := kw_ch hA had13
  refine kw_putOF C rfl (fun _ _ _ h => by have h : some (mmR_10, mmT_10, _) = some _ := h; cases h; rfl) fi_Picture_22 rfl rfl h38 h42 d_Picture_init_39 (fun σ14 => ?_)
  exact kw_vret C Ce rfl (by simp) hA (Nat.le_of_ble_eq_true rfl) (Nat.le_of_ble_eq_true rfl) rfl d_Picture_init_42
def rm_Picture_init_50 : Room := { frames := 2, cells := 11, slots := 18258, locals := 40 }
def F_Picture_init_50 (n : Nat)  (σ : Mm) : Option Mm :=
kf_let (mm_nw σ 51) fun σ1 =>
kf_let (pR σ1 (64 * 50 + 8) (some 51)) fun σ3 =>
kf_let (mm_nw σ3 52) fun σ4 =>
kf_let (pR σ4 (64 * 50 + 9) (some 52)) fun σ6 =>
kf_let (mm_nw σ6 53) fun σ7 =>
kf_let (pR σ7 (64 * 50 + 10) (some 53)) fun σ9 =>
kf_let (mm_nw σ9 54) fun σ10 =>
Option.bind (F_Layout_init_54 n  σ10) fun σ12 =>
kf_let (pR σ12 (64 * 50 + 11) (some 54)) fun σ14 =>
some σ14
set_option maxRecDepth 100000 in
set_option maxHeartbeats 4000000 in
theorem c_Picture_init_50 {l0 : Launch} (hl : l0.stackTraces = false) (n : Nat) (ids : List Nat) (hn : ∀ q ∈ ([51, 52, 53, 54, 55, 56, 57, 58, 59, 60, 61] : List Nat), q ∉ ids) (h50 : mm_ok ids 50 1 10) (σ : Mm) : kw_C l0 y_Picture_init (Cond.code y_Picture_init prog_7_method_1_code 1 none :: kw_Ts) rm_Picture_init_50 kw_ov ids [51, 52, 53, 54, 55, 56, 57, 58, 59, 60, 61] [.ref 50] σ (F_Picture_init_50 n  σ) := by
  refine kw_start (L0 := [some (.ref 50)]) hl (by decide +kernel) (Nat.le_of_ble_eq_true rfl) rfl (fun Γ ad C Ce => ?_)
  unfold F_Picture_init_50
  have hA : ∀ q, q ∉ ([] : List Nat) → ad q = ad q := fun _ _ => rfl
  refine kw_aload_n C d_Picture_init_0 rfl ?_
  refine kw_objI C ob_Picture_1 ob_i ob_c (Nat.le_of_ble_eq_true rfl) (Nat.le_of_ble_eq_true rfl) d_Picture_init_1 ?_
  refine kw_aload_n C d_Picture_init_4 rfl ?_
  refine kw_sipush (v := 16384) C d_Picture_init_5 (by decide) ?_
  refine kw_newI (o := 51) (cl' := 1) (sl' := 16384) C ac_int (hn 51 (by decide)) rfl rfl (by decide) (by decide) (by decide) (kw_lr (by decide : 50 ∉ ([51] : List Nat)) kw_lz) (kw_sr9 (by decide : 50 ∉ ([51] : List Nat)) kw_sz) ⟨rfl, rfl⟩ ⟨Nat.le_of_ble_eq_true rfl, Nat.le_of_ble_eq_true rfl⟩ d_Picture_init_8 (fun ad2 σ1 had2 => ?_)
  have h50 := h50.more [51]
  have hA := kw_ch hA had2
  have h51 : mm_ok (ids ++ [51]) 51 2 0 := ⟨List.mem_append_right _ (List.mem_singleton_self _), rfl, rfl⟩
  refine kw_putOF C rfl (fun _ _ _ h => by have h : some (mmR_10, mmT_10, _) = some _ := h; cases h; rfl) fi_Picture_9 rfl rfl h50 h51 d_Picture_init_10 (fun σ3 => ?_)
  refine kw_aload_n C d_Picture_init_13 rfl ?_
  refine kw_sipush (v := 768) C d_Picture_init_14 (by decide) ?_
  refine kw_newI (o := 52) (cl' := 2) (sl' := 17152) C ac_int (kw_fresh (hn 52 (by decide)) (by decide : 52 ∉ [51])) rfl rfl (by decide) (by decide) (by decide) (kw_lr (by decide : 50 ∉ ([52] : List Nat)) kw_lz) (kw_sr9 (by decide : 50 ∉ ([52] : List Nat)) kw_sz) ⟨rfl, rfl⟩ ⟨Nat.le_of_ble_eq_true rfl, Nat.le_of_ble_eq_true rfl⟩ d_Picture_init_17 (fun ad5 σ4 had5 => ?_)
  have h50 := h50.more [52]
  have h51 := h51.more [52]
  have hA := kw_ch hA had5
  have h52 : mm_ok (ids ++ [51] ++ [52]) 52 2 0 := ⟨List.mem_append_right _ (List.mem_singleton_self _), rfl, rfl⟩
  refine kw_putOF C rfl (fun _ _ _ h => by have h : some (mmR_10, mmT_10, _) = some _ := h; cases h; rfl) fi_Picture_13 rfl rfl h50 h52 d_Picture_init_19 (fun σ6 => ?_)
  refine kw_aload_n C d_Picture_init_22 rfl ?_
  refine kw_sipush (v := 256) C d_Picture_init_23 (by decide) ?_
  refine kw_newI (o := 53) (cl' := 3) (sl' := 17408) C ac_int (kw_fresh (kw_fresh (hn 53 (by decide)) (by decide : 53 ∉ [51])) (by decide : 53 ∉ [52])) rfl rfl (by decide) (by decide) (by decide) (kw_lr (by decide : 50 ∉ ([53] : List Nat)) kw_lz) (kw_sr9 (by decide : 50 ∉ ([53] : List Nat)) kw_sz) ⟨rfl, rfl⟩ ⟨Nat.le_of_ble_eq_true rfl, Nat.le_of_ble_eq_true rfl⟩ d_Picture_init_26 (fun ad8 σ7 had8 => ?_)
  have h50 := h50.more [53]
  have h51 := h51.more [53]
  have h52 := h52.more [53]
  have hA := kw_ch hA had8
  have h53 : mm_ok (ids ++ [51] ++ [52] ++ [53]) 53 2 0 := ⟨List.mem_append_right _ (List.mem_singleton_self _), rfl, rfl⟩
  refine kw_putOF C rfl (fun _ _ _ h => by have h : some (mmR_10, mmT_10, _) = some _ := h; cases h; rfl) fi_Picture_16 rfl rfl h50 h53 d_Picture_init_28 (fun σ9 => ?_)
  refine kw_aload_n C d_Picture_init_31 rfl ?_
  refine kw_new (o := 54) (cl' := 4) (sl' := 17418) C nj_Picture_19 (kw_fresh (kw_fresh (kw_fresh (hn 54 (by decide)) (by decide : 54 ∉ [51])) (by decide : 54 ∉ [52])) (by decide : 54 ∉ [53])) rfl rfl (kw_lr (by decide : 50 ∉ ([54] : List Nat)) kw_lz) (kw_sr9 (by decide : 50 ∉ ([54] : List Nat)) kw_sz) ⟨rfl, rfl⟩ ⟨Nat.le_of_ble_eq_true rfl, Nat.le_of_ble_eq_true rfl⟩ d_Picture_init_32 (fun ad11 σ10 had11 => ?_)
  have h50 := h50.more [54]
  have h51 := h51.more [54]
  have h52 := h52.more [54]
  have h53 := h53.more [54]
  have hA := kw_ch hA had11
  have h54 : mm_ok (ids ++ [51] ++ [52] ++ [53] ++ [54]) 54 1 11 := ⟨List.mem_append_right _ (List.mem_singleton_self _), rfl, rfl⟩
  refine kw_dup C d_Picture_init_35 rfl ?_
  refine kw_callI (As := []) (cl' := 11) (sl' := 18258) C (c_Layout_init_54 hl n (ids ++ [51] ++ [52] ++ [53] ++ [54]) (fun q9 h9 => kw_fresh (kw_fresh (kw_fresh (kw_fresh (hn q9 ((by decide : ∀ q ∈ ([55, 56, 57, 58, 59, 60, 61] : List Nat), q ∈ [51, 52, 53, 54, 55, 56, 57, 58, 59, 60, 61]) q9 h9)) ((by decide : ∀ q ∈ ([55, 56, 57, 58, 59, 60, 61] : List Nat), q ∉ ([51] : List Nat)) q9 h9)) ((by decide : ∀ q ∈ ([55, 56, 57, 58, 59, 60, 61] : List Nat), q ∉ ([52] : List Nat)) q9 h9)) ((by decide : ∀ q ∈ ([55, 56, 57, 58, 59, 60, 61] : List Nat), q ∉ ([53] : List Nat)) q9 h9)) ((by decide : ∀ q ∈ ([55, 56, 57, 58, 59, 60, 61] : List Nat), q ∉ ([54] : List Nat)) q9 h9)) h54 σ10) li_Picture_21 w_Layout_init in_Layout iv_Layout_init rfl m4_Layout_init ⟨Nat.le_of_ble_eq_true rfl, Nat.le_of_ble_eq_true rfl⟩ (Nat.le_of_ble_eq_true rfl) ⟨Nat.le_of_ble_eq_true rfl, Nat.le_of_ble_eq_true rfl⟩ ⟨rfl, rfl⟩ rfl (kw_lr (by decide : 50 ∉ ([55, 56, 57, 58, 59, 60, 61] : List Nat)) kw_lz) (kw_sr9 (by decide : 54 ∉ ([55, 56, 57, 58, 59, 60, 61] : List Nat)) (kw_sr9 (by decide : 50 ∉ ([55, 56, 57, 58, 59, 60, 61] : List Nat)) kw_sz)) d_Picture_init_36 (fun ad13 σ12 had13 => ?_)
  have h50 := h50.more [55, 56, 57, 58, 59, 60, 61]
  have h51 := h51.more [55, 56, 57, 58, 59, 60, 61]
  have h52 := h52.more [55, 56, 57, 58, 59, 60, 61]
  have h53 := h53.more [55, 56, 57, 58, 59, 60, 61]
  have h54 := h54.more [55, 56, 57, 58, 59, 60, 61]
  have hA := kw_ch hA had13
  refine kw_putOF C rfl (fun _ _ _ h => by have h : some (mmR_10, mmT_10, _) = some _ := h; cases h; rfl) fi_Picture_22 rfl rfl h50 h54 d_Picture_init_39 (fun σ14 => ?_)
  exact kw_vret C Ce rfl (by simp) hA (Nat.le_of_ble_eq_true rfl) (Nat.le_of_ble_eq_true rfl) rfl d_Picture_init_42
def rm_PF_init_1 : Room := { frames := 3, cells := 60, slots := 272620, locals := 72 }
def F_PF_init_1 (n : Nat)  (σ : Mm) : Option Mm :=
kf_let (mm_nw σ 2) fun σ1 =>
Option.bind (F_Tape_init_2 n  σ1) fun σ3 =>
kf_let (pR σ3 (64 * 1 + 0) (some 2)) fun σ5 =>
kf_let (mm_nw σ5 5) fun σ6 =>
Option.bind (F_Fault_init_5 n  σ6) fun σ8 =>
kf_let (pR σ8 (64 * 1 + 1) (some 5)) fun σ10 =>
kf_let (mm_nw σ10 6) fun σ11 =>
Option.bind (F_Rows_init_6 n  σ11) fun σ13 =>
kf_let (pR σ13 (64 * 1 + 4) (some 6)) fun σ15 =>
kf_let (mm_nw σ15 9) fun σ16 =>
Option.bind (gR σ16 (64 * 1 + 0)) fun o18 =>
Option.bind (gR σ16 (64 * 1 + 1)) fun o19 =>
Option.bind (F_PackedBits_init_9 n o18 o19 σ16) fun σ20 =>
kf_let (mm_nw σ20 11) fun σ22 =>
Option.bind (gR σ22 (64 * 1 + 0)) fun o24 =>
Option.bind (gR σ22 (64 * 1 + 1)) fun o25 =>
Option.bind (F_Pieces_init_11 n o24 o25 9 σ22) fun σ26 =>
kf_let (pR σ26 (64 * 1 + 2) (some 11)) fun σ28 =>
kf_let (mm_nw σ28 12) fun σ29 =>
Option.bind (gR σ29 (64 * 1 + 1)) fun o31 =>
Option.bind (gR σ29 (64 * 1 + 4)) fun o32 =>
Option.bind (F_Unpacker_init_12 n 9 o31 o32 σ29) fun σ33 =>
kf_let (pR σ33 (64 * 1 + 3) (some 12)) fun σ35 =>
kf_let (mm_nw σ35 34) fun σ36 =>
Option.bind (gR σ36 (64 * 1 + 0)) fun o38 =>
Option.bind (gR σ36 (64 * 1 + 4)) fun o39 =>
Option.bind (F_Writer_init_34 n o38 o39 σ36) fun σ40 =>
kf_let (pR σ40 (64 * 1 + 5) (some 34)) fun σ42 =>
kf_let (mm_nw σ42 38) fun σ43 =>
Option.bind (F_Picture_init_38 n  σ43) fun σ45 =>
kf_let (pR σ45 (64 * 1 + 6) (some 38)) fun σ47 =>
kf_let (mm_nw σ47 50) fun σ48 =>
Option.bind (F_Picture_init_50 n  σ48) fun σ50 =>
kf_let (pR σ50 (64 * 1 + 7) (some 50)) fun σ52 =>
kf_z 0 <| kf_let (pS σ52 (64 * 1 + 8) 0) fun σ53 =>
some σ53
theorem d_PF_init_0 : decode prog_1_method_1_code 0 = .ok (.aload_n 0, 1) := by decide +kernel
theorem d_PF_init_1 : decode prog_1_method_1_code 1 = .ok (.invokespecial 1, 3) := by decide +kernel
theorem d_PF_init_4 : decode prog_1_method_1_code 4 = .ok (.aload_n 0, 1) := by decide +kernel
theorem d_PF_init_5 : decode prog_1_method_1_code 5 = .ok (.new 7, 3) := by decide +kernel
theorem d_PF_init_8 : decode prog_1_method_1_code 8 = .ok (.dup, 1) := by decide +kernel
theorem d_PF_init_9 : decode prog_1_method_1_code 9 = .ok (.invokespecial 9, 3) := by decide +kernel
theorem d_PF_init_12 : decode prog_1_method_1_code 12 = .ok (.putfield 10, 3) := by decide +kernel
theorem d_PF_init_15 : decode prog_1_method_1_code 15 = .ok (.aload_n 0, 1) := by decide +kernel
theorem d_PF_init_16 : decode prog_1_method_1_code 16 = .ok (.new 16, 3) := by decide +kernel
theorem d_PF_init_19 : decode prog_1_method_1_code 19 = .ok (.dup, 1) := by decide +kernel
theorem d_PF_init_20 : decode prog_1_method_1_code 20 = .ok (.invokespecial 18, 3) := by decide +kernel
theorem d_PF_init_23 : decode prog_1_method_1_code 23 = .ok (.putfield 19, 3) := by decide +kernel
theorem d_PF_init_26 : decode prog_1_method_1_code 26 = .ok (.aload_n 0, 1) := by decide +kernel
theorem d_PF_init_27 : decode prog_1_method_1_code 27 = .ok (.new 23, 3) := by decide +kernel
theorem d_PF_init_30 : decode prog_1_method_1_code 30 = .ok (.dup, 1) := by decide +kernel
theorem d_PF_init_31 : decode prog_1_method_1_code 31 = .ok (.invokespecial 25, 3) := by decide +kernel
theorem d_PF_init_34 : decode prog_1_method_1_code 34 = .ok (.putfield 26, 3) := by decide +kernel
theorem d_PF_init_37 : decode prog_1_method_1_code 37 = .ok (.new 30, 3) := by decide +kernel
theorem d_PF_init_40 : decode prog_1_method_1_code 40 = .ok (.dup, 1) := by decide +kernel
theorem d_PF_init_41 : decode prog_1_method_1_code 41 = .ok (.aload_n 0, 1) := by decide +kernel
theorem d_PF_init_42 : decode prog_1_method_1_code 42 = .ok (.getfield 10, 3) := by decide +kernel
theorem d_PF_init_45 : decode prog_1_method_1_code 45 = .ok (.aload_n 0, 1) := by decide +kernel
theorem d_PF_init_46 : decode prog_1_method_1_code 46 = .ok (.getfield 19, 3) := by decide +kernel
theorem d_PF_init_49 : decode prog_1_method_1_code 49 = .ok (.invokespecial 32, 3) := by decide +kernel
theorem d_PF_init_52 : decode prog_1_method_1_code 52 = .ok (.astore_n 1, 1) := by decide +kernel
theorem d_PF_init_53 : decode prog_1_method_1_code 53 = .ok (.aload_n 0, 1) := by decide +kernel
theorem d_PF_init_54 : decode prog_1_method_1_code 54 = .ok (.new 35, 3) := by decide +kernel
theorem d_PF_init_57 : decode prog_1_method_1_code 57 = .ok (.dup, 1) := by decide +kernel
theorem d_PF_init_58 : decode prog_1_method_1_code 58 = .ok (.aload_n 0, 1) := by decide +kernel
theorem d_PF_init_59 : decode prog_1_method_1_code 59 = .ok (.getfield 10, 3) := by decide +kernel
theorem d_PF_init_62 : decode prog_1_method_1_code 62 = .ok (.aload_n 0, 1) := by decide +kernel
theorem d_PF_init_63 : decode prog_1_method_1_code 63 = .ok (.getfield 19, 3) := by decide +kernel
theorem d_PF_init_66 : decode prog_1_method_1_code 66 = .ok (.aload_n 1, 1) := by decide +kernel
theorem d_PF_init_67 : decode prog_1_method_1_code 67 = .ok (.invokespecial 37, 3) := by decide +kernel
theorem d_PF_init_70 : decode prog_1_method_1_code 70 = .ok (.putfield 40, 3) := by decide +kernel
theorem d_PF_init_73 : decode prog_1_method_1_code 73 = .ok (.aload_n 0, 1) := by decide +kernel
theorem d_PF_init_74 : decode prog_1_method_1_code 74 = .ok (.new 44, 3) := by decide +kernel
theorem d_PF_init_77 : decode prog_1_method_1_code 77 = .ok (.dup, 1) := by decide +kernel
theorem d_PF_init_78 : decode prog_1_method_1_code 78 = .ok (.aload_n 1, 1) := by decide +kernel
theorem d_PF_init_79 : decode prog_1_method_1_code 79 = .ok (.aload_n 0, 1) := by decide +kernel
theorem d_PF_init_80 : decode prog_1_method_1_code 80 = .ok (.getfield 19, 3) := by decide +kernel
theorem d_PF_init_83 : decode prog_1_method_1_code 83 = .ok (.aload_n 0, 1) := by decide +kernel
theorem d_PF_init_84 : decode prog_1_method_1_code 84 = .ok (.getfield 26, 3) := by decide +kernel
theorem d_PF_init_87 : decode prog_1_method_1_code 87 = .ok (.invokespecial 46, 3) := by decide +kernel
theorem d_PF_init_90 : decode prog_1_method_1_code 90 = .ok (.putfield 49, 3) := by decide +kernel
theorem d_PF_init_93 : decode prog_1_method_1_code 93 = .ok (.aload_n 0, 1) := by decide +kernel
theorem d_PF_init_94 : decode prog_1_method_1_code 94 = .ok (.new 53, 3) := by decide +kernel
theorem d_PF_init_97 : decode prog_1_method_1_code 97 = .ok (.dup, 1) := by decide +kernel
theorem d_PF_init_98 : decode prog_1_method_1_code 98 = .ok (.aload_n 0, 1) := by decide +kernel
theorem d_PF_init_99 : decode prog_1_method_1_code 99 = .ok (.getfield 10, 3) := by decide +kernel
theorem d_PF_init_102 : decode prog_1_method_1_code 102 = .ok (.aload_n 0, 1) := by decide +kernel
theorem d_PF_init_103 : decode prog_1_method_1_code 103 = .ok (.getfield 26, 3) := by decide +kernel
theorem d_PF_init_106 : decode prog_1_method_1_code 106 = .ok (.invokespecial 55, 3) := by decide +kernel
theorem d_PF_init_109 : decode prog_1_method_1_code 109 = .ok (.putfield 58, 3) := by decide +kernel
theorem d_PF_init_112 : decode prog_1_method_1_code 112 = .ok (.aload_n 0, 1) := by decide +kernel
theorem d_PF_init_113 : decode prog_1_method_1_code 113 = .ok (.new 62, 3) := by decide +kernel
theorem d_PF_init_116 : decode prog_1_method_1_code 116 = .ok (.dup, 1) := by decide +kernel
theorem d_PF_init_117 : decode prog_1_method_1_code 117 = .ok (.invokespecial 64, 3) := by decide +kernel
theorem d_PF_init_120 : decode prog_1_method_1_code 120 = .ok (.putfield 65, 3) := by decide +kernel
theorem d_PF_init_123 : decode prog_1_method_1_code 123 = .ok (.aload_n 0, 1) := by decide +kernel
theorem d_PF_init_124 : decode prog_1_method_1_code 124 = .ok (.new 62, 3) := by decide +kernel
theorem d_PF_init_127 : decode prog_1_method_1_code 127 = .ok (.dup, 1) := by decide +kernel
theorem d_PF_init_128 : decode prog_1_method_1_code 128 = .ok (.invokespecial 64, 3) := by decide +kernel
theorem d_PF_init_131 : decode prog_1_method_1_code 131 = .ok (.putfield 69, 3) := by decide +kernel
theorem d_PF_init_134 : decode prog_1_method_1_code 134 = .ok (.aload_n 0, 1) := by decide +kernel
theorem d_PF_init_135 : decode prog_1_method_1_code 135 = .ok (.iconst 0, 1) := by decide +kernel
theorem d_PF_init_136 : decode prog_1_method_1_code 136 = .ok (.putfield 72, 3) := by decide +kernel
theorem d_PF_init_139 : decode prog_1_method_1_code 139 = .ok (.return_, 1) := by decide +kernel
set_option maxRecDepth 100000 in
set_option maxHeartbeats 4000000 in
theorem c_PF_init_1 {l0 : Launch} (hl : l0.stackTraces = false) (n : Nat) (ids : List Nat) (hn : ∀ q ∈ ([2, 3, 4, 5, 6, 7, 8, 9, 10, 11, 12, 13, 14, 15, 16, 17, 18, 19, 20, 21, 22, 23, 24, 25, 26, 27, 28, 29, 30, 31, 32, 33, 34, 35, 36, 37, 38, 39, 40, 41, 42, 43, 44, 45, 46, 47, 48, 49, 50, 51, 52, 53, 54, 55, 56, 57, 58, 59, 60, 61] : List Nat), q ∉ ids) (h1 : mm_ok ids 1 1 0) (σ : Mm) : kw_C l0 y_PF_init (Cond.code y_PF_init prog_1_method_1_code 2 none :: kw_Ts) rm_PF_init_1 kw_ov ids [2, 3, 4, 5, 6, 7, 8, 9, 10, 11, 12, 13, 14, 15, 16, 17, 18, 19, 20, 21, 22, 23, 24, 25, 26, 27, 28, 29, 30, 31, 32, 33, 34, 35, 36, 37, 38, 39, 40, 41, 42, 43, 44, 45, 46, 47, 48, 49, 50, 51, 52, 53, 54, 55, 56, 57, 58, 59, 60, 61] [.ref 1] σ (F_PF_init_1 n  σ) := by
  refine kw_start (L0 := [some (.ref 1), none]) hl (by decide +kernel) (Nat.le_of_ble_eq_true rfl) rfl (fun Γ ad C Ce => ?_)
  unfold F_PF_init_1
  have hA : ∀ q, q ∉ ([] : List Nat) → ad q = ad q := fun _ _ => rfl
  refine kw_aload_n C d_PF_init_0 rfl ?_
  refine kw_objI C ob_PF_1 ob_i ob_c (Nat.le_of_ble_eq_true rfl) (Nat.le_of_ble_eq_true rfl) d_PF_init_1 ?_
  refine kw_aload_n C d_PF_init_4 rfl ?_
  refine kw_new (o := 2) (cl' := 1) (sl' := 3) C nj_PF_7 (hn 2 (by decide)) rfl rfl (kw_lr (by decide : 1 ∉ ([2] : List Nat)) (kw_ln kw_lz)) (kw_sr9 (by decide : 1 ∉ ([2] : List Nat)) kw_sz) ⟨rfl, rfl⟩ ⟨Nat.le_of_ble_eq_true rfl, Nat.le_of_ble_eq_true rfl⟩ d_PF_init_5 (fun ad2 σ1 had2 => ?_)
  have h1 := h1.more [2]
  have hA := kw_ch hA had2
  have h2 : mm_ok (ids ++ [2]) 2 1 1 := ⟨List.mem_append_right _ (List.mem_singleton_self _), rfl, rfl⟩
  refine kw_dup C d_PF_init_8 rfl ?_
  refine kw_callI (As := []) (cl' := 3) (sl' := 65795) C (c_Tape_init_2 hl n (ids ++ [2]) (fun q9 h9 => kw_fresh (hn q9 ((by decide : ∀ q ∈ ([3, 4] : List Nat), q ∈ [2, 3, 4, 5, 6, 7, 8, 9, 10, 11, 12, 13, 14, 15, 16, 17, 18, 19, 20, 21, 22, 23, 24, 25, 26, 27, 28, 29, 30, 31, 32, 33, 34, 35, 36, 37, 38, 39, 40, 41, 42, 43, 44, 45, 46, 47, 48, 49, 50, 51, 52, 53, 54, 55, 56, 57, 58, 59, 60, 61]) q9 h9)) ((by decide : ∀ q ∈ ([3, 4] : List Nat), q ∉ ([2] : List Nat)) q9 h9)) h2 σ1) li_PF_9 w_Tape_init in_Tape iv_Tape_init rfl m4_Tape_init ⟨Nat.le_of_ble_eq_true rfl, Nat.le_of_ble_eq_true rfl⟩ (Nat.le_of_ble_eq_true rfl) ⟨Nat.le_of_ble_eq_true rfl, Nat.le_of_ble_eq_true rfl⟩ ⟨rfl, rfl⟩ rfl (kw_lr (by decide : 1 ∉ ([3, 4] : List Nat)) (kw_ln kw_lz)) (kw_sr9 (by decide : 2 ∉ ([3, 4] : List Nat)) (kw_sr9 (by decide : 1 ∉ ([3, 4] : List Nat)) kw_sz)) d_PF_init_9 (fun ad4 σ3 had4 => ?_)
  have h1 := h1.more [3, 4]
  have h2 := h2.more [3, 4]
  have hA := kw_ch hA had4
  refine kw_putOF C rfl (fun _ _ _ h => by have h : some (mmR_0, mmT_0, _) = some _ := h; cases h; rfl) fi_PF_10 rfl rfl h1 h2 d_PF_init_12 (fun σ5 => ?_)
  refine kw_aload_n C d_PF_init_15 rfl ?_
  refine kw_new (o := 5) (cl' := 4) (sl' := 65797) C nj_PF_16 (kw_fresh (kw_fresh (hn 5 (by decide)) (by decide : 5 ∉ [2])) (by decide : 5 ∉ [3, 4])) rfl rfl (kw_lr (by decide : 1 ∉ ([5] : List Nat)) (kw_ln kw_lz)) (kw_sr9 (by decide : 1 ∉ ([5] : List Nat)) kw_sz) ⟨rfl, rfl⟩ ⟨Nat.le_of_ble_eq_true rfl, Nat.le_of_ble_eq_true rfl⟩ d_PF_init_16 (fun ad7 σ6 had7 => ?_)
  have h1 := h1.more [5]
  have h2 := h2.more [5]
  have hA := kw_ch hA had7
  have h5 : mm_ok (ids ++ [2] ++ [3, 4] ++ [5]) 5 1 2 := ⟨List.mem_append_right _ (List.mem_singleton_self _), rfl, rfl⟩
  refine kw_dup C d_PF_init_19 rfl ?_
  refine kw_callI (As := []) (cl' := 4) (sl' := 65797) C (c_Fault_init_5 hl n (ids ++ [2] ++ [3, 4] ++ [5]) (fun q9 h9 => kw_fresh (kw_fresh (kw_fresh (hn q9 ((by decide : ∀ q ∈ ([] : List Nat), q ∈ [2, 3, 4, 5, 6, 7, 8, 9, 10, 11, 12, 13, 14, 15, 16, 17, 18, 19, 20, 21, 22, 23, 24, 25, 26, 27, 28, 29, 30, 31, 32, 33, 34, 35, 36, 37, 38, 39, 40, 41, 42, 43, 44, 45, 46, 47, 48, 49, 50, 51, 52, 53, 54, 55, 56, 57, 58, 59, 60, 61]) q9 h9)) ((by decide : ∀ q ∈ ([] : List Nat), q ∉ ([2] : List Nat)) q9 h9)) ((by decide : ∀ q ∈ ([] : List Nat), q ∉ ([3, 4] : List Nat)) q9 h9)) ((by decide : ∀ q ∈ ([] : List Nat), q ∉ ([5] : List Nat)) q9 h9)) h5 σ6) li_PF_18 w_Fault_init in_Fault iv_Fault_init rfl m4_Fault_init ⟨Nat.le_of_ble_eq_true rfl, Nat.le_of_ble_eq_true rfl⟩ (Nat.le_of_ble_eq_true rfl) ⟨Nat.le_of_ble_eq_true rfl, Nat.le_of_ble_eq_true rfl⟩ ⟨rfl, rfl⟩ rfl (kw_lr (by decide : 1 ∉ ([] : List Nat)) (kw_ln kw_lz)) (kw_sr9 (by decide : 5 ∉ ([] : List Nat)) (kw_sr9 (by decide : 1 ∉ ([] : List Nat)) kw_sz)) d_PF_init_20 (fun ad9 σ8 had9 => ?_)
  have h1 := h1.more []
  have h2 := h2.more []
  have h5 := h5.more []
  have hA := kw_ch hA had9
  refine kw_putOF C rfl (fun _ _ _ h => by have h : some (mmR_0, mmT_0, _) = some _ := h; cases h; rfl) fi_PF_19 rfl rfl h1 h5 d_PF_init_23 (fun σ10 => ?_)
  refine kw_aload_n C d_PF_init_26 rfl ?_
  refine kw_new (o := 6) (cl' := 5) (sl' := 65799) C nj_PF_23 (kw_fresh (kw_fresh (kw_fresh (kw_fresh (hn 6 (by decide)) (by decide : 6 ∉ [2])) (by decide : 6 ∉ [3, 4])) (by decide : 6 ∉ [5])) (by decide : 6 ∉ [])) rfl rfl (kw_lr (by decide : 1 ∉ ([6] : List Nat)) (kw_ln kw_lz)) (kw_sr9 (by decide : 1 ∉ ([6] : List Nat)) kw_sz) ⟨rfl, rfl⟩ ⟨Nat.le_of_ble_eq_true rfl, Nat.le_of_ble_eq_true rfl⟩ d_PF_init_27 (fun ad12 σ11 had12 => ?_)
  have h1 := h1.more [6]
  have h2 := h2.more [6]
  have h5 := h5.more [6]
  have hA := kw_ch hA had12
  have h6 : mm_ok (ids ++ [2] ++ [3, 4] ++ [5] ++ [] ++ [6]) 6 1 3 := ⟨List.mem_append_right _ (List.mem_singleton_self _), rfl, rfl⟩
  refine kw_dup C d_PF_init_30 rfl ?_
  refine kw_callI (As := []) (cl' := 7) (sl' := 131575) C (c_Rows_init_6 hl n (ids ++ [2] ++ [3, 4] ++ [5] ++ [] ++ [6]) (fun q9 h9 => kw_fresh (kw_fresh (kw_fresh (kw_fresh (kw_fresh (hn q9 ((by decide : ∀ q ∈ ([7, 8] : List Nat), q ∈ [2, 3, 4, 5, 6, 7, 8, 9, 10, 11, 12, 13, 14, 15, 16, 17, 18, 19, 20, 21, 22, 23, 24, 25, 26, 27, 28, 29, 30, 31, 32, 33, 34, 35, 36, 37, 38, 39, 40, 41, 42, 43, 44, 45, 46, 47, 48, 49, 50, 51, 52, 53, 54, 55, 56, 57, 58, 59, 60, 61]) q9 h9)) ((by decide : ∀ q ∈ ([7, 8] : List Nat), q ∉ ([2] : List Nat)) q9 h9)) ((by decide : ∀ q ∈ ([7, 8] : List Nat), q ∉ ([3, 4] : List Nat)) q9 h9)) ((by decide : ∀ q ∈ ([7, 8] : List Nat), q ∉ ([5] : List Nat)) q9 h9)) ((by decide : ∀ q ∈ ([7, 8] : List Nat), q ∉ ([] : List Nat)) q9 h9)) ((by decide : ∀ q ∈ ([7, 8] : List Nat), q ∉ ([6] : List Nat)) q9 h9)) h6 σ11) li_PF_25 w_Rows_init in_Rows iv_Rows_init rfl m4_Rows_init ⟨Nat.le_of_ble_eq_true rfl, Nat.le_of_ble_eq_true rfl⟩ (Nat.le_of_ble_eq_true rfl) ⟨Nat.le_of_ble_eq_true rfl, Nat.le_of_ble_eq_true rfl⟩ ⟨rfl, rfl⟩ rfl (kw_lr (by decide : 1 ∉ ([7, 8] : List Nat)) (kw_ln kw_lz)) (kw_sr9 (by decide : 6 ∉ ([7, 8] : List Nat)) (kw_sr9 (by decide : 1 ∉ ([7, 8] : List Nat)) kw_sz)) d_PF_init_31 (fun ad14 σ13 had14 => ?_)
  have h1 := h1.more [7, 8]
  have h2 := h2.more [7, 8]
  have h5 := h5.more [7, 8]
  have h6 := h6.more [7, 8]
  have hA := kw_ch hA had14
  refine kw_putOF C rfl (fun _ _ _ h => by have h : some (mmR_0, mmT_0, _) = some _ := h; cases h; rfl) fi_PF_26 rfl rfl h1 h6 d_PF_init_34 (fun σ15 => ?_)
  refine kw_new (o := 9) (cl' := 8) (sl' := 131581) C nj_PF_30 (kw_fresh (kw_fresh (kw_fresh (kw_fresh (kw_fresh (kw_fresh (hn 9 (by decide)) (by decide : 9 ∉ [2])) (by decide : 9 ∉ [3, 4])) (by decide : 9 ∉ [5])) (by decide : 9 ∉ [])) (by decide : 9 ∉ [6])) (by decide : 9 ∉ [7, 8])) rfl rfl (kw_lr (by decide : 1 ∉ ([9] : List Nat)) (kw_ln kw_lz)) kw_sz ⟨rfl, rfl⟩ ⟨Nat.le_of_ble_eq_true rfl, Nat.le_of_ble_eq_true rfl⟩ d_PF_init_37 (fun ad17 σ16 had17 => ?_)
  have h1 := h1.more [9]
  have h2 := h2.more [9]
  have h5 := h5.more [9]
  have h6 := h6.more [9]
  have hA := kw_ch hA had17
  have h9 : mm_ok (ids ++ [2] ++ [3, 4] ++ [5] ++ [] ++ [6] ++ [7, 8] ++ [9]) 9 1 4 := ⟨List.mem_append_right _ (List.mem_singleton_self _), rfl, rfl⟩
  refine kw_dup C d_PF_init_40 rfl ?_
  refine kw_aload_n C d_PF_init_41 rfl ?_
  refine kw_getR C fi_PF_10 rfl rfl h1 d_PF_init_42 (fun o18 ho18 => ?_)
  refine kw_aload_n C d_PF_init_45 rfl ?_
  refine kw_getR C fi_PF_19 rfl rfl h1 d_PF_init_46 (fun o19 ho19 => ?_)
  refine kw_callI (As := [.ref o18, .ref o19]) (cl' := 9) (sl' := 197117) C (c_PackedBits_init_9 hl n (ids ++ [2] ++ [3, 4] ++ [5] ++ [] ++ [6] ++ [7, 8] ++ [9]) (fun q9 h9 => kw_fresh (kw_fresh (kw_fresh (kw_fresh (kw_fresh (kw_fresh (kw_fresh (hn q9 ((by decide : ∀ q ∈ ([10] : List Nat), q ∈ [2, 3, 4, 5, 6, 7, 8, 9, 10, 11, 12, 13, 14, 15, 16, 17, 18, 19, 20, 21, 22, 23, 24, 25, 26, 27, 28, 29, 30, 31, 32, 33, 34, 35, 36, 37, 38, 39, 40, 41, 42, 43, 44, 45, 46, 47, 48, 49, 50, 51, 52, 53, 54, 55, 56, 57, 58, 59, 60, 61]) q9 h9)) ((by decide : ∀ q ∈ ([10] : List Nat), q ∉ ([2] : List Nat)) q9 h9)) ((by decide : ∀ q ∈ ([10] : List Nat), q ∉ ([3, 4] : List Nat)) q9 h9)) ((by decide : ∀ q ∈ ([10] : List Nat), q ∉ ([5] : List Nat)) q9 h9)) ((by decide : ∀ q ∈ ([10] : List Nat), q ∉ ([] : List Nat)) q9 h9)) ((by decide : ∀ q ∈ ([10] : List Nat), q ∉ ([6] : List Nat)) q9 h9)) ((by decide : ∀ q ∈ ([10] : List Nat), q ∉ ([7, 8] : List Nat)) q9 h9)) ((by decide : ∀ q ∈ ([10] : List Nat), q ∉ ([9] : List Nat)) q9 h9)) h9 ho18 ho19 σ16) li_PF_32 w_PackedBits_init in_PackedBits iv_PackedBits_init rfl m4_PackedBits_init ⟨Nat.le_of_ble_eq_true rfl, Nat.le_of_ble_eq_true rfl⟩ (Nat.le_of_ble_eq_true rfl) ⟨Nat.le_of_ble_eq_true rfl, Nat.le_of_ble_eq_true rfl⟩ ⟨rfl, rfl⟩ rfl (kw_lr (by decide : 1 ∉ ([10] : List Nat)) (kw_ln kw_lz)) (kw_sr9 (by decide : 9 ∉ ([10] : List Nat)) kw_sz) d_PF_init_49 (fun ad21 σ20 had21 => ?_)
  have h1 := h1.more [10]
  have h2 := h2.more [10]
  have h5 := h5.more [10]
  have h6 := h6.more [10]
  have h9 := h9.more [10]
  have hA := kw_ch hA had21
  refine kw_astore_n (L' := [some (.ref 1), some (.ref 9)]) C d_PF_init_52 (by decide) rfl ?_
  refine kw_aload_n C d_PF_init_53 rfl ?_
  refine kw_new (o := 11) (cl' := 10) (sl' := 197125) C nj_PF_35 (kw_fresh (kw_fresh (kw_fresh (kw_fresh (kw_fresh (kw_fresh (kw_fresh (kw_fresh (hn 11 (by decide)) (by decide : 11 ∉ [2])) (by decide : 11 ∉ [3, 4])) (by decide : 11 ∉ [5])) (by decide : 11 ∉ [])) (by decide : 11 ∉ [6])) (by decide : 11 ∉ [7, 8])) (by decide : 11 ∉ [9])) (by decide : 11 ∉ [10])) rfl rfl (kw_lr (by decide : 1 ∉ ([11] : List Nat)) (kw_lr (by decide : 9 ∉ ([11] : List Nat)) kw_lz)) (kw_sr9 (by decide : 1 ∉ ([11] : List Nat)) kw_sz) ⟨rfl, rfl⟩ ⟨Nat.le_of_ble_eq_true rfl, Nat.le_of_ble_eq_true rfl⟩ d_PF_init_54 (fun ad23 σ22 had23 => ?_)
  have h1 := h1.more [11]
  have h2 := h2.more [11]
  have h5 := h5.more [11]
  have h6 := h6.more [11]
  have h9 := h9.more [11]
  have hA := kw_ch hA had23
  have h11 : mm_ok (ids ++ [2] ++ [3, 4] ++ [5] ++ [] ++ [6] ++ [7, 8] ++ [9] ++ [10] ++ [11]) 11 1 5 := ⟨List.mem_append_right _ (List.mem_singleton_self _), rfl, rfl⟩
  refine kw_dup C d_PF_init_57 rfl ?_
  refine kw_aload_n C d_PF_init_58 rfl ?_
  refine kw_getR C fi_PF_10 rfl rfl h1 d_PF_init_59 (fun o24 ho24 => ?_)
  refine kw_aload_n C d_PF_init_62 rfl ?_
  refine kw_getR C fi_PF_19 rfl rfl h1 d_PF_init_63 (fun o25 ho25 => ?_)
  refine kw_aload_n C d_PF_init_66 rfl ?_
  refine kw_callI (As := [.ref o24, .ref o25, .ref 9]) (cl' := 10) (sl' := 197125) C (c_Pieces_init_11 hl n (ids ++ [2] ++ [3, 4] ++ [5] ++ [] ++ [6] ++ [7, 8] ++ [9] ++ [10] ++ [11]) (fun q9 h9 => kw_fresh (kw_fresh (kw_fresh (kw_fresh (kw_fresh (kw_fresh (kw_fresh (kw_fresh (kw_fresh (hn q9 ((by decide : ∀ q ∈ ([] : List Nat), q ∈ [2, 3, 4, 5, 6, 7, 8, 9, 10, 11, 12, 13, 14, 15, 16, 17, 18, 19, 20, 21, 22, 23, 24, 25, 26, 27, 28, 29, 30, 31, 32, 33, 34, 35, 36, 37, 38, 39, 40, 41, 42, 43, 44, 45, 46, 47, 48, 49, 50, 51, 52, 53, 54, 55, 56, 57, 58, 59, 60, 61]) q9 h9)) ((by decide : ∀ q ∈ ([] : List Nat), q ∉ ([2] : List Nat)) q9 h9)) ((by decide : ∀ q ∈ ([] : List Nat), q ∉ ([3, 4] : List Nat)) q9 h9)) ((by decide : ∀ q ∈ ([] : List Nat), q ∉ ([5] : List Nat)) q9 h9)) ((by decide : ∀ q ∈ ([] : List Nat), q ∉ ([] : List Nat)) q9 h9)) ((by decide : ∀ q ∈ ([] : List Nat), q ∉ ([6] : List Nat)) q9 h9)) ((by decide : ∀ q ∈ ([] : List Nat), q ∉ ([7, 8] : List Nat)) q9 h9)) ((by decide : ∀ q ∈ ([] : List Nat), q ∉ ([9] : List Nat)) q9 h9)) ((by decide : ∀ q ∈ ([] : List Nat), q ∉ ([10] : List Nat)) q9 h9)) ((by decide : ∀ q ∈ ([] : List Nat), q ∉ ([11] : List Nat)) q9 h9)) h11 ho24 ho25 h9 σ22) li_PF_37 w_Pieces_init in_Pieces iv_Pieces_init rfl m4_Pieces_init ⟨Nat.le_of_ble_eq_true rfl, Nat.le_of_ble_eq_true rfl⟩ (Nat.le_of_ble_eq_true rfl) ⟨Nat.le_of_ble_eq_true rfl, Nat.le_of_ble_eq_true rfl⟩ ⟨rfl, rfl⟩ rfl (kw_lr (by decide : 1 ∉ ([] : List Nat)) (kw_lr (by decide : 9 ∉ ([] : List Nat)) kw_lz)) (kw_sr9 (by decide : 11 ∉ ([] : List Nat)) (kw_sr9 (by decide : 1 ∉ ([] : List Nat)) kw_sz)) d_PF_init_67 (fun ad27 σ26 had27 => ?_)
  have h1 := h1.more []
  have h2 := h2.more []
  have h5 := h5.more []
  have h6 := h6.more []
  have h9 := h9.more []
  have h11 := h11.more []
  have hA := kw_ch hA had27
  refine kw_putOF C rfl (fun _ _ _ h => by have h : some (mmR_0, mmT_0, _) = some _ := h; cases h; rfl) fi_PF_40 rfl rfl h1 h11 d_PF_init_70 (fun σ28 => ?_)
  refine kw_aload_n C d_PF_init_73 rfl ?_
  refine kw_new (o := 12) (cl' := 11) (sl' := 197138) C nj_PF_44 (kw_fresh (kw_fresh (kw_fresh (kw_fresh (kw_fresh (kw_fresh (kw_fresh (kw_fresh (kw_fresh (kw_fresh (hn 12 (by decide)) (by decide : 12 ∉ [2])) (by decide : 12 ∉ [3, 4])) (by decide : 12 ∉ [5])) (by decide : 12 ∉ [])) (by decide : 12 ∉ [6])) (by decide : 12 ∉ [7, 8])) (by decide : 12 ∉ [9])) (by decide : 12 ∉ [10])) (by decide : 12 ∉ [11])) (by decide : 12 ∉ [])) rfl rfl (kw_lr (by decide : 1 ∉ ([12] : List Nat)) (kw_lr (by decide : 9 ∉ ([12] : List Nat)) kw_lz)) (kw_sr9 (by decide : 1 ∉ ([12] : List Nat)) kw_sz) ⟨rfl, rfl⟩ ⟨Nat.le_of_ble_eq_true rfl, Nat.le_of_ble_eq_true rfl⟩ d_PF_init_74 (fun ad30 σ29 had30 => ?_)
  have h1 := h1.more [12]
  have h2 := h2.more [12]
  have h5 := h5.more [12]
  have h6 := h6.more [12]
  have h9 := h9.more [12]
  have h11 := h11.more [12]
  have hA := kw_ch hA had30
  have h12 : mm_ok (ids ++ [2] ++ [3, 4] ++ [5] ++ [] ++ [6] ++ [7, 8] ++ [9] ++ [10] ++ [11] ++ [] ++ [12]) 12 1 6 := ⟨List.mem_append_right _ (List.mem_singleton_self _), rfl, rfl⟩
  refine kw_dup C d_PF_init_77 rfl ?_
  refine kw_aload_n C d_PF_init_78 rfl ?_
  refine kw_aload_n C d_PF_init_79 rfl ?_
  refine kw_getR C fi_PF_19 rfl rfl h1 d_PF_init_80 (fun o31 ho31 => ?_)
  refine kw_aload_n C d_PF_init_83 rfl ?_
  refine kw_getR C fi_PF_26 rfl rfl h1 d_PF_init_84 (fun o32 ho32 => ?_)
  refine kw_callI (As := [.ref 9, .ref o31, .ref o32]) (cl' := 32) (sl' := 199083) C (c_Unpacker_init_12 hl n (ids ++ [2] ++ [3, 4] ++ [5] ++ [] ++ [6] ++ [7, 8] ++ [9] ++ [10] ++ [11] ++ [] ++ [12]) (fun q9 h9 => kw_fresh (kw_fresh (kw_fresh (kw_fresh (kw_fresh (kw_fresh (kw_fresh (kw_fresh (kw_fresh (kw_fresh (kw_fresh (hn q9 ((by decide : ∀ q ∈ ([13, 14, 15, 16, 17, 18, 19, 20, 21, 22, 23, 24, 25, 26, 27, 28, 29, 30, 31, 32, 33] : List Nat), q ∈ [2, 3, 4, 5, 6, 7, 8, 9, 10, 11, 12, 13, 14, 15, 16, 17, 18, 19, 20, 21, 22, 23, 24, 25, 26, 27, 28, 29, 30, 31, 32, 33, 34, 35, 36, 37, 38, 39, 40, 41, 42, 43, 44, 45, 46, 47, 48, 49, 50, 51, 52, 53, 54, 55, 56, 57, 58, 59, 60, 61]) q9 h9)) ((by decide : ∀ q ∈ ([13, 14, 15, 16, 17, 18, 19, 20, 21, 22, 23, 24, 25, 26, 27, 28, 29, 30, 31, 32, 33] : List Nat), q ∉ ([2] : List Nat)) q9 h9)) ((by decide : ∀ q ∈ ([13, 14, 15, 16, 17, 18, 19, 20, 21, 22, 23, 24, 25, 26, 27, 28, 29, 30, 31, 32, 33] : List Nat), q ∉ ([3, 4] : List Nat)) q9 h9)) ((by decide : ∀ q ∈ ([13, 14, 15, 16, 17, 18, 19, 20, 21, 22, 23, 24, 25, 26, 27, 28, 29, 30, 31, 32, 33] : List Nat), q ∉ ([5] : List Nat)) q9 h9)) ((by decide : ∀ q ∈ ([13, 14, 15, 16, 17, 18, 19, 20, 21, 22, 23, 24, 25, 26, 27, 28, 29, 30, 31, 32, 33] : List Nat), q ∉ ([] : List Nat)) q9 h9)) ((by decide : ∀ q ∈ ([13, 14, 15, 16, 17, 18, 19, 20, 21, 22, 23, 24, 25, 26, 27, 28, 29, 30, 31, 32, 33] : List Nat), q ∉ ([6] : List Nat)) q9 h9)) ((by decide : ∀ q ∈ ([13, 14, 15, 16, 17, 18, 19, 20, 21, 22, 23, 24, 25, 26, 27, 28, 29, 30, 31, 32, 33] : List Nat), q ∉ ([7, 8] : List Nat)) q9 h9)) ((by decide : ∀ q ∈ ([13, 14, 15, 16, 17, 18, 19, 20, 21, 22, 23, 24, 25, 26, 27, 28, 29, 30, 31, 32, 33] : List Nat), q ∉ ([9] : List Nat)) q9 h9)) ((by decide : ∀ q ∈ ([13, 14, 15, 16, 17, 18, 19, 20, 21, 22, 23, 24, 25, 26, 27, 28, 29, 30, 31, 32, 33] : List Nat), q ∉ ([10] : List Nat)) q9 h9)) ((by decide : ∀ q ∈ ([13, 14, 15, 16, 17, 18, 19, 20, 21, 22, 23, 24, 25, 26, 27, 28, 29, 30, 31, 32, 33] : List Nat), q ∉ ([11] : List Nat)) q9 h9)) ((by decide : ∀ q ∈ ([13, 14, 15, 16, 17, 18, 19, 20, 21, 22, 23, 24, 25, 26, 27, 28, 29, 30, 31, 32, 33] : List Nat), q ∉ ([] : List Nat)) q9 h9)) ((by decide : ∀ q ∈ ([13, 14, 15, 16, 17, 18, 19, 20, 21, 22, 23, 24, 25, 26, 27, 28, 29, 30, 31, 32, 33] : List Nat), q ∉ ([12] : List Nat)) q9 h9)) h12 h9 ho31 ho32 σ29) li_PF_46 w_Unpacker_init in_Unpacker iv_Unpacker_init rfl m4_Unpacker_init ⟨Nat.le_of_ble_eq_true rfl, Nat.le_of_ble_eq_true rfl⟩ (Nat.le_of_ble_eq_true rfl) ⟨Nat.le_of_ble_eq_true rfl, Nat.le_of_ble_eq_true rfl⟩ ⟨rfl, rfl⟩ rfl (kw_lr (by decide : 1 ∉ ([13, 14, 15, 16, 17, 18, 19, 20, 21, 22, 23, 24, 25, 26, 27, 28, 29, 30, 31, 32, 33] : List Nat)) (kw_lr (by decide : 9 ∉ ([13, 14, 15, 16, 17, 18, 19, 20, 21, 22, 23, 24, 25, 26, 27, 28, 29, 30, 31, 32, 33] : List Nat)) kw_lz)) (kw_sr9 (by decide : 12 ∉ ([13, 14, 15, 16, 17, 18, 19, 20, 21, 22, 23, 24, 25, 26, 27, 28, 29, 30, 31, 32, 33] : List Nat)) (kw_sr9 (by decide : 1 ∉ ([13, 14, 15, 16, 17, 18, 19, 20, 21, 22, 23, 24, 25, 26, 27, 28, 29, 30, 31, 32, 33] : List Nat)) kw_sz)) d_PF_init_87 (fun ad34 σ33 had34 => ?_)
  have h1 := h1.more [13, 14, 15, 16, 17, 18, 19, 20, 21, 22, 23, 24, 25, 26, 27, 28, 29, 30, 31, 32, 33]
  have h2 := h2.more [13, 14, 15, 16, 17, 18, 19, 20, 21, 22, 23, 24, 25, 26, 27, 28, 29, 30, 31, 32, 33]
  have h5 := h5.more [13, 14, 15, 16, 17, 18, 19, 20, 21, 22, 23, 24, 25, 26, 27, 28, 29, 30, 31, 32, 33]
  have h6 := h6.more [13, 14, 15, 16, 17, 18, 19, 20, 21, 22, 23, 24, 25, 26, 27, 28, 29, 30, 31, 32, 33]
  have h9 := h9.more [13, 14, 15, 16, 17, 18, 19, 20, 21, 22, 23, 24, 25, 26, 27, 28, 29, 30, 31, 32, 33]
  have h11 := h11.more [13, 14, 15, 16, 17, 18, 19, 20, 21, 22, 23, 24, 25, 26, 27, 28, 29, 30, 31, 32, 33]
  have h12 := h12.more [13, 14, 15, 16, 17, 18, 19, 20, 21, 22, 23, 24, 25, 26, 27, 28, 29, 30, 31, 32, 33]
  have hA := kw_ch hA had34
  refine kw_putOF C rfl (fun _ _ _ h => by have h : some (mmR_0, mmT_0, _) = some _ := h; cases h; rfl) fi_PF_49 rfl rfl h1 h12 d_PF_init_90 (fun σ35 => ?_)
  refine kw_aload_n C d_PF_init_93 rfl ?_
  refine kw_new (o := 34) (cl' := 33) (sl' := 199087) C nj_PF_53 (kw_fresh (kw_fresh (kw_fresh (kw_fresh (kw_fresh (kw_fresh (kw_fresh (kw_fresh (kw_fresh (kw_fresh (kw_fresh (kw_fresh (hn 34 (by decide)) (by decide : 34 ∉ [2])) (by decide : 34 ∉ [3, 4])) (by decide : 34 ∉ [5])) (by decide : 34 ∉ [])) (by decide : 34 ∉ [6])) (by decide : 34 ∉ [7, 8])) (by decide : 34 ∉ [9])) (by decide : 34 ∉ [10])) (by decide : 34 ∉ [11])) (by decide : 34 ∉ [])) (by decide : 34 ∉ [12])) (by decide : 34 ∉ [13, 14, 15, 16, 17, 18, 19, 20, 21, 22, 23, 24, 25, 26, 27, 28, 29, 30, 31, 32, 33])) rfl rfl (kw_lr (by decide : 1 ∉ ([34] : List Nat)) (kw_lr (by decide : 9 ∉ ([34] : List Nat)) kw_lz)) (kw_sr9 (by decide : 1 ∉ ([34] : List Nat)) kw_sz) ⟨rfl, rfl⟩ ⟨Nat.le_of_ble_eq_true rfl, Nat.le_of_ble_eq_true rfl⟩ d_PF_init_94 (fun ad37 σ36 had37 => ?_)
  have h1 := h1.more [34]
  have h2 := h2.more [34]
  have h5 := h5.more [34]
  have h6 := h6.more [34]
  have h9 := h9.more [34]
  have h11 := h11.more [34]
  have h12 := h12.more [34]
  have hA := kw_ch hA had37
  have h34 : mm_ok (ids ++ [2] ++ [3, 4] ++ [5] ++ [] ++ [6] ++ [7, 8] ++ [9] ++ [10] ++ [11] ++ [] ++ [12] ++ [13, 14, 15, 16, 17, 18, 19, 20, 21, 22, 23, 24, 25, 26, 27, 28, 29, 30, 31, 32, 33] ++ [34]) 34 1 8 := ⟨List.mem_append_right _ (List.mem_singleton_self _), rfl, rfl⟩
  refine kw_dup C d_PF_init_97 rfl ?_
  refine kw_aload_n C d_PF_init_98 rfl ?_
  refine kw_getR C fi_PF_10 rfl rfl h1 d_PF_init_99 (fun o38 ho38 => ?_)
  refine kw_aload_n C d_PF_init_102 rfl ?_
  refine kw_getR C fi_PF_26 rfl rfl h1 d_PF_init_103 (fun o39 ho39 => ?_)
  refine kw_callI (As := [.ref o38, .ref o39]) (cl' := 36) (sl' := 236080) C (c_Writer_init_34 hl n (ids ++ [2] ++ [3, 4] ++ [5] ++ [] ++ [6] ++ [7, 8] ++ [9] ++ [10] ++ [11] ++ [] ++ [12] ++ [13, 14, 15, 16, 17, 18, 19, 20, 21, 22, 23, 24, 25, 26, 27, 28, 29, 30, 31, 32, 33] ++ [34]) (fun q9 h9 => kw_fresh (kw_fresh (kw_fresh (kw_fresh (kw_fresh (kw_fresh (kw_fresh (kw_fresh (kw_fresh (kw_fresh (kw_fresh (kw_fresh (kw_fresh (hn q9 ((by decide : ∀ q ∈ ([35, 36, 37] : List Nat), q ∈ [2, 3, 4, 5, 6, 7, 8, 9, 10, 11, 12, 13, 14, 15, 16, 17, 18, 19, 20, 21, 22, 23, 24, 25, 26, 27, 28, 29, 30, 31, 32, 33, 34, 35, 36, 37, 38, 39, 40, 41, 42, 43, 44, 45, 46, 47, 48, 49, 50, 51, 52, 53, 54, 55, 56, 57, 58, 59, 60, 61]) q9 h9)) ((by decide : ∀ q ∈ ([35, 36, 37] : List Nat), q ∉ ([2] : List Nat)) q9 h9)) ((by decide : ∀ q ∈ ([35, 36, 37] : List Nat), q ∉ ([3, 4] : List Nat)) q9 h9)) ((by decide : ∀ q ∈ ([35, 36, 37] : List Nat), q ∉ ([5] : List Nat)) q9 h9)) ((by decide : ∀ q ∈ ([35, 36, 37] : List Nat), q ∉ ([] : List Nat)) q9 h9)) ((by decide : ∀ q ∈ ([35, 36, 37] : List Nat), q ∉ ([6] : List Nat)) q9 h9)) ((by decide : ∀ q ∈ ([35, 36, 37] : List Nat), q ∉ ([7, 8] : List Nat)) q9 h9)) ((by decide : ∀ q ∈ ([35, 36, 37] : List Nat), q ∉ ([9] : List Nat)) q9 h9)) ((by decide : ∀ q ∈ ([35, 36, 37] : List Nat), q ∉ ([10] : List Nat)) q9 h9)) ((by decide : ∀ q ∈ ([35, 36, 37] : List Nat), q ∉ ([11] : List Nat)) q9 h9)) ((by decide : ∀ q ∈ ([35, 36, 37] : List Nat), q ∉ ([] : List Nat)) q9 h9)) ((by decide : ∀ q ∈ ([35, 36, 37] : List Nat), q ∉ ([12] : List Nat)) q9 h9)) ((by decide : ∀ q ∈ ([35, 36, 37] : List Nat), q ∉ ([13, 14, 15, 16, 17, 18, 19, 20, 21, 22, 23, 24, 25, 26, 27, 28, 29, 30, 31, 32, 33] : List Nat)) q9 h9)) ((by decide : ∀ q ∈ ([35, 36, 37] : List Nat), q ∉ ([34] : List Nat)) q9 h9)) h34 ho38 ho39 σ36) li_PF_55 w_Writer_init in_Writer iv_Writer_init rfl m4_Writer_init ⟨Nat.le_of_ble_eq_true rfl, Nat.le_of_ble_eq_true rfl⟩ (Nat.le_of_ble_eq_true rfl) ⟨Nat.le_of_ble_eq_true rfl, Nat.le_of_ble_eq_true rfl⟩ ⟨rfl, rfl⟩ rfl (kw_lr (by decide : 1 ∉ ([35, 36, 37] : List Nat)) (kw_lr (by decide : 9 ∉ ([35, 36, 37] : List Nat)) kw_lz)) (kw_sr9 (by decide : 34 ∉ ([35, 36, 37] : List Nat)) (kw_sr9 (by decide : 1 ∉ ([35, 36, 37] : List Nat)) kw_sz)) d_PF_init_106 (fun ad41 σ40 had41 => ?_)
  have h1 := h1.more [35, 36, 37]
  have h2 := h2.more [35, 36, 37]
  have h5 := h5.more [35, 36, 37]
  have h6 := h6.more [35, 36, 37]
  have h9 := h9.more [35, 36, 37]
  have h11 := h11.more [35, 36, 37]
  have h12 := h12.more [35, 36, 37]
  have h34 := h34.more [35, 36, 37]
  have hA := kw_ch hA had41
  refine kw_putOF C rfl (fun _ _ _ h => by have h : some (mmR_0, mmT_0, _) = some _ := h; cases h; rfl) fi_PF_58 rfl rfl h1 h34 d_PF_init_109 (fun σ42 => ?_)
  refine kw_aload_n C d_PF_init_112 rfl ?_
  refine kw_new (o := 38) (cl' := 37) (sl' := 236092) C nj_PF_62 (kw_fresh (kw_fresh (kw_fresh (kw_fresh (kw_fresh (kw_fresh (kw_fresh (kw_fresh (kw_fresh (kw_fresh (kw_fresh (kw_fresh (kw_fresh (kw_fresh (hn 38 (by decide)) (by decide : 38 ∉ [2])) (by decide : 38 ∉ [3, 4])) (by decide : 38 ∉ [5])) (by decide : 38 ∉ [])) (by decide : 38 ∉ [6])) (by decide : 38 ∉ [7, 8])) (by decide : 38 ∉ [9])) (by decide : 38 ∉ [10])) (by decide : 38 ∉ [11])) (by decide : 38 ∉ [])) (by decide : 38 ∉ [12])) (by decide : 38 ∉ [13, 14, 15, 16, 17, 18, 19, 20, 21, 22, 23, 24, 25, 26, 27, 28, 29, 30, 31, 32, 33])) (by decide : 38 ∉ [34])) (by decide : 38 ∉ [35, 36, 37])) rfl rfl (kw_lr (by decide : 1 ∉ ([38] : List Nat)) (kw_lr (by decide : 9 ∉ ([38] : List Nat)) kw_lz)) (kw_sr9 (by decide : 1 ∉ ([38] : List Nat)) kw_sz) ⟨rfl, rfl⟩ ⟨Nat.le_of_ble_eq_true rfl, Nat.le_of_ble_eq_true rfl⟩ d_PF_init_113 (fun ad44 σ43 had44 => ?_)
  have h1 := h1.more [38]
  have h2 := h2.more [38]
  have h5 := h5.more [38]
  have h6 := h6.more [38]
  have h9 := h9.more [38]
  have h11 := h11.more [38]
  have h12 := h12.more [38]
  have h34 := h34.more [38]
  have hA := kw_ch hA had44
  have h38 : mm_ok (ids ++ [2] ++ [3, 4] ++ [5] ++ [] ++ [6] ++ [7, 8] ++ [9] ++ [10] ++ [11] ++ [] ++ [12] ++ [13, 14, 15, 16, 17, 18, 19, 20, 21, 22, 23, 24, 25, 26, 27, 28, 29, 30, 31, 32, 33] ++ [34] ++ [35, 36, 37] ++ [38]) 38 1 10 := ⟨List.mem_append_right _ (List.mem_singleton_self _), rfl, rfl⟩
  refine kw_dup C d_PF_init_116 rfl ?_
  refine kw_callI (As := []) (cl' := 48) (sl' := 254350) C (c_Picture_init_38 hl n (ids ++ [2] ++ [3, 4] ++ [5] ++ [] ++ [6] ++ [7, 8] ++ [9] ++ [10] ++ [11] ++ [] ++ [12] ++ [13, 14, 15, 16, 17, 18, 19, 20, 21, 22, 23, 24, 25, 26, 27, 28, 29, 30, 31, 32, 33] ++ [34] ++ [35, 36, 37] ++ [38]) (fun q9 h9 => kw_fresh (kw_fresh (kw_fresh (kw_fresh (kw_fresh (kw_fresh (kw_fresh (kw_fresh (kw_fresh (kw_fresh (kw_fresh (kw_fresh (kw_fresh (kw_fresh (kw_fresh (hn q9 ((by decide : ∀ q ∈ ([39, 40, 41, 42, 43, 44, 45, 46, 47, 48, 49] : List Nat), q ∈ [2, 3, 4, 5, 6, 7, 8, 9, 10, 11, 12, 13, 14, 15, 16, 17, 18, 19, 20, 21, 22, 23, 24, 25, 26, 27, 28, 29, 30, 31, 32, 33, 34, 35, 36, 37, 38, 39, 40, 41, 42, 43, 44, 45, 46, 47, 48, 49, 50, 51, 52, 53, 54, 55, 56, 57, 58, 59, 60, 61]) q9 h9)) ((by decide : ∀ q ∈ ([39, 40, 41, 42, 43, 44, 45, 46, 47, 48, 49] : List Nat), q ∉ ([2] : List Nat)) q9 h9)) ((by decide : ∀ q ∈ ([39, 40, 41, 42, 43, 44, 45, 46, 47, 48, 49] : List Nat), q ∉ ([3, 4] : List Nat)) q9 h9)) ((by decide : ∀ q ∈ ([39, 40, 41, 42, 43, 44, 45, 46, 47, 48, 49] : List Nat), q ∉ ([5] : List Nat)) q9 h9)) ((by decide : ∀ q ∈ ([39, 40, 41, 42, 43, 44, 45, 46, 47, 48, 49] : List Nat), q ∉ ([] : List Nat)) q9 h9)) ((by decide : ∀ q ∈ ([39, 40, 41, 42, 43, 44, 45, 46, 47, 48, 49] : List Nat), q ∉ ([6] : List Nat)) q9 h9)) ((by decide : ∀ q ∈ ([39, 40, 41, 42, 43, 44, 45, 46, 47, 48, 49] : List Nat), q ∉ ([7, 8] : List Nat)) q9 h9)) ((by decide : ∀ q ∈ ([39, 40, 41, 42, 43, 44, 45, 46, 47, 48, 49] : List Nat), q ∉ ([9] : List Nat)) q9 h9)) ((by decide : ∀ q ∈ ([39, 40, 41, 42, 43, 44, 45, 46, 47, 48, 49] : List Nat), q ∉ ([10] : List Nat)) q9 h9)) ((by decide : ∀ q ∈ ([39, 40, 41, 42, 43, 44, 45, 46, 47, 48, 49] : List Nat), q ∉ ([11] : List Nat)) q9 h9)) ((by decide : ∀ q ∈ ([39, 40, 41, 42, 43, 44, 45, 46, 47, 48, 49] : List Nat), q ∉ ([] : List Nat)) q9 h9)) ((by decide : ∀ q ∈ ([39, 40, 41, 42, 43, 44, 45, 46, 47, 48, 49] : List Nat), q ∉ ([12] : List Nat)) q9 h9)) ((by decide : ∀ q ∈ ([39, 40, 41, 42, 43, 44, 45, 46, 47, 48, 49] : List Nat), q ∉ ([13, 14, 15, 16, 17, 18, 19, 20, 21, 22, 23, 24, 25, 26, 27, 28, 29, 30, 31, 32, 33] : List Nat)) q9 h9)) ((by decide : ∀ q ∈ ([39, 40, 41, 42, 43, 44, 45, 46, 47, 48, 49] : List Nat), q ∉ ([34] : List Nat)) q9 h9)) ((by decide : ∀ q ∈ ([39, 40, 41, 42, 43, 44, 45, 46, 47, 48, 49] : List Nat), q ∉ ([35, 36, 37] : List Nat)) q9 h9)) ((by decide : ∀ q ∈ ([39, 40, 41, 42, 43, 44, 45, 46, 47, 48, 49] : List Nat), q ∉ ([38] : List Nat)) q9 h9)) h38 σ43) li_PF_64 w_Picture_init in_Picture iv_Picture_init rfl m4_Picture_init ⟨Nat.le_of_ble_eq_true rfl, Nat.le_of_ble_eq_true rfl⟩ (Nat.le_of_ble_eq_true rfl) ⟨Nat.le_of_ble_eq_true rfl, Nat.le_of_ble_eq_true rfl⟩ ⟨rfl, rfl⟩ rfl (kw_lr (by decide : 1 ∉ ([39, 40, 41, 42, 43, 44, 45, 46, 47, 48, 49] : List Nat)) (kw_lr (by decide : 9 ∉ ([39, 40, 41, 42, 43, 44, 45, 46, 47, 48, 49] : List Nat)) kw_lz)) (kw_sr9 (by decide : 38 ∉ ([39, 40, 41, 42, 43, 44, 45, 46, 47, 48, 49] : List Nat)) (kw_sr9 (by decide : 1 ∉ ([39, 40, 41, 42, 43, 44, 45, 46, 47, 48, 49] : List Nat)) kw_sz)) d_PF_init_117 (fun ad46 σ45 had46 => ?_)
  have h1 := h1.more [39, 40, 41, 42, 43, 44, 45, 46, 47, 48, 49]
  have h2 := h2.more [39, 40, 41, 42, 43, 44, 45, 46, 47, 48, 49]
  have h5 := h5.more [39, 40, 41, 42, 43, 44, 45, 46, 47, 48, 49]
  have h6 := h6.more [39, 40, 41, 42, 43, 44, 45, 46, 47, 48, 49]
  have h9 := h9.more [39, 40, 41, 42, 43, 44, 45, 46, 47, 48, 49]
  have h11 := h11.more [39, 40, 41, 42, 43, 44, 45, 46, 47, 48, 49]
  have h12 := h12.more [39, 40, 41, 42, 43, 44, 45, 46, 47, 48, 49]
  have h34 := h34.more [39, 40, 41, 42, 43, 44, 45, 46, 47, 48, 49]
  have h38 := h38.more [39, 40, 41, 42, 43, 44, 45, 46, 47, 48, 49]
  have hA := kw_ch hA had46
  refine kw_putO C fi_PF_65 rfl rfl h1 h38 d_PF_init_120 (fun σ47 => ?_)
  refine kw_aload_n C d_PF_init_123 rfl ?_
  refine kw_new (o := 50) (cl' := 49) (sl' := 254362) C nj_PF_62 (kw_fresh (kw_fresh (kw_fresh (kw_fresh (kw_fresh (kw_fresh (kw_fresh (kw_fresh (kw_fresh (kw_fresh (kw_fresh (kw_fresh (kw_fresh (kw_fresh (kw_fresh (kw_fresh (hn 50 (by decide)) (by decide : 50 ∉ [2])) (by decide : 50 ∉ [3, 4])) (by decide : 50 ∉ [5])) (by decide : 50 ∉ [])) (by decide : 50 ∉ [6])) (by decide : 50 ∉ [7, 8])) (by decide : 50 ∉ [9])) (by decide : 50 ∉ [10])) (by decide : 50 ∉ [11])) (by decide : 50 ∉ [])) (by decide : 50 ∉ [12])) (by decide : 50 ∉ [13, 14, 15, 16, 17, 18, 19, 20, 21, 22, 23, 24, 25, 26, 27, 28, 29, 30, 31, 32, 33])) (by decide : 50 ∉ [34])) (by decide : 50 ∉ [35, 36, 37])) (by decide : 50 ∉ [38])) (by decide : 50 ∉ [39, 40, 41, 42, 43, 44, 45, 46, 47, 48, 49])) rfl rfl (kw_lr (by decide : 1 ∉ ([50] : List Nat)) (kw_lr (by decide : 9 ∉ ([50] : List Nat)) kw_lz)) (kw_sr9 (by decide : 1 ∉ ([50] : List Nat)) kw_sz) ⟨rfl, rfl⟩ ⟨Nat.le_of_ble_eq_true rfl, Nat.le_of_ble_eq_true rfl⟩ d_PF_init_124 (fun ad49 σ48 had49 => ?_)
  have h1 := h1.more [50]
  have h2 := h2.more [50]
  have h5 := h5.more [50]
  have h6 := h6.more [50]
  have h9 := h9.more [50]
  have h11 := h11.more [50]
  have h12 := h12.more [50]
  have h34 := h34.more [50]
  have h38 := h38.more [50]
  have hA := kw_ch hA had49
  have h50 : mm_ok (ids ++ [2] ++ [3, 4] ++ [5] ++ [] ++ [6] ++ [7, 8] ++ [9] ++ [10] ++ [11] ++ [] ++ [12] ++ [13, 14, 15, 16, 17, 18, 19, 20, 21, 22, 23, 24, 25, 26, 27, 28, 29, 30, 31, 32, 33] ++ [34] ++ [35, 36, 37] ++ [38] ++ [39, 40, 41, 42, 43, 44, 45, 46, 47, 48, 49] ++ [50]) 50 1 10 := ⟨List.mem_append_right _ (List.mem_singleton_self _), rfl, rfl⟩
  refine kw_dup C d_PF_init_127 rfl ?_
  refine kw_callI (As := []) (cl' := 60) (sl' := 272620) C (c_Picture_init_50 hl n (ids ++ [2] ++ [3, 4] ++ [5] ++ [] ++ [6] ++ [7, 8] ++ [9] ++ [10] ++ [11] ++ [] ++ [12] ++ [13, 14, 15, 16, 17, 18, 19, 20, 21, 22, 23, 24, 25, 26, 27, 28, 29, 30, 31, 32, 33] ++ [34] ++ [35, 36, 37] ++ [38] ++ [39, 40, 41, 42, 43, 44, 45, 46, 47, 48, 49] ++ [50]) (fun q9 h9 => kw_fresh (kw_fresh (kw_fresh (kw_fresh (kw_fresh (kw_fresh (kw_fresh (kw_fresh (kw_fresh (kw_fresh (kw_fresh (kw_fresh (kw_fresh (kw_fresh (kw_fresh (kw_fresh (kw_fresh (hn q9 ((by decide : ∀ q ∈ ([51, 52, 53, 54, 55, 56, 57, 58, 59, 60, 61] : List Nat), q ∈ [2, 3, 4, 5, 6, 7, 8, 9, 10, 11, 12, 13, 14, 15, 16, 17, 18, 19, 20, 21, 22, 23, 24, 25, 26, 27, 28, 29, 30, 31, 32, 33, 34, 35, 36, 37, 38, 39, 40, 41, 42, 43, 44, 45, 46, 47, 48, 49, 50, 51, 52, 53, 54, 55, 56, 57, 58, 59, 60, 61]) q9 h9)) ((by decide : ∀ q ∈ ([51, 52, 53, 54, 55, 56, 57, 58, 59, 60, 61] : List Nat), q ∉ ([2] : List Nat)) q9 h9)) ((by decide : ∀ q ∈ ([51, 52, 53, 54, 55, 56, 57, 58, 59, 60, 61] : List Nat), q ∉ ([3, 4] : List Nat)) q9 h9)) ((by decide : ∀ q ∈ ([51, 52, 53, 54, 55, 56, 57, 58, 59, 60, 61] : List Nat), q ∉ ([5] : List Nat)) q9 h9)) ((by decide : ∀ q ∈ ([51, 52, 53, 54, 55, 56, 57, 58, 59, 60, 61] : List Nat), q ∉ ([] : List Nat)) q9 h9)) ((by decide : ∀ q ∈ ([51, 52, 53, 54, 55, 56, 57, 58, 59, 60, 61] : List Nat), q ∉ ([6] : List Nat)) q9 h9)) ((by decide : ∀ q ∈ ([51, 52, 53, 54, 55, 56, 57, 58, 59, 60, 61] : List Nat), q ∉ ([7, 8] : List Nat)) q9 h9)) ((by decide : ∀ q ∈ ([51, 52, 53, 54, 55, 56, 57, 58, 59, 60, 61] : List Nat), q ∉ ([9] : List Nat)) q9 h9)) ((by decide : ∀ q ∈ ([51, 52, 53, 54, 55, 56, 57, 58, 59, 60, 61] : List Nat), q ∉ ([10] : List Nat)) q9 h9)) ((by decide : ∀ q ∈ ([51, 52, 53, 54, 55, 56, 57, 58, 59, 60, 61] : List Nat), q ∉ ([11] : List Nat)) q9 h9)) ((by decide : ∀ q ∈ ([51, 52, 53, 54, 55, 56, 57, 58, 59, 60, 61] : List Nat), q ∉ ([] : List Nat)) q9 h9)) ((by decide : ∀ q ∈ ([51, 52, 53, 54, 55, 56, 57, 58, 59, 60, 61] : List Nat), q ∉ ([12] : List Nat)) q9 h9)) ((by decide : ∀ q ∈ ([51, 52, 53, 54, 55, 56, 57, 58, 59, 60, 61] : List Nat), q ∉ ([13, 14, 15, 16, 17, 18, 19, 20, 21, 22, 23, 24, 25, 26, 27, 28, 29, 30, 31, 32, 33] : List Nat)) q9 h9)) ((by decide : ∀ q ∈ ([51, 52, 53, 54, 55, 56, 57, 58, 59, 60, 61] : List Nat), q ∉ ([34] : List Nat)) q9 h9)) ((by decide : ∀ q ∈ ([51, 52, 53, 54, 55, 56, 57, 58, 59, 60, 61] : List Nat), q ∉ ([35, 36, 37] : List Nat)) q9 h9)) ((by decide : ∀ q ∈ ([51, 52, 53, 54, 55, 56, 57, 58, 59, 60, 61] : List Nat), q ∉ ([38] : List Nat)) q9 h9)) ((by decide : ∀ q ∈ ([51, 52, 53, 54, 55, 56, 57, 58, 59, 60, 61] : List Nat), q ∉ ([39, 40, 41, 42, 43, 44, 45, 46, 47, 48, 49] : List Nat)) q9 h9)) ((by decide : ∀ q ∈ ([51, 52, 53, 54, 55, 56, 57, 58, 59, 60, 61] : List Nat), q ∉ ([50] : List Nat)) q9 h9)) h50 σ48) li_PF_64 w_Picture_init in_Picture iv_Picture_init rfl m4_Picture_init ⟨Nat.le_of_ble_eq_true rfl, Nat.le_of_ble_eq_true rfl⟩ (Nat.le_of_ble_eq_true rfl) ⟨Nat.le_of_ble_eq_true rfl, Nat.le_of_ble_eq_true rfl⟩ ⟨rfl, rfl⟩ rfl (kw_lr (by decide : 1 ∉ ([51, 52, 53, 54, 55, 56, 57, 58, 59, 60, 61] : List Nat)) (kw_lr (by decide : 9 ∉ ([51, 52, 53, 54, 55, 56, 57, 58, 59, 60, 61] : List Nat)) kw_lz)) (kw_sr9 (by decide : 50 ∉ ([51, 52, 53, 54, 55, 56, 57, 58, 59, 60, 61] : List Nat)) (kw_sr9 (by decide : 1 ∉ ([51, 52, 53, 54, 55, 56, 57, 58, 59, 60, 61] : List Nat)) kw_sz)) d_PF_init_128 (fun ad51 σ50 had51 => ?_)
  have h1 := h1.more [51, 52, 53, 54, 55, 56, 57, 58, 59, 60, 61]
  have h2 := h2.more [51, 52, 53, 54, 55, 56, 57, 58, 59, 60, 61]
  have h5 := h5.more [51, 52, 53, 54, 55, 56, 57, 58, 59, 60, 61]
  have h6 := h6.more [51, 52, 53, 54, 55, 56, 57, 58, 59, 60, 61]
  have h9 := h9.more [51, 52, 53, 54, 55, 56, 57, 58, 59, 60, 61]
  have h11 := h11.more [51, 52, 53, 54, 55, 56, 57, 58, 59, 60, 61]
  have h12 := h12.more [51, 52, 53, 54, 55, 56, 57, 58, 59, 60, 61]
  have h34 := h34.more [51, 52, 53, 54, 55, 56, 57, 58, 59, 60, 61]
  have h38 := h38.more [51, 52, 53, 54, 55, 56, 57, 58, 59, 60, 61]
  have h50 := h50.more [51, 52, 53, 54, 55, 56, 57, 58, 59, 60, 61]
  have hA := kw_ch hA had51
  refine kw_putO C fi_PF_69 rfl rfl h1 h50 d_PF_init_131 (fun σ52 => ?_)
  refine kw_aload_n C d_PF_init_134 rfl ?_
  refine kw_iconst (v := 0) C d_PF_init_135 (by decide) ?_
  refine kw_putZ C fi_PF_72 rfl h1 d_PF_init_136 (fun σ53 => ?_)
  exact kw_vret C Ce rfl (by simp) hA (Nat.le_of_ble_eq_true rfl) (Nat.le_of_ble_eq_true rfl) rfl d_PF_init_139
def rm_Md_init_63 : Room := { frames := 1, cells := 18, slots := 273360, locals := 20 }
def F_Md_init_63 (n : Nat)  (σ : Mm) : Option Mm :=
kf_let (mm_nw σ 64) fun σ1 =>
kf_let (pR σ1 (64 * 63 + 1) (some 64)) fun σ3 =>
kf_let (mm_nw σ3 65) fun σ4 =>
kf_let (pR σ4 (64 * 63 + 11) (some 65)) fun σ6 =>
kf_let (mm_nw σ6 66) fun σ7 =>
kf_let (pR σ7 (64 * 63 + 12) (some 66)) fun σ9 =>
kf_let (mm_nw σ9 67) fun σ10 =>
kf_let (pR σ10 (64 * 63 + 14) (some 67)) fun σ12 =>
kf_let (mm_nw σ12 68) fun σ13 =>
kf_let (pR σ13 (64 * 63 + 21) (some 68)) fun σ15 =>
kf_let (mm_nw σ15 69) fun σ16 =>
kf_let (pR σ16 (64 * 63 + 22) (some 69)) fun σ18 =>
kf_let (mm_nw σ18 70) fun σ19 =>
kf_let (pR σ19 (64 * 63 + 24) (some 70)) fun σ21 =>
kf_let (mm_nw σ21 71) fun σ22 =>
kf_let (pR σ22 (64 * 63 + 26) (some 71)) fun σ24 =>
kf_let (mm_nw σ24 72) fun σ25 =>
kf_let (pR σ25 (64 * 63 + 27) (some 72)) fun σ27 =>
kf_let (mm_nw σ27 73) fun σ28 =>
kf_let (pR σ28 (64 * 63 + 30) (some 73)) fun σ30 =>
kf_let (mm_nw σ30 74) fun σ31 =>
kf_let (pR σ31 (64 * 63 + 33) (some 74)) fun σ33 =>
kf_let (mm_nw σ33 75) fun σ34 =>
kf_let (pR σ34 (64 * 63 + 34) (some 75)) fun σ36 =>
kf_let (mm_nw σ36 76) fun σ37 =>
kf_let (pR σ37 (64 * 63 + 35) (some 76)) fun σ39 =>
kf_let (mm_nw σ39 77) fun σ40 =>
kf_let (pR σ40 (64 * 63 + 36) (some 77)) fun σ42 =>
kf_let (mm_nw σ42 78) fun σ43 =>
kf_let (pR σ43 (64 * 63 + 37) (some 78)) fun σ45 =>
kf_let (mm_nw σ45 79) fun σ46 =>
kf_let (pR σ46 (64 * 63 + 45) (some 79)) fun σ48 =>
kf_let (mm_nw σ48 80) fun σ49 =>
kf_let (pR σ49 (64 * 63 + 46) (some 80)) fun σ51 =>
kf_let (mm_nw σ51 81) fun σ52 =>
kf_let (pR σ52 (64 * 63 + 50) (some 81)) fun σ54 =>
some σ54
theorem d_Md_init_0 : decode prog_14_method_1_code 0 = .ok (.aload_n 0, 1) := by decide +kernel
theorem d_Md_init_1 : decode prog_14_method_1_code 1 = .ok (.invokespecial 1, 3) := by decide +kernel
theorem d_Md_init_4 : decode prog_14_method_1_code 4 = .ok (.aload_n 0, 1) := by decide +kernel
theorem d_Md_init_5 : decode prog_14_method_1_code 5 = .ok (.ldc 7, 2) := by decide +kernel
theorem d_Md_init_7 : decode prog_14_method_1_code 7 = .ok (.newarray .byte, 2) := by decide +kernel
theorem d_Md_init_9 : decode prog_14_method_1_code 9 = .ok (.putfield 8, 3) := by decide +kernel
theorem d_Md_init_12 : decode prog_14_method_1_code 12 = .ok (.aload_n 0, 1) := by decide +kernel
theorem d_Md_init_13 : decode prog_14_method_1_code 13 = .ok (.sipush 16384, 3) := by decide +kernel
theorem d_Md_init_16 : decode prog_14_method_1_code 16 = .ok (.newarray .int, 2) := by decide +kernel
theorem d_Md_init_18 : decode prog_14_method_1_code 18 = .ok (.putfield 14, 3) := by decide +kernel
theorem d_Md_init_21 : decode prog_14_method_1_code 21 = .ok (.aload_n 0, 1) := by decide +kernel
theorem d_Md_init_22 : decode prog_14_method_1_code 22 = .ok (.sipush 768, 3) := by decide +kernel
theorem d_Md_init_25 : decode prog_14_method_1_code 25 = .ok (.newarray .int, 2) := by decide +kernel
theorem d_Md_init_27 : decode prog_14_method_1_code 27 = .ok (.putfield 18, 3) := by decide +kernel
theorem d_Md_init_30 : decode prog_14_method_1_code 30 = .ok (.aload_n 0, 1) := by decide +kernel
theorem d_Md_init_31 : decode prog_14_method_1_code 31 = .ok (.sipush 256, 3) := by decide +kernel
theorem d_Md_init_34 : decode prog_14_method_1_code 34 = .ok (.newarray .int, 2) := by decide +kernel
theorem d_Md_init_36 : decode prog_14_method_1_code 36 = .ok (.putfield 21, 3) := by decide +kernel
theorem d_Md_init_39 : decode prog_14_method_1_code 39 = .ok (.aload_n 0, 1) := by decide +kernel
theorem d_Md_init_40 : decode prog_14_method_1_code 40 = .ok (.sipush 16384, 3) := by decide +kernel
theorem d_Md_init_43 : decode prog_14_method_1_code 43 = .ok (.newarray .int, 2) := by decide +kernel
theorem d_Md_init_45 : decode prog_14_method_1_code 45 = .ok (.putfield 24, 3) := by decide +kernel
theorem d_Md_init_48 : decode prog_14_method_1_code 48 = .ok (.aload_n 0, 1) := by decide +kernel
theorem d_Md_init_49 : decode prog_14_method_1_code 49 = .ok (.sipush 768, 3) := by decide +kernel
theorem d_Md_init_52 : decode prog_14_method_1_code 52 = .ok (.newarray .int, 2) := by decide +kernel
theorem d_Md_init_54 : decode prog_14_method_1_code 54 = .ok (.putfield 27, 3) := by decide +kernel
theorem d_Md_init_57 : decode prog_14_method_1_code 57 = .ok (.aload_n 0, 1) := by decide +kernel
theorem d_Md_init_58 : decode prog_14_method_1_code 58 = .ok (.sipush 256, 3) := by decide +kernel
theorem d_Md_init_61 : decode prog_14_method_1_code 61 = .ok (.newarray .int, 2) := by decide +kernel
theorem d_Md_init_63 : decode prog_14_method_1_code 63 = .ok (.putfield 30, 3) := by decide +kernel
theorem d_Md_init_66 : decode prog_14_method_1_code 66 = .ok (.aload_n 0, 1) := by decide +kernel
theorem d_Md_init_67 : decode prog_14_method_1_code 67 = .ok (.ldc 7, 2) := by decide +kernel
theorem d_Md_init_69 : decode prog_14_method_1_code 69 = .ok (.newarray .byte, 2) := by decide +kernel
theorem d_Md_init_71 : decode prog_14_method_1_code 71 = .ok (.putfield 33, 3) := by decide +kernel
theorem d_Md_init_74 : decode prog_14_method_1_code 74 = .ok (.aload_n 0, 1) := by decide +kernel
theorem d_Md_init_75 : decode prog_14_method_1_code 75 = .ok (.ldc 7, 2) := by decide +kernel
theorem d_Md_init_77 : decode prog_14_method_1_code 77 = .ok (.newarray .int, 2) := by decide +kernel
theorem d_Md_init_79 : decode prog_14_method_1_code 79 = .ok (.putfield 36, 3) := by decide +kernel
theorem d_Md_init_82 : decode prog_14_method_1_code 82 = .ok (.aload_n 0, 1) := by decide +kernel
theorem d_Md_init_83 : decode prog_14_method_1_code 83 = .ok (.ldc 39, 2) := by decide +kernel
theorem d_Md_init_85 : decode prog_14_method_1_code 85 = .ok (.newarray .byte, 2) := by decide +kernel
theorem d_Md_init_87 : decode prog_14_method_1_code 87 = .ok (.putfield 40, 3) := by decide +kernel
theorem d_Md_init_90 : decode prog_14_method_1_code 90 = .ok (.aload_n 0, 1) := by decide +kernel
theorem d_Md_init_91 : decode prog_14_method_1_code 91 = .ok (.sipush 256, 3) := by decide +kernel
theorem d_Md_init_94 : decode prog_14_method_1_code 94 = .ok (.newarray .int, 2) := by decide +kernel
theorem d_Md_init_96 : decode prog_14_method_1_code 96 = .ok (.putfield 43, 3) := by decide +kernel
theorem d_Md_init_99 : decode prog_14_method_1_code 99 = .ok (.aload_n 0, 1) := by decide +kernel
theorem d_Md_init_100 : decode prog_14_method_1_code 100 = .ok (.sipush 256, 3) := by decide +kernel
theorem d_Md_init_103 : decode prog_14_method_1_code 103 = .ok (.newarray .int, 2) := by decide +kernel
theorem d_Md_init_105 : decode prog_14_method_1_code 105 = .ok (.putfield 46, 3) := by decide +kernel
theorem d_Md_init_108 : decode prog_14_method_1_code 108 = .ok (.aload_n 0, 1) := by decide +kernel
theorem d_Md_init_109 : decode prog_14_method_1_code 109 = .ok (.sipush 256, 3) := by decide +kernel
theorem d_Md_init_112 : decode prog_14_method_1_code 112 = .ok (.newarray .int, 2) := by decide +kernel
theorem d_Md_init_114 : decode prog_14_method_1_code 114 = .ok (.putfield 49, 3) := by decide +kernel
theorem d_Md_init_117 : decode prog_14_method_1_code 117 = .ok (.aload_n 0, 1) := by decide +kernel
theorem d_Md_init_118 : decode prog_14_method_1_code 118 = .ok (.sipush 256, 3) := by decide +kernel
theorem d_Md_init_121 : decode prog_14_method_1_code 121 = .ok (.newarray .int, 2) := by decide +kernel
theorem d_Md_init_123 : decode prog_14_method_1_code 123 = .ok (.putfield 52, 3) := by decide +kernel
theorem d_Md_init_126 : decode prog_14_method_1_code 126 = .ok (.aload_n 0, 1) := by decide +kernel
theorem d_Md_init_127 : decode prog_14_method_1_code 127 = .ok (.sipush 256, 3) := by decide +kernel
theorem d_Md_init_130 : decode prog_14_method_1_code 130 = .ok (.newarray .int, 2) := by decide +kernel
theorem d_Md_init_132 : decode prog_14_method_1_code 132 = .ok (.putfield 55, 3) := by decide +kernel
theorem d_Md_init_135 : decode prog_14_method_1_code 135 = .ok (.aload_n 0, 1) := by decide +kernel
theorem d_Md_init_136 : decode prog_14_method_1_code 136 = .ok (.sipush 320, 3) := by decide +kernel
theorem d_Md_init_139 : decode prog_14_method_1_code 139 = .ok (.newarray .int, 2) := by decide +kernel
theorem d_Md_init_141 : decode prog_14_method_1_code 141 = .ok (.putfield 58, 3) := by decide +kernel
theorem d_Md_init_144 : decode prog_14_method_1_code 144 = .ok (.aload_n 0, 1) := by decide +kernel
theorem d_Md_init_145 : decode prog_14_method_1_code 145 = .ok (.sipush 320, 3) := by decide +kernel
theorem d_Md_init_148 : decode prog_14_method_1_code 148 = .ok (.newarray .int, 2) := by decide +kernel
theorem d_Md_init_150 : decode prog_14_method_1_code 150 = .ok (.putfield 61, 3) := by decide +kernel
theorem d_Md_init_153 : decode prog_14_method_1_code 153 = .ok (.aload_n 0, 1) := by decide +kernel
theorem d_Md_init_154 : decode prog_14_method_1_code 154 = .ok (.bipush 16, 2) := by decide +kernel
theorem d_Md_init_156 : decode prog_14_method_1_code 156 = .ok (.newarray .int, 2) := by decide +kernel
theorem d_Md_init_158 : decode prog_14_method_1_code 158 = .ok (.putfield 64, 3) := by decide +kernel
theorem d_Md_init_161 : decode prog_14_method_1_code 161 = .ok (.return_, 1) := by decide +kernel
set_option maxRecDepth 100000 in
set_option maxHeartbeats 4000000 in
theorem c_Md_init_63 {l0 : Launch} (hl : l0.stackTraces = false) (n : Nat) (ids : List Nat) (hn : ∀ q ∈ ([64, 65, 66, 67, 68, 69, 70, 71, 72, 73, 74, 75, 76, 77, 78, 79, 80, 81] : List Nat), q ∉ ids) (h63 : mm_ok ids 63 1 12) (σ : Mm) : kw_C l0 y_Md_init (Cond.code y_Md_init prog_14_method_1_code 1 none :: kw_Ts) rm_Md_init_63 kw_ov ids [64, 65, 66, 67, 68, 69, 70, 71, 72, 73, 74, 75, 76, 77, 78, 79, 80, 81] [.ref 63] σ (F_Md_init_63 n  σ) := by
  refine kw_start (L0 := [some (.ref 63)]) hl (by decide +kernel) (Nat.le_of_ble_eq_true rfl) rfl (fun Γ ad C Ce => ?_)
  unfold F_Md_init_63
  have hA : ∀ q, q ∉ ([] : List Nat) → ad q = ad q := fun _ _ => rfl
  refine kw_aload_n C d_Md_init_0 rfl ?_
  refine kw_objI C ob_Md_1 ob_i ob_c (Nat.le_of_ble_eq_true rfl) (Nat.le_of_ble_eq_true rfl) d_Md_init_1 ?_
  refine kw_aload_n C d_Md_init_4 rfl ?_
  refine kw_ldc (v := 65536) C d_Md_init_5 k_Md_7 ?_
  refine kw_newB (o := 64) (cl' := 1) (sl' := 65536) C ac_byte (hn 64 (by decide)) rfl rfl (by decide) (by decide) (by decide) (kw_lr (by decide : 63 ∉ ([64] : List Nat)) kw_lz) (kw_sr9 (by decide : 63 ∉ ([64] : List Nat)) kw_sz) ⟨rfl, rfl⟩ ⟨Nat.le_of_ble_eq_true rfl, Nat.le_of_ble_eq_true rfl⟩ d_Md_init_7 (fun ad2 σ1 had2 => ?_)
  have h63 := h63.more [64]
  have hA := kw_ch hA had2
  have h64 : mm_ok (ids ++ [64]) 64 3 0 := ⟨List.mem_append_right _ (List.mem_singleton_self _), rfl, rfl⟩
  refine kw_putOF C rfl (fun _ _ _ h => by have h : some (mmR_12, mmT_12, _) = some _ := h; cases h; rfl) fi_Md_8 rfl rfl h63 h64 d_Md_init_9 (fun σ3 => ?_)
  refine kw_aload_n C d_Md_init_12 rfl ?_
  refine kw_sipush (v := 16384) C d_Md_init_13 (by decide) ?_
  refine kw_newI (o := 65) (cl' := 2) (sl' := 81920) C ac_int (kw_fresh (hn 65 (by decide)) (by decide : 65 ∉ [64])) rfl rfl (by decide) (by decide) (by decide) (kw_lr (by decide : 63 ∉ ([65] : List Nat)) kw_lz) (kw_sr9 (by decide : 63 ∉ ([65] : List Nat)) kw_sz) ⟨rfl, rfl⟩ ⟨Nat.le_of_ble_eq_true rfl, Nat.le_of_ble_eq_true rfl⟩ d_Md_init_16 (fun ad5 σ4 had5 => ?_)
  have h63 := h63.more [65]
  have h64 := h64.more [65]
  have hA := kw_ch hA had5
  have h65 : mm_ok (ids ++ [64] ++ [65]) 65 2 0 := ⟨List.mem_append_right _ (List.mem_singleton_self _), rfl, rfl⟩
  refine kw_putOF C rfl (fun _ _ _ h => by have h : some (mmR_12, mmT_12, _) = some _ := h; cases h; rfl) fi_Md_14 rfl rfl h63 h65 d_Md_init_18 (fun σ6 => ?_)
  refine kw_aload_n C d_Md_init_21 rfl ?_
  refine kw_sipush (v := 768) C d_Md_init_22 (by decide) ?_
  refine kw_newI (o := 66) (cl' := 3) (sl' := 82688) C ac_int (kw_fresh (kw_fresh (hn 66 (by decide)) (by decide : 66 ∉ [64])) (by decide : 66 ∉ [65])) rfl rfl (by decide) (by decide) (by decide) (kw_lr (by decide : 63 ∉ ([66] : List Nat)) kw_lz) (kw_sr9 (by decide : 63 ∉ ([66] : List Nat)) kw_sz) ⟨rfl, rfl⟩ ⟨Nat.le_of_ble_eq_true rfl, Nat.le_of_ble_eq_true rfl⟩ d_Md_init_25 (fun ad8 σ7 had8 => ?_)
  have h63 := h63.more [66]
  have h64 := h64.more [66]
  have h65 := h65.more [66]
  have hA := kw_ch hA had8
  have h66 : mm_ok (ids ++ [64] ++ [65] ++ [66]) 66 2 0 := ⟨List.mem_append_right _ (List.mem_singleton_self _), rfl, rfl⟩
  refine kw_putOF C rfl (fun _ _ _ h => by have h : some (mmR_12, mmT_12, _) = some _ := h; cases h; rfl) fi_Md_18 rfl rfl h63 h66 d_Md_init_27 (fun σ9 => ?_)
  refine kw_aload_n C d_Md_init_30 rfl ?_
  refine kw_sipush (v := 256) C d_Md_init_31 (by decide) ?_
  refine kw_newI (o := 67) (cl' := 4) (sl' := 82944) C ac_int (kw_fresh (kw_fresh (kw_fresh (hn 67 (by decide)) (by decide : 67 ∉ [64])) (by decide : 67 ∉ [65])) (by decide : 67 ∉ [66])) rfl rfl (by decide) (by decide) (by decide) (kw_lr (by decide : 63 ∉ ([67] : List Nat)) kw_lz) (kw_sr9 (by decide : 63 ∉ ([67] : List Nat)) kw_sz) ⟨rfl, rfl⟩ ⟨Nat.le_of_ble_eq_true rfl, Nat.le_of_ble_eq_true rfl⟩ d_Md_init_34 (fun ad11 σ10 had11 => ?_)
  have h63 := h63.more [67]
  have h64 := h64.more [67]
  have h65 := h65.more [67]
  have h66 := h66.more [67]
  have hA := kw_ch hA had11
  have h67 : mm_ok (ids ++ [64] ++ [65] ++ [66] ++ [67]) 67 2 0 := ⟨List.mem_append_right _ (List.mem_singleton_self _), rfl, rfl⟩
  refine kw_putOF C rfl (fun _ _ _ h => by have h : some (mmR_12, mmT_12, _) = some _ := h; cases h; rfl) fi_Md_21 rfl rfl h63 h67 d_Md_init_36 (fun σ12 => ?_)
  refine kw_aload_n C d_Md_init_39 rfl ?_
  refine kw_sipush (v := 16384) C d_Md_init_40 (by decide) ?_
  refine kw_newI (o := 68) (cl' := 5) (sl' := 99328) C ac_int (kw_fresh (kw_fresh (kw_fresh (kw_fresh (hn 68 (by decide)) (by decide : 68 ∉ [64])) (by decide : 68 ∉ [65])) (by decide : 68 ∉ [66])) (by decide : 68 ∉ [67])) rfl rfl (by decide) (by decide) (by decide) (kw_lr (by decide : 63 ∉ ([68] : List Nat)) kw_lz) (kw_sr9 (by decide : 63 ∉ ([68] : List Nat)) kw_sz) ⟨rfl, rfl⟩ ⟨Nat.le_of_ble_eq_true rfl, Nat.le_of_ble_eq_true rfl⟩ d_Md_init_43 (fun ad14 σ13 had14 => ?_)
  have h63 := h63.more [68]
  have h64 := h64.more [68]
  have h65 := h65.more [68]
  have h66 := h66.more [68]
  have h67 := h67.more [68]
  have hA := kw_ch hA had14
  have h68 : mm_ok (ids ++ [64] ++ [65] ++ [66] ++ [67] ++ [68]) 68 2 0 := ⟨List.mem_append_right _ (List.mem_singleton_self _), rfl, rfl⟩
  refine kw_putOF C rfl (fun _ _ _ h => by have h : some (mmR_12, mmT_12, _) = some _ := h; cases h; rfl) fi_Md_24 rfl rfl h63 h68 d_Md_init_45 (fun σ15 => ?_)
  refine kw_aload_n C d_Md_init_48 rfl ?_
  refine kw_sipush (v := 768) C d_Md_init_49 (by decide) ?_
  refine kw_newI (o := 69) (cl' := 6) (sl' := 100096) C ac_int (kw_fresh (kw_fresh (kw_fresh (kw_fresh (kw_fresh (hn 69 (by decide)) (by decide : 69 ∉ [64])) (by decide : 69 ∉ [65])) (by decide : 69 ∉ [66])) (by decide : 69 ∉ [67])) (by decide : 69 ∉ [68])) rfl rfl (by decide) (by decide) (by decide) (kw_lr (by decide : 63 ∉ ([69] : List Nat)) kw_lz) (kw_sr9 (by decide : 63 ∉ ([69] : List Nat)) kw_sz) ⟨rfl, rfl⟩ ⟨Nat.le_of_ble_eq_true rfl, Nat.le_of_ble_eq_true rfl⟩ d_Md_init_52 (fun ad17 σ16 had17 => ?_)
  have h63 := h63.more [69]
  have h64 := h64.more [69]
  have h65 := h65.more [69]
  have h66 := h66.more [69]
  have h67 := h67.more [69]
  have h68 := h68.more [69]
  have hA := kw_ch hA had17
  have h69 : mm_ok (ids ++ [64] ++ [65] ++ [66] ++ [67] ++ [68] ++ [69]) 69 2 0 := ⟨List.mem_append_right _ (List.mem_singleton_self _), rfl, rfl⟩
  refine kw_putOF C rfl (fun _ _ _ h => by have h : some (mmR_12, mmT_12, _) = some _ := h; cases h; rfl) fi_Md_27 rfl rfl h63 h69 d_Md_init_54 (fun σ18 => ?_)
  refine kw_aload_n C d_Md_init_57 rfl ?_
  refine kw_sipush (v := 256) C d_Md_init_58 (by decide) ?_
  refine kw_newI (o := 70) (cl' := 7) (sl' := 100352) C ac_int (kw_fresh (kw_fresh (kw_fresh (kw_fresh (kw_fresh (kw_fresh (hn 70 (by decide)) (by decide : 70 ∉ [64])) (by decide : 70 ∉ [65])) (by decide : 70 ∉ [66])) (by decide : 70 ∉ [67])) (by decide : 70 ∉ [68])) (by decide : 70 ∉ [69])) rfl rfl (by decide) (by decide) (by decide) (kw_lr (by decide : 63 ∉ ([70] : List Nat)) kw_lz) (kw_sr9 (by decide : 63 ∉ ([70] : List Nat)) kw_sz) ⟨rfl, rfl⟩ ⟨Nat.le_of_ble_eq_true rfl, Nat.le_of_ble_eq_true rfl⟩ d_Md_init_61 (fun ad20 σ19 had20 => ?_)
  have h63 := h63.more [70]
  have h64 := h64.more [70]
  have h65 := h65.more [70]
  have h66 := h66.more [70]
  have h67 := h67.more [70]
  have h68 := h68.more [70]
  have h69 := h69.more [70]
  have hA := kw_ch hA had20
  have h70 : mm_ok (ids ++ [64] ++ [65] ++ [66] ++ [67] ++ [68] ++ [69] ++ [70]) 70 2 0 := ⟨List.mem_append_right _ (List.mem_singleton_self _), rfl, rfl⟩
  refine kw_putOF C rfl (fun _ _ _ h => by have h : some (mmR_12, mmT_12, _) = some _ := h; cases h; rfl) fi_Md_30 rfl rfl h63 h70 d_Md_init_63 (fun σ21 => ?_)
  refine kw_aload_n C d_Md_init_66 rfl ?_
  refine kw_ldc (v := 65536) C d_Md_init_67 k_Md_7 ?_
  refine kw_newB (o := 71) (cl' := 8) (sl' := 165888) C ac_byte (kw_fresh (kw_fresh (kw_fresh (kw_fresh (kw_fresh (kw_fresh (kw_fresh (hn 71 (by decide)) (by decide : 71 ∉ [64])) (by decide : 71 ∉ [65])) (by decide : 71 ∉ [66])) (by decide : 71 ∉ [67])) (by decide : 71 ∉ [68])) (by decide : 71 ∉ [69])) (by decide : 71 ∉ [70])) rfl rfl (by decide) (by decide) (by decide) (kw_lr (by decide : 63 ∉ ([71] : List Nat)) kw_lz) (kw_sr9 (by decide : 63 ∉ ([71] : List Nat)) kw_sz) ⟨rfl, rfl⟩ ⟨Nat.le_of_ble_eq_true rfl, Nat.le_of_ble_eq_true rfl⟩ d_Md_init_69 (fun ad23 σ22 had23 => ?_)
  have h63 := h63.more [71]
  have h64 := h64.more [71]
  have h65 := h65.more [71]
  have h66 := h66.more [71]
  have h67 := h67.more [71]
  have h68 := h68.more [71]
  have h69 := h69.more [71]
  have h70 := h70.more [71]
  have hA := kw_ch hA had23
  have h71 : mm_ok (ids ++ [64] ++ [65] ++ [66] ++ [67] ++ [68] ++ [69] ++ [70] ++ [71]) 71 3 0 := ⟨List.mem_append_right _ (List.mem_singleton_self _), rfl, rfl⟩
  refine kw_putOF C rfl (fun _ _ _ h => by have h : some (mmR_12, mmT_12, _) = some _ := h; cases h; rfl) fi_Md_33 rfl rfl h63 h71 d_Md_init_71 (fun σ24 => ?_)
  refine kw_aload_n C d_Md_init_74 rfl ?_
  refine kw_ldc (v := 65536) C d_Md_init_75 k_Md_7 ?_
  refine kw_newI (o := 72) (cl' := 9) (sl' := 231424) C ac_int (kw_fresh (kw_fresh (kw_fresh (kw_fresh (kw_fresh (kw_fresh (kw_fresh (kw_fresh (hn 72 (by decide)) (by decide : 72 ∉ [64])) (by decide : 72 ∉ [65])) (by decide : 72 ∉ [66])) (by decide : 72 ∉ [67])) (by decide : 72 ∉ [68])) (by decide : 72 ∉ [69])) (by decide : 72 ∉ [70])) (by decide : 72 ∉ [71])) rfl rfl (by decide) (by decide) (by decide) (kw_lr (by decide : 63 ∉ ([72] : List Nat)) kw_lz) (kw_sr9 (by decide : 63 ∉ ([72] : List Nat)) kw_sz) ⟨rfl, rfl⟩ ⟨Nat.le_of_ble_eq_true rfl, Nat.le_of_ble_eq_true rfl⟩ d_Md_init_77 (fun ad26 σ25 had26 => ?_)
  have h63 := h63.more [72]
  have h64 := h64.more [72]
  have h65 := h65.more [72]
  have h66 := h66.more [72]
  have h67 := h67.more [72]
  have h68 := h68.more [72]
  have h69 := h69.more [72]
  have h70 := h70.more [72]
  have h71 := h71.more [72]
  have hA := kw_ch hA had26
  have h72 : mm_ok (ids ++ [64] ++ [65] ++ [66] ++ [67] ++ [68] ++ [69] ++ [70] ++ [71] ++ [72]) 72 2 0 := ⟨List.mem_append_right _ (List.mem_singleton_self _), rfl, rfl⟩
  refine kw_putOF C rfl (fun _ _ _ h => by have h : some (mmR_12, mmT_12, _) = some _ := h; cases h; rfl) fi_Md_36 rfl rfl h63 h72 d_Md_init_79 (fun σ27 => ?_)
  refine kw_aload_n C d_Md_init_82 rfl ?_
  refine kw_ldc (v := 40000) C d_Md_init_83 k_Md_39 ?_
  refine kw_newB (o := 73) (cl' := 10) (sl' := 271424) C ac_byte (kw_fresh (kw_fresh (kw_fresh (kw_fresh (kw_fresh (kw_fresh (kw_fresh (kw_fresh (kw_fresh (hn 73 (by decide)) (by decide : 73 ∉ [64])) (by decide : 73 ∉ [65])) (by decide : 73 ∉ [66])) (by decide : 73 ∉ [67])) (by decide : 73 ∉ [68])) (by decide : 73 ∉ [69])) (by decide : 73 ∉ [70])) (by decide : 73 ∉ [71])) (by decide : 73 ∉ [72])) rfl rfl (by decide) (by decide) (by decide) (kw_lr (by decide : 63 ∉ ([73] : List Nat)) kw_lz) (kw_sr9 (by decide : 63 ∉ ([73] : List Nat)) kw_sz) ⟨rfl, rfl⟩ ⟨Nat.le_of_ble_eq_true rfl, Nat.le_of_ble_eq_true rfl⟩ d_Md_init_85 (fun ad29 σ28 had29 => ?_)
  have h63 := h63.more [73]
  have h64 := h64.more [73]
  have h65 := h65.more [73]
  have h66 := h66.more [73]
  have h67 := h67.more [73]
  have h68 := h68.more [73]
  have h69 := h69.more [73]
  have h70 := h70.more [73]
  have h71 := h71.more [73]
  have h72 := h72.more [73]
  have hA := kw_ch hA had29
  have h73 : mm_ok (ids ++ [64] ++ [65] ++ [66] ++ [67] ++ [68] ++ [69] ++ [70] ++ [71] ++ [72] ++ [73]) 73 3 0 := ⟨List.mem_append_right _ (List.mem_singleton_self _), rfl, rfl⟩
  refine kw_putOF C rfl (fun _ _ _ h => by have h : some (mmR_12, mmT_12, _) = some _ := h; cases h; rfl) fi_Md_40 rfl rfl h63 h73 d_Md_init_87 (fun σ30 => ?_)
  refine kw_aload_n C d_Md_init_90 rfl ?_
  refine kw_sipush (v := 256) C d_Md_init_91 (by decide) ?_
  refine kw_newI (o := 74) (cl' := 11) (sl' := 271680) C ac_int (kw_fresh (kw_fresh (kw_fresh (kw_fresh (kw_fresh (kw_fresh (kw_fresh (kw_fresh (kw_fresh (kw_fresh (hn 74 (by decide)) (by decide : 74 ∉ [64])) (by decide : 74 ∉ [65])) (by decide : 74 ∉ [66])) (by decide : 74 ∉ [67])) (by decide : 74 ∉ [68])) (by decide : 74 ∉ [69])) (by decide : 74 ∉ [70])) (by decide : 74 ∉ [71])) (by decide : 74 ∉ [72])) (by decide : 74 ∉ [73])) rfl rfl (by decide) (by decide) (by decide) (kw_lr (by decide : 63 ∉ ([74] : List Nat)) kw_lz) (kw_sr9 (by decide : 63 ∉ ([74] : List Nat)) kw_sz) ⟨rfl, rfl⟩ ⟨Nat.le_of_ble_eq_true rfl, Nat.le_of_ble_eq_true rfl⟩ d_Md_init_94 (fun ad32 σ31 had32 => ?_)
  have h63 := h63.more [74]
  have h64 := h64.more [74]
  have h65 := h65.more [74]
  have h66 := h66.more [74]
  have h67 := h67.more [74]
  have h68 := h68.more [74]
  have h69 := h69.more [74]
  have h70 := h70.more [74]
  have h71 := h71.more [74]
  have h72 := h72.more [74]
  have h73 := h73.more [74]
  have hA := kw_ch hA had32
  have h74 : mm_ok (ids ++ [64] ++ [65] ++ [66] ++ [67] ++ [68] ++ [69] ++ [70] ++ [71] ++ [72] ++ [73] ++ [74]) 74 2 0 := ⟨List.mem_append_right _ (List.mem_singleton_self _), rfl, rfl⟩
  refine kw_putOF C rfl (fun _ _ _ h => by have h : some (mmR_12, mmT_12, _) = some _ := h; cases h; rfl) fi_Md_43 rfl rfl h63 h74 d_Md_init_96 (fun σ33 => ?_)
  refine kw_aload_n C d_Md_init_99 rfl ?_
  refine kw_sipush (v := 256) C d_Md_init_100 (by decide) ?_
  refine kw_newI (o := 75) (cl' := 12) (sl' := 271936) C ac_int (kw_fresh (kw_fresh (kw_fresh (kw_fresh (kw_fresh (kw_fresh (kw_fresh (kw_fresh (kw_fresh (kw_fresh (kw_fresh (hn 75 (by decide)) (by decide : 75 ∉ [64])) (by decide : 75 ∉ [65])) (by decide : 75 ∉ [66])) (by decide : 75 ∉ [67])) (by decide : 75 ∉ [68])) (by decide : 75 ∉ [69])) (by decide : 75 ∉ [70])) (by decide : 75 ∉ [71])) (by decide : 75 ∉ [72])) (by decide : 75 ∉ [73])) (by decide : 75 ∉ [74])) rfl rfl (by decide) (by decide) (by decide) (kw_lr (by decide : 63 ∉ ([75] : List Nat)) kw_lz) (kw_sr9 (by decide : 63 ∉ ([75] : List Nat)) kw_sz) ⟨rfl, rfl⟩ ⟨Nat.le_of_ble_eq_true rfl, Nat.le_of_ble_eq_true rfl⟩ d_Md_init_103 (fun ad35 σ34 had35 => ?_)
  have h63 := h63.more [75]
  have h64 := h64.more [75]
  have h65 := h65.more [75]
  have h66 := h66.more [75]
  have h67 := h67.more [75]
  have h68 := h68.more [75]
  have h69 := h69.more [75]
  have h70 := h70.more [75]
  have h71 := h71.more [75]
  have h72 := h72.more [75]
  have h73 := h73.more [75]
  have h74 := h74.more [75]
  have hA := kw_ch hA had35
  have h75 : mm_ok (ids ++ [64] ++ [65] ++ [66] ++ [67] ++ [68] ++ [69] ++ [70] ++ [71] ++ [72] ++ [73] ++ [74] ++ [75]) 75 2 0 := ⟨List.mem_append_right _ (List.mem_singleton_self _), rfl, rfl⟩
  refine kw_putOF C rfl (fun _ _ _ h => by have h : some (mmR_12, mmT_12, _) = some _ := h; cases h; rfl) fi_Md_46 rfl rfl h63 h75 d_Md_init_105 (fun σ36 => ?_)
  refine kw_aload_n C d_Md_init_108 rfl ?_
  refine kw_sipush (v := 256) C d_Md_init_109 (by decide) ?_
  refine kw_newI (o := 76) (cl' := 13) (sl' := 272192) C ac_int (kw_fresh (kw_fresh (kw_fresh (kw_fresh (kw_fresh (kw_fresh (kw_fresh (kw_fresh (kw_fresh (kw_fresh (kw_fresh (kw_fresh (hn 76 (by decide)) (by decide : 76 ∉ [64])) (by decide : 76 ∉ [65])) (by decide : 76 ∉ [66])) (by decide : 76 ∉ [67])) (by decide : 76 ∉ [68])) (by decide : 76 ∉ [69])) (by decide : 76 ∉ [70])) (by decide : 76 ∉ [71])) (by decide : 76 ∉ [72])) (by decide : 76 ∉ [73])) (by decide : 76 ∉ [74])) (by decide : 76 ∉ [75])) rfl rfl (by decide) (by decide) (by decide) (kw_lr (by decide : 63 ∉ ([76] : List Nat)) kw_lz) (kw_sr9 (by decide : 63 ∉ ([76] : List Nat)) kw_sz) ⟨rfl, rfl⟩ ⟨Nat.le_of_ble_eq_true rfl, Nat.le_of_ble_eq_true rfl⟩ d_Md_init_112 (fun ad38 σ37 had38 => ?_)
  have h63 := h63.more [76]
  have h64 := h64.more [76]
  have h65 := h65.more [76]
  have h66 := h66.more [76]
  have h67 := h67.more [76]
  have h68 := h68.more [76]
  have h69 := h69.more [76]
  have h70 := h70.more [76]
  have h71 := h71.more [76]
  have h72 := h72.more [76]
  have h73 := h73.more [76]
  have h74 := h74.more [76]
  have h75 := h75.more [76]
  have hA := kw_ch hA had38
  have h76 : mm_ok (ids ++ [64] ++ [65] ++ [66] ++ [67] ++ [68] ++ [69] ++ [70] ++ [71] ++ [72] ++ [73] ++ [74] ++ [75] ++ [76]) 76 2 0 := ⟨List.mem_append_right _ (List.mem_singleton_self _), rfl, rfl⟩
  refine kw_putOF C rfl (fun _ _ _ h => by have h : some (mmR_12, mmT_12, _) = some _ := h; cases h; rfl) fi_Md_49 rfl rfl h63 h76 d_Md_init_114 (fun σ39 => ?_)
  refine kw_aload_n C d_Md_init_117 rfl ?_
  refine kw_sipush (v := 256) C d_Md_init_118 (by decide) ?_
  refine kw_newI (o := 77) (cl' := 14) (sl' := 272448) C ac_int (kw_fresh (kw_fresh (kw_fresh (kw_fresh (kw_fresh (kw_fresh (kw_fresh (kw_fresh (kw_fresh (kw_fresh (kw_fresh (kw_fresh (kw_fresh (hn 77 (by decide)) (by decide : 77 ∉ [64])) (by decide : 77 ∉ [65])) (by decide : 77 ∉ [66])) (by decide : 77 ∉ [67])) (by decide : 77 ∉ [68])) (by decide : 77 ∉ [69])) (by decide : 77 ∉ [70])) (by decide : 77 ∉ [71])) (by decide : 77 ∉ [72])) (by decide : 77 ∉ [73])) (by decide : 77 ∉ [74])) (by decide : 77 ∉ [75])) (by decide : 77 ∉ [76])) rfl rfl (by decide) (by decide) (by decide) (kw_lr (by decide : 63 ∉ ([77] : List Nat)) kw_lz) (kw_sr9 (by decide : 63 ∉ ([77] : List Nat)) kw_sz) ⟨rfl, rfl⟩ ⟨Nat.le_of_ble_eq_true rfl, Nat.le_of_ble_eq_true rfl⟩ d_Md_init_121 (fun ad41 σ40 had41 => ?_)
  have h63 := h63.more [77]
  have h64 := h64.more [77]
  have h65 := h65.more [77]
  have h66 := h66.more [77]
  have h67 := h67.more [77]
  have h68 := h68.more [77]
  have h69 := h69.more [77]
  have h70 := h70.more [77]
  have h71 := h71.more [77]
  have h72 := h72.more [77]
  have h73 := h73.more [77]
  have h74 := h74.more [77]
  have h75 := h75.more [77]
  have h76 := h76.more [77]
  have hA := kw_ch hA had41
  have h77 : mm_ok (ids ++ [64] ++ [65] ++ [66] ++ [67] ++ [68] ++ [69] ++ [70] ++ [71] ++ [72] ++ [73] ++ [74] ++ [75] ++ [76] ++ [77]) 77 2 0 := ⟨List.mem_append_right _ (List.mem_singleton_self _), rfl, rfl⟩
  refine kw_putOF C rfl (fun _ _ _ h => by have h : some (mmR_12, mmT_12, _) = some _ := h; cases h; rfl) fi_Md_52 rfl rfl h63 h77 d_Md_init_123 (fun σ42 => ?_)
  refine kw_aload_n C d_Md_init_126 rfl ?_
  refine kw_sipush (v := 256) C d_Md_init_127 (by decide) ?_
  refine kw_newI (o := 78) (cl' := 15) (sl' := 272704) C ac_int (kw_fresh (kw_fresh (kw_fresh (kw_fresh (kw_fresh (kw_fresh (kw_fresh (kw_fresh (kw_fresh (kw_fresh (kw_fresh (kw_fresh (kw_fresh (kw_fresh (hn 78 (by decide)) (by decide : 78 ∉ [64])) (by decide : 78 ∉ [65])) (by decide : 78 ∉ [66])) (by decide : 78 ∉ [67])) (by decide : 78 ∉ [68])) (by decide : 78 ∉ [69])) (by decide : 78 ∉ [70])) (by decide : 78 ∉ [71])) (by decide : 78 ∉ [72])) (by decide : 78 ∉ [73])) (by decide : 78 ∉ [74])) (by decide : 78 ∉ [75])) (by decide : 78 ∉ [76])) (by decide : 78 ∉ [77])) rfl rfl (by decide) (by decide) (by decide) (kw_lr (by decide : 63 ∉ ([78] : List Nat)) kw_lz) (kw_sr9 (by decide : 63 ∉ ([78] : List Nat)) kw_sz) ⟨rfl, rfl⟩ ⟨Nat.le_of_ble_eq_true rfl, Nat.le_of_ble_eq_true rfl⟩ d_Md_init_130 (fun ad44 σ43 had44 => ?_)
  have h63 := h63.more [78]
  have h64 := h64.more [78]
  have h65 := h65.more [78]
  have h66 := h66.more [78]
  have h67 := h67.more [78]
  have h68 := h68.more [78]
  have h69 := h69.more [78]
  have h70 := h70.more [78]
  have h71 := h71.more [78]
  have h72 := h72.more [78]
  have h73 := h73.more [78]
  have h74 := h74.more [78]
  have h75 := h75.more [78]
  have h76 := h76.more [78]
  have h77 := h77.more [78]
  have hA := kw_ch hA had44
  have h78 : mm_ok (ids ++ [64] ++ [65] ++ [66] ++ [67] ++ [68] ++ [69] ++ [70] ++ [71] ++ [72] ++ [73] ++ [74] ++ [75] ++ [76] ++ [77] ++ [78]) 78 2 0 := ⟨List.mem_append_right _ (List.mem_singleton_self _), rfl, rfl⟩
  refine kw_putOF C rfl (fun _ _ _ h => by have h : some (mmR_12, mmT_12, _) = some _ := h; cases h; rfl) fi_Md_55 rfl rfl h63 h78 d_Md_init_132 (fun σ45 => ?_)
  refine kw_aload_n C d_Md_init_135 rfl ?_
  refine kw_sipush (v := 320) C d_Md_init_136 (by decide) ?_
  refine kw_newI (o := 79) (cl' := 16) (sl' := 273024) C ac_int (kw_fresh (kw_fresh (kw_fresh (kw_fresh (kw_fresh (kw_fresh (kw_fresh (kw_fresh (kw_fresh (kw_fresh (kw_fresh (kw_fresh (kw_fresh (kw_fresh (kw_fresh (hn 79 (by decide)) (by decide : 79 ∉ [64])) (by decide : 79 ∉ [65])) (by decide : 79 ∉ [66])) (by decide : 79 ∉ [67])) (by decide : 79 ∉ [68])) (by decide : 79 ∉ [69])) (by decide : 79 ∉ [70])) (by decide : 79 ∉ [71])) (by decide : 79 ∉ [72])) (by decide : 79 ∉ [73])) (by decide : 79 ∉ [74])) (by decide : 79 ∉ [75])) (by decide : 79 ∉ [76])) (by decide : 79 ∉ [77])) (by decide : 79 ∉ [78])) rfl rfl (by decide) (by decide) (by decide) (kw_lr (by decide : 63 ∉ ([79] : List Nat)) kw_lz) (kw_sr9 (by decide : 63 ∉ ([79] : List Nat)) kw_sz) ⟨rfl, rfl⟩ ⟨Nat.le_of_ble_eq_true rfl, Nat.le_of_ble_eq_true rfl⟩ d_Md_init_139 (fun ad47 σ46 had47 => ?_)
  have h63 := h63.more [79]
  have h64 := h64.more [79]
  have h65 := h65.more [79]
  have h66 := h66.more [79]
  have h67 := h67.more [79]
  have h68 := h68.more [79]
  have h69 := h69.more [79]
  have h70 := h70.more [79]
  have h71 := h71.more [79]
  have h72 := h72.more [79]
  have h73 := h73.more [79]
  have h74 := h74.more [79]
  have h75 := h75.more [79]
  have h76 := h76.more [79]
  have h77 := h77.more [79]
  have h78 := h78.more [79]
  have hA := kw_ch hA had47
  have h79 : mm_ok (ids ++ [64] ++ [65] ++ [66] ++ [67] ++ [68] ++ [69] ++ [70] ++ [71] ++ [72] ++ [73] ++ [74] ++ [75] ++ [76] ++ [77] ++ [78] ++ [79]) 79 2 0 := ⟨List.mem_append_right _ (List.mem_singleton_self _), rfl, rfl⟩
  refine kw_putOF C rfl (fun _ _ _ h => by have h : some (mmR_12, mmT_12, _) = some _ := h; cases h; rfl) fi_Md_58 rfl rfl h63 h79 d_Md_init_141 (fun σ48 => ?_)
  refine kw_aload_n C d_Md_init_144 rfl ?_
  refine kw_sipush (v := 320) C d_Md_init_145 (by decide) ?_
  refine kw_newI (o := 80) (cl' := 17) (sl' := 273344) C ac_int (kw_fresh (kw_fresh (kw_fresh (kw_fresh (kw_fresh (kw_fresh (kw_fresh (kw_fresh (kw_fresh (kw_fresh (kw_fresh (kw_fresh (kw_fresh (kw_fresh (kw_fresh (kw_fresh (hn 80 (by decide)) (by decide : 80 ∉ [64])) (by decide : 80 ∉ [65])) (by decide : 80 ∉ [66])) (by decide : 80 ∉ [67])) (by decide : 80 ∉ [68])) (by decide : 80 ∉ [69])) (by decide : 80 ∉ [70])) (by decide : 80 ∉ [71])) (by decide : 80 ∉ [72])) (by decide : 80 ∉ [73])) (by decide : 80 ∉ [74])) (by decide : 80 ∉ [75])) (by decide : 80 ∉ [76])) (by decide : 80 ∉ [77])) (by decide : 80 ∉ [78])) (by decide : 80 ∉ [79])) rfl rfl (by decide) (by decide) (by decide) (kw_lr (by decide : 63 ∉ ([80] : List Nat)) kw_lz) (kw_sr9 (by decide : 63 ∉ ([80] : List Nat)) kw_sz) ⟨rfl, rfl⟩ ⟨Nat.le_of_ble_eq_true rfl, Nat.le_of_ble_eq_true rfl⟩ d_Md_init_148 (fun ad50 σ49 had50 => ?_)
  have h63 := h63.more [80]
  have h64 := h64.more [80]
  have h65 := h65.more [80]
  have h66 := h66.more [80]
  have h67 := h67.more [80]
  have h68 := h68.more [80]
  have h69 := h69.more [80]
  have h70 := h70.more [80]
  have h71 := h71.more [80]
  have h72 := h72.more [80]
  have h73 := h73.more [80]
  have h74 := h74.more [80]
  have h75 := h75.more [80]
  have h76 := h76.more [80]
  have h77 := h77.more [80]
  have h78 := h78.more [80]
  have h79 := h79.more [80]
  have hA := kw_ch hA had50
  have h80 : mm_ok (ids ++ [64] ++ [65] ++ [66] ++ [67] ++ [68] ++ [69] ++ [70] ++ [71] ++ [72] ++ [73] ++ [74] ++ [75] ++ [76] ++ [77] ++ [78] ++ [79] ++ [80]) 80 2 0 := ⟨List.mem_append_right _ (List.mem_singleton_self _), rfl, rfl⟩
  refine kw_putOF C rfl (fun _ _ _ h => by have h : some (mmR_12, mmT_12, _) = some _ := h; cases h; rfl) fi_Md_61 rfl rfl h63 h80 d_Md_init_150 (fun σ51 => ?_)
  refine kw_aload_n C d_Md_init_153 rfl ?_
  refine kw_bipush (v := 16) C d_Md_init_154 (by decide) ?_
  refine kw_newI (o := 81) (cl' := 18) (sl' := 273360) C ac_int (kw_fresh (kw_fresh (kw_fresh (kw_fresh (kw_fresh (kw_fresh (kw_fresh (kw_fresh (kw_fresh (kw_fresh (kw_fresh (kw_fresh (kw_fresh (kw_fresh (kw_fresh (kw_fresh (kw_fresh (hn 81 (by decide)) (by decide : 81 ∉ [64])) (by decide : 81 ∉ [65])) (by decide : 81 ∉ [66])) (by decide : 81 ∉ [67])) (by decide : 81 ∉ [68])) (by decide : 81 ∉ [69])) (by decide : 81 ∉ [70])) (by decide : 81 ∉ [71])) (by decide : 81 ∉ [72])) (by decide : 81 ∉ [73])) (by decide : 81 ∉ [74])) (by decide : 81 ∉ [75])) (by decide : 81 ∉ [76])) (by decide : 81 ∉ [77])) (by decide : 81 ∉ [78])) (by decide : 81 ∉ [79])) (by decide : 81 ∉ [80])) rfl rfl (by decide) (by decide) (by decide) (kw_lr (by decide : 63 ∉ ([81] : List Nat)) kw_lz) (kw_sr9 (by decide : 63 ∉ ([81] : List Nat)) kw_sz) ⟨rfl, rfl⟩ ⟨Nat.le_of_ble_eq_true rfl, Nat.le_of_ble_eq_true rfl⟩ d_Md_init_156 (fun ad53 σ52 had53 => ?_)
  have h63 := h63.more [81]
  have h64 := h64.more [81]
  have h65 := h65.more [81]
  have h66 := h66.more [81]
  have h67 := h67.more [81]
  have h68 := h68.more [81]
  have h69 := h69.more [81]
  have h70 := h70.more [81]
  have h71 := h71.more [81]
  have h72 := h72.more [81]
  have h73 := h73.more [81]
  have h74 := h74.more [81]
  have h75 := h75.more [81]
  have h76 := h76.more [81]
  have h77 := h77.more [81]
  have h78 := h78.more [81]
  have h79 := h79.more [81]
  have h80 := h80.more [81]
  have hA := kw_ch hA had53
  have h81 : mm_ok (ids ++ [64] ++ [65] ++ [66] ++ [67] ++ [68] ++ [69] ++ [70] ++ [71] ++ [72] ++ [73] ++ [74] ++ [75] ++ [76] ++ [77] ++ [78] ++ [79] ++ [80] ++ [81]) 81 2 0 := ⟨List.mem_append_right _ (List.mem_singleton_self _), rfl, rfl⟩
  refine kw_putOF C rfl (fun _ _ _ h => by have h : some (mmR_12, mmT_12, _) = some _ := h; cases h; rfl) fi_Md_64 rfl rfl h63 h81 d_Md_init_158 (fun σ54 => ?_)
  exact kw_vret C Ce rfl (by simp) hA (Nat.le_of_ble_eq_true rfl) (Nat.le_of_ble_eq_true rfl) rfl d_Md_init_161
