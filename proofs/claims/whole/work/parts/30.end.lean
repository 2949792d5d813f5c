/-! THE CLAIM OUT OF THE LAW'S FUNCTION -/
theorem lw_in {w : Cond} {i : Nat} (h : tables_1[i]? = some w) : w ∈ lw_tbl := List.mem_append_right _ (List.mem_of_getElem? h)
theorem mm_kd5 : ∀ o, (mm_kd o).1 = 5 → 100 ≤ o ∧ o < 110 := by
  intro o h
  by_cases z : o < 110
  · exact ⟨(by decide +kernel : ∀ o, o < 110 → (mm_kd o).1 = 5 → 100 ≤ o) o z h, z⟩
  · have hlen : mm_kdL.length = 110 := by decide
    unfold mm_kd at h
    rw [List.getD_eq_getElem?_getD, List.getElem?_eq_none (show mm_kdL.length ≤ o by omega)] at h
    cases h
/-- what the Statement says of a table of numbers -/
def st_ok (b : Array Value) (s : State) (c n d : String) (o : Nat) : Prop := (Cond.arrayOf (.static c n d) .int).before b s = true ∧ (Cond.eq (.length (.static c n d)) (.int (Int32.ofNat (mm_kd o).2.2))).before b s = true ∧ ∀ j, j < (mm_kd o).2.2 → (Cond.eq (.elem (.static c n d) (.int (Int32.ofNat j))) (.int (mm_sc o j))).before b s = true
theorem st_100 {b : Array Value} {s : State} (h : ∀ w ∈ flatC (Jvm.Cond.and given_1 narrow_1), w.before b s = true) : st_ok b s "PictureFile$Tape" "MARK" "[I" 100 := ⟨h _ (by decide +kernel), h _ (by decide +kernel), fun j hj => h _ ((by decide +kernel : ∀ j, j < (mm_kd 100).2.2 → Cond.eq (.elem (.static "PictureFile$Tape" "MARK" "[I") (.int (Int32.ofNat j))) (.int (mm_sc 100 j)) ∈ flatC (Jvm.Cond.and given_1 narrow_1)) j hj)⟩
theorem st_101 {b : Array Value} {s : State} (h : ∀ w ∈ flatC (Jvm.Cond.and given_1 narrow_1), w.before b s = true) : st_ok b s "PictureFile$Layout" "PASS_X" "[I" 101 := ⟨h _ (by decide +kernel), h _ (by decide +kernel), fun j hj => h _ ((by decide +kernel : ∀ j, j < (mm_kd 101).2.2 → Cond.eq (.elem (.static "PictureFile$Layout" "PASS_X" "[I") (.int (Int32.ofNat j))) (.int (mm_sc 101 j)) ∈ flatC (Jvm.Cond.and given_1 narrow_1)) j hj)⟩
theorem st_102 {b : Array Value} {s : State} (h : ∀ w ∈ flatC (Jvm.Cond.and given_1 narrow_1), w.before b s = true) : st_ok b s "PictureFile$Layout" "PASS_RIGHT" "[I" 102 := ⟨h _ (by decide +kernel), h _ (by decide +kernel), fun j hj => h _ ((by decide +kernel : ∀ j, j < (mm_kd 102).2.2 → Cond.eq (.elem (.static "PictureFile$Layout" "PASS_RIGHT" "[I") (.int (Int32.ofNat j))) (.int (mm_sc 102 j)) ∈ flatC (Jvm.Cond.and given_1 narrow_1)) j hj)⟩
theorem st_103 {b : Array Value} {s : State} (h : ∀ w ∈ flatC (Jvm.Cond.and given_1 narrow_1), w.before b s = true) : st_ok b s "PictureFile$Layout" "PASS_Y" "[I" 103 := ⟨h _ (by decide +kernel), h _ (by decide +kernel), fun j hj => h _ ((by decide +kernel : ∀ j, j < (mm_kd 103).2.2 → Cond.eq (.elem (.static "PictureFile$Layout" "PASS_Y" "[I") (.int (Int32.ofNat j))) (.int (mm_sc 103 j)) ∈ flatC (Jvm.Cond.and given_1 narrow_1)) j hj)⟩
theorem st_104 {b : Array Value} {s : State} (h : ∀ w ∈ flatC (Jvm.Cond.and given_1 narrow_1), w.before b s = true) : st_ok b s "PictureFile$Layout" "PASS_DOWN" "[I" 104 := ⟨h _ (by decide +kernel), h _ (by decide +kernel), fun j hj => h _ ((by decide +kernel : ∀ j, j < (mm_kd 104).2.2 → Cond.eq (.elem (.static "PictureFile$Layout" "PASS_DOWN" "[I") (.int (Int32.ofNat j))) (.int (mm_sc 104 j)) ∈ flatC (Jvm.Cond.and given_1 narrow_1)) j hj)⟩
theorem st_105 {b : Array Value} {s : State} (h : ∀ w ∈ flatC (Jvm.Cond.and given_1 narrow_1), w.before b s = true) : st_ok b s "PictureFile$Codes" "COPY_LENGTH" "[I" 105 := ⟨h _ (by decide +kernel), h _ (by decide +kernel), fun j hj => h _ ((by decide +kernel : ∀ j, j < (mm_kd 105).2.2 → Cond.eq (.elem (.static "PictureFile$Codes" "COPY_LENGTH" "[I") (.int (Int32.ofNat j))) (.int (mm_sc 105 j)) ∈ flatC (Jvm.Cond.and given_1 narrow_1)) j hj)⟩
theorem st_106 {b : Array Value} {s : State} (h : ∀ w ∈ flatC (Jvm.Cond.and given_1 narrow_1), w.before b s = true) : st_ok b s "PictureFile$Codes" "COPY_LENGTH_BITS" "[I" 106 := ⟨h _ (by decide +kernel), h _ (by decide +kernel), fun j hj => h _ ((by decide +kernel : ∀ j, j < (mm_kd 106).2.2 → Cond.eq (.elem (.static "PictureFile$Codes" "COPY_LENGTH_BITS" "[I") (.int (Int32.ofNat j))) (.int (mm_sc 106 j)) ∈ flatC (Jvm.Cond.and given_1 narrow_1)) j hj)⟩
theorem st_107 {b : Array Value} {s : State} (h : ∀ w ∈ flatC (Jvm.Cond.and given_1 narrow_1), w.before b s = true) : st_ok b s "PictureFile$Codes" "DISTANCE" "[I" 107 := ⟨h _ (by decide +kernel), h _ (by decide +kernel), fun j hj => h _ ((by decide +kernel : ∀ j, j < (mm_kd 107).2.2 → Cond.eq (.elem (.static "PictureFile$Codes" "DISTANCE" "[I") (.int (Int32.ofNat j))) (.int (mm_sc 107 j)) ∈ flatC (Jvm.Cond.and given_1 narrow_1)) j hj)⟩
theorem st_108 {b : Array Value} {s : State} (h : ∀ w ∈ flatC (Jvm.Cond.and given_1 narrow_1), w.before b s = true) : st_ok b s "PictureFile$Codes" "DISTANCE_BITS" "[I" 108 := ⟨h _ (by decide +kernel), h _ (by decide +kernel), fun j hj => h _ ((by decide +kernel : ∀ j, j < (mm_kd 108).2.2 → Cond.eq (.elem (.static "PictureFile$Codes" "DISTANCE_BITS" "[I") (.int (Int32.ofNat j))) (.int (mm_sc 108 j)) ∈ flatC (Jvm.Cond.and given_1 narrow_1)) j hj)⟩
theorem st_109 {b : Array Value} {s : State} (h : ∀ w ∈ flatC (Jvm.Cond.and given_1 narrow_1), w.before b s = true) : st_ok b s "PictureFile$Unpacker" "ORDER" "[I" 109 := ⟨h _ (by decide +kernel), h _ (by decide +kernel), fun j hj => h _ ((by decide +kernel : ∀ j, j < (mm_kd 109).2.2 → Cond.eq (.elem (.static "PictureFile$Unpacker" "ORDER" "[I") (.int (Int32.ofNat j))) (.int (mm_sc 109 j)) ∈ flatC (Jvm.Cond.and given_1 narrow_1)) j hj)⟩
theorem st_use {b : Array Value} {s : State} {A : Nat → Prop} {c n d : String} {o : Nat} (h : st_ok b s c n d o) (hN : (mm_kd o).2.2 < 2 ^ 31) (hl : (Cond.laysStatic c n d).before b s = true) (hini : (Cond.initialized c).before b s = true) (hA : ∀ a : Nat, a < s.heap.size → ¬ A a) : ∃ t : Nat, va_Z c n d (.ref t) A s s.heap ∧ va_T .int t (mm_kd o).2.2 (fun j => .int (mm_sc o j)) A s s.heap := by
  obtain ⟨h1, h2, h3⟩ := h
  obtain ⟨t, ht, hT⟩ := va_Tof (f := fun j => .int (mm_sc o j)) (A := A) hN h1 (va_eqt h2) (fun j hj => va_eqt (h3 j hj)) hA
  exact ⟨t, va_Zof hl hini ht hA, hT⟩
def R_law : String := "PictureFileLaw"
def lw_P (b : Addr) (xs : List Int32) (args : Array Value) (s : State) : Prop := args = #[.ref b] ∧ s.IntsAt b xs ∧ xs.length ≤ 3584 ∧ (Jvm.Cond.and given_1 narrow_1).before args s = true
def lw_Q (_ : Array Value) (s : State) (o : Outcome) (t : State) : Prop := o = .returned (some (.int 1)) ∧ Framed s o t [] 601024 7293034
def lw_Z (below : List Frame) (a : Array Value) (s : State) : State → Prop := fun t => ∃ o, t.status = .running ∧ Ended t below o ∧ lw_Q a s o t
def lw_At (p : Program) (s : State) (m : MethodId) (meth : Method) (c : Code) (b L : Nat) (xs : Nat → Int32) : Prop :=
  p.tables.exec = Jvm.exec ∧ c.code = code ∧ meth.sig.returnType = ret ∧ c.maxLocals = 7 ∧ s.vm.findClass R_law = some m.cls ∧ (∀ w ∈ lw_tbl, w.before #[Value.ref b] s = true) ∧ va_X b L xs s s.heap ∧ b < s.heap.size ∧ meth.locks = false ∧ (Jvm.Cond.and given_1 narrow_1).before #[Value.ref b] s = true ∧ c.exceptionTable.toList = [] ∧ meth.name = "law"
/-- the flat memory as the law begins -/
def law_m0 : Mm := (fun _ => 0, fun _ => 0, fun _ => none, mm_sc, fun _ _ => 0)
theorem law_K {b : Array Value} {s : State} (hts : ∀ w ∈ kw_Ts, w.before b s = true) : ∃ (D : va_G) (cT : Nat → ClassId), va_K D mm_cl [(cT 2, .int), (cT 3, .byte), (cT 4, .long)] s := by
  have h0 : ∀ c : Nat, ∃ q : ClassId × (Nat → Nat), ∀ r, mm_cl[c]? = some r → u_Kn s r.1 r.2.1 r.2.2 q.1 q.2 := by
    intro c
    match c, trivial with
    | 0, hq => obtain ⟨cC, iS, h⟩ := u_known (C := mmR_0) (T := mmT_0) (N := 9) (n := 9) hts mmI_0 (hts _ (kw_m1 (i := 24) (by decide +kernel) (by decide +kernel))); exact ⟨(cC, iS), fun r hr => by cases hr; exact h⟩
    | 1, hq => obtain ⟨cC, iS, h⟩ := u_known (C := mmR_1) (T := mmT_1) (N := 3) (n := 3) hts mmI_1 (hts _ (kw_m1 (i := 32) (by decide +kernel) (by decide +kernel))); exact ⟨(cC, iS), fun r hr => by cases hr; exact h⟩
    | 2, hq => obtain ⟨cC, iS, h⟩ := u_known (C := mmR_2) (T := mmT_2) (N := 2) (n := 2) hts mmI_2 (hts _ (kw_m1 (i := 60) (by decide +kernel) (by decide +kernel))); exact ⟨(cC, iS), fun r hr => by cases hr; exact h⟩
    | 3, hq => obtain ⟨cC, iS, h⟩ := u_known (C := mmR_3) (T := mmT_3) (N := 2) (n := 2) hts mmI_3 (hts _ (kw_m1 (i := 77) (by decide +kernel) (by decide +kernel))); exact ⟨(cC, iS), fun r hr => by cases hr; exact h⟩
    | 4, hq => obtain ⟨cC, iS, h⟩ := u_known (C := mmR_4) (T := mmT_4) (N := 6) (n := 6) hts mmI_4 (hts _ (kw_m1 (i := 93) (by decide +kernel) (by decide +kernel))); exact ⟨(cC, iS), fun r hr => by cases hr; exact h⟩
    | 5, hq => obtain ⟨cC, iS, h⟩ := u_known (C := mmR_5) (T := mmT_5) (N := 8) (n := 8) hts mmI_5 (hts _ (kw_m1 (i := 120) (by decide +kernel) (by decide +kernel))); exact ⟨(cC, iS), fun r hr => by cases hr; exact h⟩
    | 6, hq => obtain ⟨cC, iS, h⟩ := u_known (C := mmR_6) (T := mmT_6) (N := 13) (n := 13) hts mmI_6 (hts _ (kw_m1 (i := 151) (by decide +kernel) (by decide +kernel))); exact ⟨(cC, iS), fun r hr => by cases hr; exact h⟩
    | 7, hq => obtain ⟨cC, iS, h⟩ := u_known (C := mmR_7) (T := mmT_7) (N := 5) (n := 5) hts mmI_7 (hts _ (kw_m1 (i := 157) (by decide +kernel) (by decide +kernel))); exact ⟨(cC, iS), fun r hr => by cases hr; exact h⟩
    | 8, hq => obtain ⟨cC, iS, h⟩ := u_known (C := mmR_8) (T := mmT_8) (N := 4) (n := 4) hts mmI_8 (hts _ (kw_m1 (i := 230) (by decide +kernel) (by decide +kernel))); exact ⟨(cC, iS), fun r hr => by cases hr; exact h⟩
    | 9, hq => obtain ⟨cC, iS, h⟩ := u_known (C := mmR_9) (T := mmT_9) (N := 9) (n := 9) hts mmI_9 (hts _ (kw_m1 (i := 236) (by decide +kernel) (by decide +kernel))); exact ⟨(cC, iS), fun r hr => by cases hr; exact h⟩
    | 10, hq => obtain ⟨cC, iS, h⟩ := u_known (C := mmR_10) (T := mmT_10) (N := 12) (n := 12) hts mmI_10 (hts _ (kw_m2 (i := 44) (by decide +kernel) (by decide +kernel))); exact ⟨(cC, iS), fun r hr => by cases hr; exact h⟩
    | 11, hq => obtain ⟨cC, iS, h⟩ := u_known (C := mmR_11) (T := mmT_11) (N := 10) (n := 10) hts mmI_11 (hts _ (kw_m2 (i := 50) (by decide +kernel) (by decide +kernel))); exact ⟨(cC, iS), fun r hr => by cases hr; exact h⟩
    | 12, hq => obtain ⟨cC, iS, h⟩ := u_known (C := mmR_12) (T := mmT_12) (N := 57) (n := 57) hts mmI_12 (hts _ (kw_m5 (i := 136) (by decide +kernel) (by decide +kernel))); exact ⟨(cC, iS), fun r hr => by cases hr; exact h⟩
    | c + 13, _ => exact ⟨(0, fun _ => 0), fun r hr => by rw [List.getElem?_eq_none (by show 13 ≤ c + 13; omega)] at hr; cases hr⟩
  obtain ⟨g, hg⟩ := Classical.axiomOfChoice h0
  obtain ⟨c2, k2, m2, a2, a3, a4⟩ := Cond.arrayClass_spec (hts _ ac_int)
  obtain ⟨c3, k3, m3, b2, b3, b4⟩ := Cond.arrayClass_spec (hts _ ac_byte)
  obtain ⟨c4, k4, m4, d2, d3, d4⟩ := Cond.arrayClass_spec (hts _ ac_long)
  refine ⟨(fun c => (g c).1, fun c => (g c).2), fun k => if k = 2 then c2 else if k = 3 then c3 else c4, fun c q hq => hg c q hq, fun k q hq => ?_⟩
  match k, hq with
  | 0, hq => cases hq; exact ⟨fun n z => ⟨fun k h => (by cases h), k2, a3, m2, a4⟩, a2⟩
  | 1, hq => cases hq; exact ⟨fun n z => ⟨fun k h => (by cases h), k3, b3, m3, b4⟩, b2⟩
  | 2, hq => cases hq; exact ⟨fun n z => ⟨fun k h => (by cases h), k4, d3, m4, d4⟩, d2⟩
theorem law_Th {b : Array Value} {s : State} (htb : ∀ w ∈ lw_tbl, w.before b s = true) (hfl : ∀ w ∈ flatC (Jvm.Cond.and given_1 narrow_1), w.before b s = true) (hA : ∀ a : Nat, a < s.heap.size → ¬ s.heap.size ≤ a) : kw_Th s.heap.size s :=
  ⟨⟨va_Zqof (htb _ (lw_in (i := 735) (by decide +kernel))) (htb _ (lw_in (i := 15) (by decide +kernel))) (hfl _ (by decide +kernel)) hA, kw_Lt.of (htb _ (lw_in (i := 735) (by decide +kernel))) hA⟩, ⟨va_Zqof (htb _ (lw_in (i := 737) (by decide +kernel))) (htb _ (lw_in (i := 15) (by decide +kernel))) (hfl _ (by decide +kernel)) hA, kw_Lt.of (htb _ (lw_in (i := 737) (by decide +kernel))) hA⟩,
    List.forall_mem_cons.mpr ⟨va_Nw.of rfl (htb _ (lw_in (i := 794) (by decide +kernel))), List.forall_mem_cons.mpr ⟨va_Nw.of rfl (htb _ (lw_in (i := 832) (by decide +kernel))), List.forall_mem_cons.mpr ⟨va_Nw.of rfl (htb _ (lw_in (i := 859) (by decide +kernel))), List.forall_mem_cons.mpr ⟨va_Nw.of rfl (htb _ (lw_in (i := 710) (by decide +kernel))), fun _ h => nomatch h⟩⟩⟩⟩,
    List.forall_mem_cons.mpr ⟨va_Nc.of (hfl _ (by decide +kernel)), List.forall_mem_cons.mpr ⟨va_Nc.of (hfl _ (by decide +kernel)), List.forall_mem_cons.mpr ⟨va_Nc.of (hfl _ (by decide +kernel)), List.forall_mem_cons.mpr ⟨va_Nc.of (hfl _ (by decide +kernel)), List.forall_mem_cons.mpr ⟨va_Nc.of (hfl _ (by decide +kernel)), fun _ h => nomatch h⟩⟩⟩⟩⟩,
    List.forall_mem_cons.mpr ⟨va_Nw.of rfl (htb _ (lw_in (i := 711) (by decide +kernel))), List.forall_mem_cons.mpr ⟨va_Nw.of rfl (htb _ (lw_in (i := 713) (by decide +kernel))), List.forall_mem_cons.mpr ⟨va_Nw.of rfl (htb _ (lw_in (i := 715) (by decide +kernel))), fun _ h => nomatch h⟩⟩⟩⟩
theorem law_St {b : Array Value} {s : State} (htb : ∀ w ∈ lw_tbl, w.before b s = true) (hfl : ∀ w ∈ flatC (Jvm.Cond.and given_1 narrow_1), w.before b s = true) : ∃ (D : va_G) (cT : Nat → ClassId) (sa : Nat → Nat), kw_St D cT s.heap.size sa s := by
  have hA : ∀ a : Nat, a < s.heap.size → ¬ s.heap.size ≤ a := fun a h => Nat.not_le.mpr h
  obtain ⟨D, cT, hK⟩ := law_K (b := b) (s := s) (fun w hw => htb w (List.mem_filter.mp hw).1)
  obtain ⟨t100, z100, v100⟩ := st_use (A := fun a => s.heap.size ≤ a) (st_100 hfl) (by decide) (htb _ (lw_in (i := 455) (by decide +kernel))) (htb _ (lw_in (i := 2) (by decide +kernel))) hA
  obtain ⟨t101, z101, v101⟩ := st_use (A := fun a => s.heap.size ≤ a) (st_101 hfl) (by decide) (htb _ (lw_in (i := 530) (by decide +kernel))) (htb _ (lw_in (i := 13) (by decide +kernel))) hA
  obtain ⟨t102, z102, v102⟩ := st_use (A := fun a => s.heap.size ≤ a) (st_102 hfl) (by decide) (htb _ (lw_in (i := 532) (by decide +kernel))) (htb _ (lw_in (i := 13) (by decide +kernel))) hA
  obtain ⟨t103, z103, v103⟩ := st_use (A := fun a => s.heap.size ≤ a) (st_103 hfl) (by decide) (htb _ (lw_in (i := 534) (by decide +kernel))) (htb _ (lw_in (i := 13) (by decide +kernel))) hA
  obtain ⟨t104, z104, v104⟩ := st_use (A := fun a => s.heap.size ≤ a) (st_104 hfl) (by decide) (htb _ (lw_in (i := 540) (by decide +kernel))) (htb _ (lw_in (i := 13) (by decide +kernel))) hA
  obtain ⟨t105, z105, v105⟩ := st_use (A := fun a => s.heap.size ≤ a) (st_105 hfl) (by decide) (htb _ (lw_in (i := 621) (by decide +kernel))) (htb _ (lw_in (i := 8) (by decide +kernel))) hA
  obtain ⟨t106, z106, v106⟩ := st_use (A := fun a => s.heap.size ≤ a) (st_106 hfl) (by decide) (htb _ (lw_in (i := 623) (by decide +kernel))) (htb _ (lw_in (i := 8) (by decide +kernel))) hA
  obtain ⟨t107, z107, v107⟩ := st_use (A := fun a => s.heap.size ≤ a) (st_107 hfl) (by decide) (htb _ (lw_in (i := 625) (by decide +kernel))) (htb _ (lw_in (i := 8) (by decide +kernel))) hA
  obtain ⟨t108, z108, v108⟩ := st_use (A := fun a => s.heap.size ≤ a) (st_108 hfl) (by decide) (htb _ (lw_in (i := 627) (by decide +kernel))) (htb _ (lw_in (i := 8) (by decide +kernel))) hA
  obtain ⟨t109, z109, v109⟩ := st_use (A := fun a => s.heap.size ≤ a) (st_109 hfl) (by decide) (htb _ (lw_in (i := 638) (by decide +kernel))) (htb _ (lw_in (i := 7) (by decide +kernel))) hA
  refine ⟨D, cT, fun o => if o = 100 then t100 else if o = 101 then t101 else if o = 102 then t102 else if o = 103 then t103 else if o = 104 then t104 else if o = 105 then t105 else if o = 106 then t106 else if o = 107 then t107 else if o = 108 then t108 else if o = 109 then t109 else 0, Nat.le_refl _, ?_, hK, ?_, ?_, law_Th htb hfl hA⟩
  · exact List.forall_mem_cons.mpr ⟨va_Nw.of rfl (htb _ (lw_in (i := 61) (by decide +kernel))), List.forall_mem_cons.mpr ⟨va_Nw.of rfl (htb _ (lw_in (i := 78) (by decide +kernel))), List.forall_mem_cons.mpr ⟨va_Nw.of rfl (htb _ (lw_in (i := 158) (by decide +kernel))), List.forall_mem_cons.mpr ⟨va_Nw.of rfl (htb _ (lw_in (i := 285) (by decide +kernel))), List.forall_mem_cons.mpr ⟨va_Nw.of rfl (htb _ (lw_in (i := 291) (by decide +kernel))), fun _ h => nomatch h⟩⟩⟩⟩⟩
  · exact List.forall_mem_cons.mpr ⟨z100, List.forall_mem_cons.mpr ⟨z101, List.forall_mem_cons.mpr ⟨z102, List.forall_mem_cons.mpr ⟨z103, List.forall_mem_cons.mpr ⟨z104, List.forall_mem_cons.mpr ⟨z105, List.forall_mem_cons.mpr ⟨z106, List.forall_mem_cons.mpr ⟨z107, List.forall_mem_cons.mpr ⟨z108, List.forall_mem_cons.mpr ⟨z109, fun _ h => nomatch h⟩⟩⟩⟩⟩⟩⟩⟩⟩⟩
  · intro o ho
    obtain ⟨h1, h2⟩ := mm_kd5 o ho
    match o, h1, h2 with
    | 100, _, _ => exact v100
    | 101, _, _ => exact v101
    | 102, _, _ => exact v102
    | 103, _, _ => exact v103
    | 104, _, _ => exact v104
    | 105, _, _ => exact v105
    | 106, _, _ => exact v106
    | 107, _, _ => exact v107
    | 108, _, _ => exact v108
    | 109, _, _ => exact v109
/-- THE LAW's END: where its function gives 1, the law answers true -/
theorem whole_start {p : Program} {e : Env} {s : State} {m : MethodId} {below : List Frame} {meth : Method} {c : Code} (l : Launch) (hlt : l.stackTraces = false) {b L : Nat} {xs : Nat → Int32} (C0 : lw_At p s m meth c b L xs) {n : Nat} {σ' : Mm} (hF : F_law n 513 L xs law_m0 = some (1, σ')) : W p l e room_1 s m #[Value.ref b] below meth c s.heap [] 0 0 (lw_Z below #[Value.ref b] s) (entryFrame m ([Value.ref b] : List Value).toArray 7) := by
  obtain ⟨hx, hb, hr, hml, hown, hts, hX, hbl, hlocks, hgv, htb, hnm⟩ := id C0
  obtain ⟨D, cT, sa, hSt⟩ := law_St hts (flat_of_before _ hgv)
  have hR : mm_Rel D cT s.heap.size sa [] (fun o => if o = 0 then b else sa o) law_m0 s.heap := by
    refine ⟨fun k q h => by simp [mm_W] at h, ⟨fun i j p q h => by simp [mm_W] at h, fun k q h => by simp [mm_W] at h⟩, (fun o h => nomatch h), fun o ho => ⟨?_, rfl⟩, (fun o h => nomatch h)⟩
    have h9 := (mm_kd5 o ho).1
    exact if_neg (by omega)
  have C : kw_Cx (p, l, e, room_1, s, m, #[Value.ref b], below, meth, c, D, cT, s.heap.size, sa, 7, fun o => kw_End D cT s.heap.size sa [] law_nw (fun o => if o = 0 then b else sa o) room_1.cells room_1.slots below s o) l "PictureFileLaw" code (some .boolean) "law" [] 7 room_1 :=
    ⟨hx, hb, hml, hown, fun w hw => hts w (List.mem_filter.mp hw).1, hSt, hlt, hlocks, htb, hr, hnm, rfl, rfl, rfl⟩
  have hl := lv_entry ([.ref b]) (n := 7) (Nat.le_of_ble_eq_true rfl)
  rw [lg_entry_eq]
  have hh : lv_has (lg_sl ([.ref b]) ++ List.replicate (7 - (lg_sl ([.ref b])).length) Slot.unset).toArray 7 (kw_as (fun o => if o = 0 then b else sa o) [some (.ref 0), none, none, none, none, none, none]) := hl
  refine kw_mono (fun t ht => ?_) (law_start (ad := fun o => if o = 0 then b else sa o) hlt n 513 (by decide) C rfl ⟨hX, hbl, Nat.not_le.mpr hbl⟩ rfl law_m0 _ hF s.heap [] _ hR va_S.rf hh)
  obtain ⟨oc, h1, h2, ⟨L9, h3, h4, h5⟩, h6, -⟩ := ht
  rcases h6 with ⟨v, e1, e2⟩ | ⟨E, q9, ce, e1, -⟩
  · cases e1
    subst e2
    exact ⟨_, h1, h2, rfl, ⟨_, rfl⟩, h3, h4.weaken (fun y hy hlt9 => absurd hlt9 (Nat.not_lt.mpr (h5 y hy))) (Nat.le_refl _) (Nat.le_refl _)⟩
  · cases e1
/-- WHAT IS LEFT: the law's function gives 1 on every script (mathematics alone) -/
def law_math : Prop := ∀ (N : Nat) (xs : Nat → Int32), N ≤ 3584 → ∃ (n : Nat) (σ' : Mm), F_law n 513 N xs law_m0 = some (1, σ')
set_option maxHeartbeats 4000000 in
theorem lw_walk (hmath : law_math) (l : Launch) (hlt : l.stackTraces = false) (b : Addr) (xs : List Int32) : MetFree l x (headSpec (Jvm.Cond.code x code maxLocals ret :: tables_1) room_1) (lw_P b xs) (fun _ _ _ _ _ => True) lw_Q := by
  refine MetFree.of_bodyS (code := code) (maxLocals := maxLocals) (ret := ret) (by decide) ?_ ?_
  · intro args s m h hn
    obtain ⟨meth, c, h1, h2, h3, h4, h5, h6, -, -⟩ := Cond.code_spec hn (atoms_spec (ws := Jvm.Cond.code x code maxLocals ret :: tables_1) h _ List.mem_cons_self)
    exact ⟨meth, c, h1, h2, h3, h4, h5, h6⟩
  · intro p e s m args below meth c s₁ B hml0 hP _
    obtain ⟨rfl, hx, hbd, hgv⟩ := hP
    obtain ⟨scr, harrAt, hlist, hof, hsmall⟩ := hx
    obtain ⟨hcb, hkn, -, -⟩ := State.arrayAt?_spec harrAt
    have hown : s.vm.findClass R_law = some m.cls := findClass_of_methodNamed B.named
    have hts0 : ∀ c ∈ (Jvm.Cond.code x code maxLocals ret :: tables_1), c.before #[Value.ref b] s = true := atoms_spec (ws := Jvm.Cond.code x code maxLocals ret :: tables_1) B.pre
    have hts : ∀ w ∈ lw_tbl, w.before #[Value.ref b] s = true := k2_hts_sels lw_privs (fun w hw => hts0 w (List.mem_cons_of_mem _ hw)) lw_privs_ok
    have hml : c.maxLocals = 7 := B.maxLocals_eq (hts0 _ List.mem_cons_self)
    have X₀ : Stand p l e room_1 s m #[Value.ref b] below meth c s₁ [] 0 0 := Stand.of_body B
    have hh0 : s₁.heap = s.heap := by rw [B.state]; rfl
    have hsz : scr.slots.size = xs.length := by rw [← Array.length_toList, hlist, List.length_map]
    have hval : ∀ j : Nat, j < xs.length → scr.slots[j]? = some (.int (xs.getD j 0)) := fun j hj => by
      rw [← Array.getElem?_toList, hlist]
      simp [hj]
    have hbl : b < s.heap.size := (Array.getElem?_eq_some_iff.mp hcb).1
    have hX : va_X b xs.length (fun j => xs.getD j 0) s s.heap := ⟨scr, hcb, hof, hkn, hsz, hval⟩
    have K : W p l e room_1 s m #[Value.ref b] below meth c s₁.heap [] 0 0 (lw_Z below #[Value.ref b] s) (entryFrame m ([Value.ref b] : List Value).toArray 7) := by
      rw [hh0]
      have hex : c.exceptionTable.toList = [] := by
        have h7 := B.noHandlers (hts0 _ List.mem_cons_self)
        rw [Array.isEmpty_iff.mp h7]
      obtain ⟨n, σ', hF⟩ := hmath xs.length (fun j => xs.getD j 0) hbd
      exact whole_start l hlt ⟨B.exec, B.bytes, B.returns, hml, hown, hts, hX, hbl, B.notSynchronized, hgv, hex, (name_of_methodNamed B.named B.method).1⟩ hF
    obtain ⟨t, a1, o, b1, b2, b3⟩ := K s₁ rfl X₀
    exact ⟨t, o, a1, b1, b2, b3⟩
theorem lw_pre_spec {args : Array Value} {s : State} (h : (Jvm.Cond.and given_1 narrow_1).before args s = true) (hr : rest_1_c.before args s = true) : ∃ (b : Addr) (xs : List Int32), lw_P b xs args s := by
  have hs := flat_of_before _ h
  have hq := flat_of_before _ hr
  have hc : (Cond.count 1).before args s = true := hs _ (by decide +kernel)
  have harr : (Cond.arrayOf (.arg 0) .int).before args s = true := hs _ (by decide +kernel)
  have hle : (Cond.le (.length (.arg 0)) (.int 3584)).before args s = true := hs _ (by decide +kernel)
  have hlen : (Cond.isInt (.length (.arg 0))).before args s = true := hq _ (by decide +kernel)
  have hall : (Cond.all (.arg 0) (.isInt (.elem (.arg 0) (.index 0)))).before args s = true := hq _ (by decide +kernel)
  obtain ⟨b, xs, hb, hx⟩ := State.ints_of_pre rfl harr hlen hall
  have hsm : xs.length < 2 ^ 31 := hx.choose_spec.2.2.2
  have hev : (Term.length (.arg 0)).eval args s none [] s = some (.int xs.length.toInt32) := hx.length_eval hb
  have hv := Cond.le_ints hev (show (Term.int 3584).eval args s none [] s = some (.int 3584) from rfl)
  have hd : xs.length.toInt32 ≤ 3584 := by
    simpa [Cond.before, Cond.holds, hv] using hle
  have hN : xs.length ≤ 3584 := (Int32.ofNat_le_ofNat hsm (by decide)).mp (show Int32.ofNat xs.length ≤ Int32.ofNat 3584 from hd)
  exact ⟨b, xs, Cond.one_arg hc (show args[0]? = some (.ref b) from hb), hx, hN, h⟩
theorem lw_comes (hmath : law_math) (l : Launch) (hlt : l.stackTraces = false) : Comes l x (Jvm.Cond.code x code maxLocals ret :: tables_1) room_1 (fun tb e args s => Calls_1 tb e args s ∧ rest_1 tb e args s ∧ Pre_1 tb e args s)
    (fun _ _ args s o t => lw_Q args s o t) := by
  intro p e ha hc hk s m args below hf hfit hheap happ hpre
  obtain ⟨b, xs, hP⟩ := lw_pre_spec hpre.2.2 hpre.2.1
  obtain ⟨k, o, h1, h2, h3, hQ⟩ := lw_walk hmath l hlt b xs p e ha hc hk s m args below hf ((Spec.applies_iff_loose hf).mp happ).1 hP trivial
  exact ⟨k, o, h1, h2, h3, hQ⟩
theorem lw_frame {s t : State} {o : Outcome} {args : Array Value} (h : Framed s o t [] 601024 7293034) :
    Framed s o t (fieldLocs frame_1_writes args s ++ arrayLocs frame_1_arrays args s ++ staticLocs frame_1_statics s) 601024 7293034 := h
theorem lw_limb (hmath : law_math) (L : Cond) (hL : ∀ (args : Array Value) (s t : State), L.after args s (.returned (some (.int 1))) t = true) :
    ArmFor flags0 classFile x code maxLocals ret World_1 tables_1 room_1 Calls_1 rest_1 Pre_1
      (fun tb e a s o t => postC L tb e a s o t ∧ Framed s o t (fieldLocs frame_1_writes a s ++ arrayLocs frame_1_arrays a s ++ staticLocs frame_1_statics s) 601024 7293034) := by
  intro l hfl _ _ p e ha hc hk s m args below hf hfit hheap happ hpre
  obtain ⟨k, o, h1, h2, h3, rfl, hF⟩ := lw_comes hmath l (by unfold Launch.stackTraces; rw [hfl]; decide +kernel) p e ha hc hk s m args below hf hfit hheap happ hpre
  exact ⟨k, _, h1, h2, h3, hL args s _, lw_frame hF⟩
theorem law_vc (hmath : law_math) : Claimed_1_1 ∧ Claimed_1_2 := ⟨lw_limb hmath limb_1_1 (fun args s t => by simp [limb_1_1, Cond.after, Cond.holds, Cond.value]), lw_limb hmath limb_1_2 (fun args s t => Cond.after_iff.mpr (by
  first | (rw [show limb_1_2 = Cond.eq .result (.int 1) from rfl, Cond.eq_ints (x := 1) (y := 1) rfl rfl]; simp; done) | (simp [limb_1_2, Cond.value, Term.eval]; done)))⟩
