/-! A WALK WITH ITS FUNCTION: 'KW .. f pc L st σ' says: if the function f (what is still to be done, decompiled) gives x, the machine at pc, with locals L, stack st and memory σ, comes to the end that x tells. -/
abbrev kw_G := Program × Launch × Env × Room × State × MethodId × Array Value × List Frame × Method × Code × va_G × (Nat → ClassId) × Nat × (Nat → Nat) × Nat × ((Option Value ⊕ String) × Mm → State → Prop)
/-- what the locals hold -/
def kw_as (ad : Nat → Nat) (L : List (Option Value)) : List (Nat × Value) := (List.range L.length).filterMap (fun i => match L[i]? with
  | some (some v) => some (i, kw_tr ad v)
  | _ => none)
theorem kw_as_mem {ad : Nat → Nat} {L : List (Option Value)} {q : Nat × Value} : q ∈ kw_as ad L ↔ ∃ v, L[q.1]? = some (some v) ∧ q.2 = kw_tr ad v := by
  unfold kw_as
  constructor
  · intro h
    obtain ⟨i, -, h⟩ := List.mem_filterMap.mp h
    split at h
    · next v hv => cases h; exact ⟨v, hv, rfl⟩
    · cases h
  · rintro ⟨v, hv, e⟩
    refine List.mem_filterMap.mpr ⟨q.1, List.mem_range.mpr (List.getElem?_eq_some_iff.mp hv).1, ?_⟩
    rw [hv]
    obtain ⟨q1, q2⟩ := q
    simp only at e
    rw [e]
theorem kw_at {ad : Nat → Nat} {L : List (Option Value)} {ls : Array Slot} {nL i : Nat} {v : Value} (h : lv_has ls nL (kw_as ad L)) (hi : L[i]? = some (some v)) : ls[i]? = some (.val (kw_tr ad v)) := h.2.2 (i, kw_tr ad v) (kw_as_mem.mpr ⟨v, hi, rfl⟩)
def kw_kl : Option Value → Option Value
  | some (.long _) => none
  | some (.double _) => none
  | x => x
theorem kw_kl_of {a : Option Value} {w : Value} (h : kw_kl a = some w) : a = some w ∧ ¬ w.category = 2 := by
  cases a with
  | none => simp [kw_kl] at h
  | some x => cases x <;> simp [kw_kl] at h <;> subst h <;> simp [Value.category]
/-- a value of one slot is stored -/
def kw_st1 : List (Option Value) → Nat → Value → List (Option Value)
  | [], _, _ => []
  | _ :: t, 0, v => some v :: t
  | a :: t, 1, v => kw_kl a :: kw_st1 t 0 v
  | a :: t, n + 2, v => a :: kw_st1 t (n + 1) v
theorem kw_st1_at : ∀ (L : List (Option Value)) (i : Nat) (v : Value) (j : Nat) (w : Value), (kw_st1 L i v)[j]? = some (some w) → (j = i ∧ w = v) ∨ (j ≠ i ∧ L[j]? = some (some w) ∧ ¬ (j + 1 = i ∧ w.category = 2)) := by
  intro L
  induction L with
  | nil => intro i v j w h; simp [kw_st1] at h
  | cons a t ih =>
    intro i v j w h
    match i with
    | 0 =>
      cases j with
      | zero =>
        simp [kw_st1] at h
        exact Or.inl ⟨rfl, h.symm⟩
      | succ j =>
        simp [kw_st1] at h
        exact Or.inr ⟨by omega, by simpa using h, fun z => by omega⟩
    | 1 =>
      cases j with
      | zero =>
        simp [kw_st1] at h
        obtain ⟨h1, h2⟩ := kw_kl_of h
        exact Or.inr ⟨by omega, by simpa using h1, fun z => h2 z.2⟩
      | succ j =>
        simp [kw_st1] at h
        rcases ih 0 v j w h with ⟨e1, e2⟩ | ⟨e1, e2, e3⟩
        · exact Or.inl ⟨by omega, e2⟩
        · exact Or.inr ⟨by omega, by simpa using e2, fun z => by omega⟩
    | n + 2 =>
      cases j with
      | zero =>
        simp [kw_st1] at h
        exact Or.inr ⟨by omega, by simpa using h, fun z => by omega⟩
      | succ j =>
        simp [kw_st1] at h
        rcases ih (n + 1) v j w h with ⟨e1, e2⟩ | ⟨e1, e2, e3⟩
        · exact Or.inl ⟨by omega, e2⟩
        · exact Or.inr ⟨by omega, by simpa using e2, fun z => e3 ⟨by omega, z.2⟩⟩
theorem kw_has1 {ad : Nat → Nat} {L : List (Option Value)} {ls : Array Slot} {nL i : Nat} {v : Value} (h : lv_has ls nL ((i, kw_tr ad v) :: (kw_as ad L).filter (fun q => !(q.1 == i) && !(q.1 + 1 == i && q.2.category == 2)))) : lv_has ls nL (kw_as ad (kw_st1 L i v)) := by
  refine ⟨h.1, h.2.1, fun q hq => ?_⟩
  obtain ⟨w, hw, e⟩ := kw_as_mem.mp hq
  apply h.2.2
  obtain ⟨q1, q2⟩ := q
  simp only at hw e
  rcases kw_st1_at L i v q1 w hw with ⟨e1, e2⟩ | ⟨e1, e2, e3⟩
  · rw [e, e1, e2]; exact List.mem_cons_self
  · refine List.mem_cons_of_mem _ (List.mem_filter.mpr ⟨kw_as_mem.mpr ⟨w, e2, e⟩, ?_⟩)
    simp only [e, kw_trc]
    simp [e1]
    by_cases z9 : q1 + 1 = i
    · exact Or.inr fun b => e3 ⟨z9, b⟩
    · exact Or.inl z9
/-- a value of two slots is stored -/
def kw_st2 (L : List (Option Value)) (i : Nat) (v : Value) : List (Option Value) := kw_st1 (L.set (i + 1) none) i v
theorem kw_has2 {ad : Nat → Nat} {L : List (Option Value)} {ls : Array Slot} {nL i : Nat} {v : Value} (h : lv_has ls nL ((i, kw_tr ad v) :: (kw_as ad L).filter (fun q => !(q.1 == i) && (!(q.1 == i + 1) && !(q.1 + 1 == i && q.2.category == 2))))) : lv_has ls nL (kw_as ad (kw_st2 L i v)) := by
  refine ⟨h.1, h.2.1, fun q hq => ?_⟩
  obtain ⟨w, hw, e⟩ := kw_as_mem.mp hq
  apply h.2.2
  obtain ⟨q1, q2⟩ := q
  simp only at hw e
  unfold kw_st2 at hw
  rcases kw_st1_at _ i v q1 w hw with ⟨e1, e2⟩ | ⟨e1, e2, e3⟩
  · rw [e, e1, e2]; exact List.mem_cons_self
  · have hne : q1 ≠ i + 1 := by
      intro z
      rw [z, List.getElem?_set] at e2
      simp at e2
    rw [List.getElem?_set_ne (Ne.symm hne)] at e2
    refine List.mem_cons_of_mem _ (List.mem_filter.mpr ⟨kw_as_mem.mpr ⟨w, e2, e⟩, ?_⟩)
    simp only [e, kw_trc]
    simp [e1, hne]
    by_cases z9 : q1 + 1 = i
    · exact Or.inr fun b => e3 ⟨z9, b⟩
    · exact Or.inl z9
/-- the locals with which a method begins -/
def kw_en : List Value → List (Option Value)
  | [] => []
  | .long x :: t => some (.long x) :: none :: kw_en t
  | .double x :: t => some (.double x) :: none :: kw_en t
  | v :: t => some v :: kw_en t
theorem kw_en_args (ad : Nat → Nat) : ∀ (vs : List Value) (k j : Nat) (w : Value), (kw_en vs)[j]? = some (some w) → (k + j, kw_tr ad w) ∈ lv_args k (vs.map (kw_tr ad)) := by
  intro vs
  induction vs with
  | nil => intro k j w h; simp [kw_en] at h
  | cons v t ih =>
    intro k j w h
    cases v with
    | long x =>
      match j with
      | 0 => simp [kw_en] at h; subst h; exact List.mem_cons_self
      | 1 => simp [kw_en] at h
      | j + 2 =>
        simp [kw_en] at h
        have := ih (k + 2) j w h
        rw [show k + (j + 2) = k + 2 + j by omega]
        exact List.mem_cons_of_mem _ this
    | double x =>
      match j with
      | 0 => simp [kw_en] at h; subst h; exact List.mem_cons_self
      | 1 => simp [kw_en] at h
      | j + 2 =>
        simp [kw_en] at h
        have := ih (k + 2) j w h
        rw [show k + (j + 2) = k + 2 + j by omega]
        exact List.mem_cons_of_mem _ this
    | _ =>
      cases j with
      | zero => simp [kw_en] at h; subst h; exact List.mem_cons_self
      | succ j =>
        simp [kw_en] at h
        have := ih (k + 1) j w h
        rw [show k + (j + 1) = k + 1 + j by omega]
        exact List.mem_cons_of_mem _ this
/-- what the tables and the old heap say, of a state -/
def kw_St (D : va_G) (cT : Nat → ClassId) (base : Nat) (sa : Nat → Nat) (U : State) : Prop :=
  base ≤ U.heap.size ∧ (∀ w ∈ mm_nest, va_Nw w U) ∧ va_K D mm_cl [(cT 2, .int), (cT 3, .byte), (cT 4, .long)] U ∧
  (∀ q ∈ mm_stat, va_Z q.1 q.2.1 q.2.2.1 (.ref (sa q.2.2.2)) (fun a => base ≤ a) U U.heap) ∧
  (∀ o, (mm_kd o).1 = 5 → va_T .int (sa o) (mm_kd o).2.2 (fun j => .int (mm_sc o j)) (fun a => base ≤ a) U U.heap) ∧
  kw_Th base U
def kw_isN : Cond → Bool
  | .fieldLinkNest _ _ _ _ _ _ => true
  | .methodLinkNest _ _ _ _ => true
  | _ => false
theorem mm_nest_ok : mm_nest.all kw_isN = true := by decide
theorem kw_nest_moved {w : Cond} {s U : State} (hn : kw_isN w = true) (hW : s.WarmedH U.vm) (h : va_Nw w s) : va_Nw w U := by
  cases w <;> first | exact va_Nw.warmF hW h | exact va_Nw.warmM hW h | cases hn
theorem kw_nest_same {w : Cond} {u U : State} (hn : kw_isN w = true) (h : u.vm = U.vm) (hZ : va_Nw w u) : va_Nw w U := by
  cases w <;> first | exact va_Nw.same rfl h hZ | cases hn
theorem kw_St.moved {D : va_G} {cT : Nat → ClassId} {base : Nat} {sa : Nat → Nat} {s U : State} {H : Heap} {locs : List Loc} (h : kw_St D cT base sa s) (hS : va_S (fun q => base ≤ q) s.heap H locs) (hU : U.heap = H) (hW : s.WarmedH U.vm) : kw_St D cT base sa U := by
  obtain ⟨h1, h2, h3, h4, h5, h6⟩ := h
  subst hU
  exact ⟨Nat.le_trans h1 hS.1, fun w hw => kw_nest_moved (List.all_eq_true.mp mm_nest_ok w hw) hW (h2 w hw), va_K.moved hW.alike h3,
    fun q hq => va_Z.moved hW.alike ((h4 q hq).kept hS.2.1), fun o ho => va_T.moved hW.alike ((h5 o ho).kept hS.2.1),
    kw_Th.moved h6 hS rfl hW⟩
theorem kw_St.calling {D : va_G} {cT : Nat → ClassId} {base : Nat} {sa : Nat → Nat} {U : State} {g : JFrame} {mk : MethodId} {a : Array Value} (h : kw_St D cT base sa U) : kw_St D cT base sa (U.calling g mk a) := by
  obtain ⟨h1, h2, h3, h4, h5, h6⟩ := h
  exact ⟨h1, fun w hw => kw_nest_same (List.all_eq_true.mp mm_nest_ok w hw) (u := U) (U := U.calling g mk a) rfl (h2 w hw), va_K.moved (u := U) (U := U.calling g mk a) (Vm.Alike.refl U.vm) h3,
    fun q hq => va_Z.moved (u := U) (U := U.calling g mk a) (Vm.Alike.refl U.vm) (h4 q hq), fun o ho => va_T.moved (u := U) (U := U.calling g mk a) (Vm.Alike.refl U.vm) (h5 o ho),
    kw_Th.calling h6⟩
/-- how a method ends, by its function's value o: what it returned or threw, what the heap is, what it wrote and made -/
def kw_Rs (ids nw : List Nat) (ad : Nat → Nat) (D : va_G) (cT : Nat → ClassId) (base : Nat) (sa : Nat → Nat) (σ : Mm) (st t : State) : Prop := (∃ ad' : Nat → Nat, (∀ q, q ∉ nw → ad' q = ad q) ∧ mm_Rel D cT base sa (ids ++ nw) ad' σ t.heap) ∧ va_F (fun q => base ≤ q) st t
def kw_Oc (o : Option Value ⊕ String) (st : State) (oc : Outcome) (t : State) : Prop := (∃ v, o = .inl v ∧ oc = .returned v) ∨ ∃ (E : String) (q : Addr) (ce : Cell), o = .inr E ∧ oc = .threw q ∧ t.heap[q]? = some ce ∧ ce.vm = .none ∧ st.vm.findClass E = some ce.cls
def kw_Q (D : va_G) (cT : Nat → ClassId) (base : Nat) (sa : Nat → Nat) (ids nw : List Nat) (ad : Nat → Nat) (mc ms : Nat) (o : (Option Value ⊕ String) × Mm) : State → Outcome → State → Prop := fun st oc t =>
  (∃ L : List Loc, st.WarmedH t.vm ∧ st.sameButNew ({ t with vm := st.vm } : State) L mc ms ∧ ∀ z ∈ L, base ≤ z.base) ∧ kw_Oc o.1 st oc t ∧ kw_Rs ids nw ad D cT base sa o.2 st t
def kw_End (D : va_G) (cT : Nat → ClassId) (base : Nat) (sa : Nat → Nat) (ids nw : List Nat) (ad : Nat → Nat) (mc ms : Nat) (below : List Frame) (s : State) (o : (Option Value ⊕ String) × Mm) : State → Prop := fun t => ∃ oc, t.status = .running ∧ Ended t below oc ∧ kw_Q D cT base sa ids nw ad mc ms o s oc t
def kw_Pc (D : va_G) (cT : Nat → ClassId) (base : Nat) (sa : Nat → Nat) (ids : List Nat) (ad : Nat → Nat) (vs : List Value) (σ : Mm) : Array Value → State → Prop := fun a U =>
  a = (vs.map (kw_tr ad)).toArray ∧ kw_St D cT base sa U ∧ mm_Rel D cT base sa ids ad σ U.heap
theorem kw_blind {D : va_G} {cT : Nat → ClassId} {base : Nat} {sa : Nat → Nat} {ids : List Nat} {ad : Nat → Nat} {vs : List Value} {σ : Mm} : FrameBlind (kw_Pc D cT base sa ids ad vs σ) := fun _ _ _ _ h => ⟨h.1, h.2.1.calling, h.2.2⟩
/-- THE CONTRACT of a method with its function's value f: nw are the things that it makes -/
def kw_C (l : Launch) (y : MethodName) (ws : List Cond) (rm : Room) {X : Type} (outc : X → (Option Value ⊕ String) × Mm) (ids nw : List Nat) (vs : List Value) (σ : Mm) (f : Option X) : Prop :=
  ∀ x, f = some x → ∀ (D : va_G) (cT : Nat → ClassId) (base : Nat) (sa ad : Nat → Nat), MetFree l y (headSpec ws rm) (kw_Pc D cT base sa ids ad vs σ) (fun _ _ _ _ _ => True) (fun _ st oc t => kw_Q D cT base sa ids nw ad rm.cells rm.slots (outc x) st oc t)
def KW (Γ : kw_G) {X : Type} (outc : X → (Option Value ⊕ String) × Mm) (ids : List Nat) (ad : Nat → Nat) (cl sl : Nat) (f : Option X) (pc : Nat) (L : List (Option Value)) (st : List Value) (σ : Mm) : Prop := match Γ with
  | (p, l, e, R, s, m, args, below, meth, c, D, cT, base, sa, nL, Qf) => ∀ x, f = some x → ∀ (H : Heap) (locs : List Loc) (ls : Array Slot), mm_Rel D cT base sa ids ad σ H → va_S (fun q => base ≤ q) s.heap H locs → lv_has ls nL (kw_as ad L) →
    W p l e R s m args below meth c H locs cl sl (Qf (outc x)) (F0 m pc ls (st.map (kw_tr ad)))
/-- what stands fast during a walk -/
def kw_Cx (Γ : kw_G) (l0 : Launch) (own : String) (cc : ByteArray) (ret : Option FieldType) (nm : String) (tb : List ExceptionTableEntry) (nL0 : Nat) (rm : Room) : Prop := match Γ with
  | (p, l, _, R, s, m, args, _, meth, c, D, cT, base, sa, nL, _) => p.tables.exec = Jvm.exec ∧ c.code = cc ∧ c.maxLocals = nL ∧ s.vm.findClass own = some m.cls ∧ (∀ w ∈ kw_Ts, w.before args s = true) ∧ kw_St D cT base sa s ∧ l.stackTraces = false ∧ meth.locks = false ∧ c.exceptionTable.toList = tb ∧ meth.sig.returnType = ret ∧ meth.name = nm ∧ l = l0 ∧ nL = nL0 ∧ R = rm
/-- the end that a method's walk owes -/
def kw_Ce (Γ : kw_G) (rm : Room) (ids1 nw1 : List Nat) (ad1 : Nat → Nat) : Prop := match Γ with
  | (_, _, _, _, s, _, _, below, _, _, D, cT, base, sa, _, Qf) => Qf = fun o => kw_End D cT base sa ids1 nw1 ad1 rm.cells rm.slots below s o
/-- what is done where the function gives nothing: nothing is owed -/
theorem kw_none {Γ : kw_G} {X : Type} {outc : X → (Option Value ⊕ String) × Mm} {ids : List Nat} {ad : Nat → Nat} {cl sl pc : Nat} {L : List (Option Value)} {st : List Value} {σ : Mm} : KW Γ outc ids ad cl sl none pc L st σ := by
  obtain ⟨p, l, e, R, s, m, args, below, meth, c, D, cT, base, sa, nL, Qf⟩ := Γ
  intro x h
  cases h
/-- combinators of the functions -/
def kf_let {α β : Type} (a : α) (g : α → β) : β := g a
def kf_in (i : Int32) (n : Nat) {X : Type} (f : Option X) : Option X := if i < 0 ∨ n ≤ i.toNatClampNeg then none else f
def kf_nz (y : Int32) {X : Type} (f : Option X) : Option X := if y = 0 then none else f
def kf_nzl (y : Int64) {X : Type} (f : Option X) : Option X := if y = 0 then none else f
def kf_z (y : Int32) {X : Type} (f : Option X) : Option X := if y = 0 ∨ y = 1 then f else none
/-- a join, and a loop with fuel -/
def kf_j {α X : Type} (j : α → Mm → Option X) (b : (α → Mm → Option X) → Option X) : Option X := b j
def kf_l {α X : Type} (n : Nat) (b : (α → Mm → Option X) → α → Mm → Option X) : α → Mm → Option X := match n with
  | 0 => fun _ _ => none
  | n + 1 => fun a σ => b (kf_l n b) a σ
/-- fewer locals known -/
def kw_le : List (Option Value) → List (Option Value) → Prop
  | [], _ => True
  | _ :: _, [] => False
  | a :: t, b :: t' => (a = none ∨ a = b) ∧ kw_le t t'
theorem kw_le_at : ∀ (L L' : List (Option Value)), kw_le L L' → ∀ (i : Nat) (v : Value), L[i]? = some (some v) → L'[i]? = some (some v) := by
  intro L
  induction L with
  | nil => intro L' _ i v h; simp at h
  | cons a t ih =>
    intro L' hl i v h
    cases L' with
    | nil => exact hl.elim
    | cons b t' =>
      obtain ⟨h1, h2⟩ := hl
      cases i with
      | zero =>
        simp at h
        rcases h1 with e | e
        · rw [e] at h; cases h
        · simp [← e, h]
      | succ i =>
        simp at h ⊢
        exact ih t' h2 i v h
section KWR
variable {Γ : kw_G} {l0 : Launch} {own : String} {cc : ByteArray} {ret : Option FieldType} {nm : String} {tb : List ExceptionTableEntry} {nL0 : Nat} {rm : Room} {ids1 nw1 : List Nat} {ad1 : Nat → Nat} {X : Type} {outc : X → (Option Value ⊕ String) × Mm} {ids : List Nat} {ad : Nat → Nat} {cl sl pc : Nat} {f : Option X} {L L' : List (Option Value)} {st : List Value} {σ : Mm}
theorem kw_iadd (C : kw_Cx Γ l0 own cc ret nm tb nL0 rm) {x y : Int32} (d : decode cc pc = .ok (.iadd, 1)) (k : KW Γ outc ids ad cl sl f (pc + 1) L (.int (x + y) :: st) σ) : KW Γ outc ids ad cl sl f pc L (.int y :: .int x :: st) σ := by
  obtain ⟨p, l, e, R, s, m, args, below, meth, c, D, cT, base, sa, nL, Qf⟩ := Γ
  intro x0 hf H locs ls hR hS hL
  exact lv_iadd C.1 C.2.1 d (k x0 hf H locs ls hR hS hL)
theorem kw_isub (C : kw_Cx Γ l0 own cc ret nm tb nL0 rm) {x y : Int32} (d : decode cc pc = .ok (.isub, 1)) (k : KW Γ outc ids ad cl sl f (pc + 1) L (.int (x - y) :: st) σ) : KW Γ outc ids ad cl sl f pc L (.int y :: .int x :: st) σ := by
  obtain ⟨p, l, e, R, s, m, args, below, meth, c, D, cT, base, sa, nL, Qf⟩ := Γ
  intro x0 hf H locs ls hR hS hL
  exact lv_isub C.1 C.2.1 d (k x0 hf H locs ls hR hS hL)
theorem kw_imul (C : kw_Cx Γ l0 own cc ret nm tb nL0 rm) {x y : Int32} (d : decode cc pc = .ok (.imul, 1)) (k : KW Γ outc ids ad cl sl f (pc + 1) L (.int (x * y) :: st) σ) : KW Γ outc ids ad cl sl f pc L (.int y :: .int x :: st) σ := by
  obtain ⟨p, l, e, R, s, m, args, below, meth, c, D, cT, base, sa, nL, Qf⟩ := Γ
  intro x0 hf H locs ls hR hS hL
  exact lv_imul C.1 C.2.1 d (k x0 hf H locs ls hR hS hL)
theorem kw_iand (C : kw_Cx Γ l0 own cc ret nm tb nL0 rm) {x y : Int32} (d : decode cc pc = .ok (.iand, 1)) (k : KW Γ outc ids ad cl sl f (pc + 1) L (.int (x &&& y) :: st) σ) : KW Γ outc ids ad cl sl f pc L (.int y :: .int x :: st) σ := by
  obtain ⟨p, l, e, R, s, m, args, below, meth, c, D, cT, base, sa, nL, Qf⟩ := Γ
  intro x0 hf H locs ls hR hS hL
  exact lv_iand C.1 C.2.1 d (k x0 hf H locs ls hR hS hL)
theorem kw_ior (C : kw_Cx Γ l0 own cc ret nm tb nL0 rm) {x y : Int32} (d : decode cc pc = .ok (.ior, 1)) (k : KW Γ outc ids ad cl sl f (pc + 1) L (.int (x ||| y) :: st) σ) : KW Γ outc ids ad cl sl f pc L (.int y :: .int x :: st) σ := by
  obtain ⟨p, l, e, R, s, m, args, below, meth, c, D, cT, base, sa, nL, Qf⟩ := Γ
  intro x0 hf H locs ls hR hS hL
  exact lv_ior C.1 C.2.1 d (k x0 hf H locs ls hR hS hL)
theorem kw_ixor (C : kw_Cx Γ l0 own cc ret nm tb nL0 rm) {x y : Int32} (d : decode cc pc = .ok (.ixor, 1)) (k : KW Γ outc ids ad cl sl f (pc + 1) L (.int (x ^^^ y) :: st) σ) : KW Γ outc ids ad cl sl f pc L (.int y :: .int x :: st) σ := by
  obtain ⟨p, l, e, R, s, m, args, below, meth, c, D, cT, base, sa, nL, Qf⟩ := Γ
  intro x0 hf H locs ls hR hS hL
  exact lv_ixor C.1 C.2.1 d (k x0 hf H locs ls hR hS hL)
theorem kw_ishl (C : kw_Cx Γ l0 own cc ret nm tb nL0 rm) {x y : Int32} (d : decode cc pc = .ok (.ishl, 1)) (k : KW Γ outc ids ad cl sl f (pc + 1) L (.int (x <<< (y &&& 31)) :: st) σ) : KW Γ outc ids ad cl sl f pc L (.int y :: .int x :: st) σ := by
  obtain ⟨p, l, e, R, s, m, args, below, meth, c, D, cT, base, sa, nL, Qf⟩ := Γ
  intro x0 hf H locs ls hR hS hL
  exact lv_ishl C.1 C.2.1 d (k x0 hf H locs ls hR hS hL)
theorem kw_ishr (C : kw_Cx Γ l0 own cc ret nm tb nL0 rm) {x y : Int32} (d : decode cc pc = .ok (.ishr, 1)) (k : KW Γ outc ids ad cl sl f (pc + 1) L (.int (x >>> (y &&& 31)) :: st) σ) : KW Γ outc ids ad cl sl f pc L (.int y :: .int x :: st) σ := by
  obtain ⟨p, l, e, R, s, m, args, below, meth, c, D, cT, base, sa, nL, Qf⟩ := Γ
  intro x0 hf H locs ls hR hS hL
  exact lv_ishr C.1 C.2.1 d (k x0 hf H locs ls hR hS hL)
theorem kw_iushr (C : kw_Cx Γ l0 own cc ret nm tb nL0 rm) {x y : Int32} (d : decode cc pc = .ok (.iushr, 1)) (k : KW Γ outc ids ad cl sl f (pc + 1) L (.int ((x.toUInt32 >>> (y.toUInt32 &&& Int32.toUInt32 31)).toInt32) :: st) σ) : KW Γ outc ids ad cl sl f pc L (.int y :: .int x :: st) σ := by
  obtain ⟨p, l, e, R, s, m, args, below, meth, c, D, cT, base, sa, nL, Qf⟩ := Γ
  intro x0 hf H locs ls hR hS hL
  exact lv_iushr C.1 C.2.1 d rfl (k x0 hf H locs ls hR hS hL)
theorem kw_ineg (C : kw_Cx Γ l0 own cc ret nm tb nL0 rm) {x : Int32} (d : decode cc pc = .ok (.ineg, 1)) (k : KW Γ outc ids ad cl sl f (pc + 1) L (.int (-x) :: st) σ) : KW Γ outc ids ad cl sl f pc L (.int x :: st) σ := by
  obtain ⟨p, l, e, R, s, m, args, below, meth, c, D, cT, base, sa, nL, Qf⟩ := Γ
  intro x0 hf H locs ls hR hS hL
  exact lv_ineg C.1 C.2.1 d (k x0 hf H locs ls hR hS hL)
theorem kw_ladd (C : kw_Cx Γ l0 own cc ret nm tb nL0 rm) {x y : Int64} (d : decode cc pc = .ok (.ladd, 1)) (k : KW Γ outc ids ad cl sl f (pc + 1) L (.long (x + y) :: st) σ) : KW Γ outc ids ad cl sl f pc L (.long y :: .long x :: st) σ := by
  obtain ⟨p, l, e, R, s, m, args, below, meth, c, D, cT, base, sa, nL, Qf⟩ := Γ
  intro x0 hf H locs ls hR hS hL
  exact lv_ladd C.1 C.2.1 d (k x0 hf H locs ls hR hS hL)
theorem kw_lsub (C : kw_Cx Γ l0 own cc ret nm tb nL0 rm) {x y : Int64} (d : decode cc pc = .ok (.lsub, 1)) (k : KW Γ outc ids ad cl sl f (pc + 1) L (.long (x - y) :: st) σ) : KW Γ outc ids ad cl sl f pc L (.long y :: .long x :: st) σ := by
  obtain ⟨p, l, e, R, s, m, args, below, meth, c, D, cT, base, sa, nL, Qf⟩ := Γ
  intro x0 hf H locs ls hR hS hL
  exact lv_lsub C.1 C.2.1 d (k x0 hf H locs ls hR hS hL)
theorem kw_lmul (C : kw_Cx Γ l0 own cc ret nm tb nL0 rm) {x y : Int64} (d : decode cc pc = .ok (.lmul, 1)) (k : KW Γ outc ids ad cl sl f (pc + 1) L (.long (x * y) :: st) σ) : KW Γ outc ids ad cl sl f pc L (.long y :: .long x :: st) σ := by
  obtain ⟨p, l, e, R, s, m, args, below, meth, c, D, cT, base, sa, nL, Qf⟩ := Γ
  intro x0 hf H locs ls hR hS hL
  exact lv_lmul C.1 C.2.1 d (k x0 hf H locs ls hR hS hL)
theorem kw_land (C : kw_Cx Γ l0 own cc ret nm tb nL0 rm) {x y : Int64} (d : decode cc pc = .ok (.land, 1)) (k : KW Γ outc ids ad cl sl f (pc + 1) L (.long (x &&& y) :: st) σ) : KW Γ outc ids ad cl sl f pc L (.long y :: .long x :: st) σ := by
  obtain ⟨p, l, e, R, s, m, args, below, meth, c, D, cT, base, sa, nL, Qf⟩ := Γ
  intro x0 hf H locs ls hR hS hL
  exact lv_land C.1 C.2.1 d (k x0 hf H locs ls hR hS hL)
theorem kw_lor (C : kw_Cx Γ l0 own cc ret nm tb nL0 rm) {x y : Int64} (d : decode cc pc = .ok (.lor, 1)) (k : KW Γ outc ids ad cl sl f (pc + 1) L (.long (x ||| y) :: st) σ) : KW Γ outc ids ad cl sl f pc L (.long y :: .long x :: st) σ := by
  obtain ⟨p, l, e, R, s, m, args, below, meth, c, D, cT, base, sa, nL, Qf⟩ := Γ
  intro x0 hf H locs ls hR hS hL
  exact lv_lor C.1 C.2.1 d (k x0 hf H locs ls hR hS hL)
theorem kw_lxor (C : kw_Cx Γ l0 own cc ret nm tb nL0 rm) {x y : Int64} (d : decode cc pc = .ok (.lxor, 1)) (k : KW Γ outc ids ad cl sl f (pc + 1) L (.long (x ^^^ y) :: st) σ) : KW Γ outc ids ad cl sl f pc L (.long y :: .long x :: st) σ := by
  obtain ⟨p, l, e, R, s, m, args, below, meth, c, D, cT, base, sa, nL, Qf⟩ := Γ
  intro x0 hf H locs ls hR hS hL
  exact lv_lxor C.1 C.2.1 d (k x0 hf H locs ls hR hS hL)
theorem kw_lneg (C : kw_Cx Γ l0 own cc ret nm tb nL0 rm) {x : Int64} (d : decode cc pc = .ok (.lneg, 1)) (k : KW Γ outc ids ad cl sl f (pc + 1) L (.long (-x) :: st) σ) : KW Γ outc ids ad cl sl f pc L (.long x :: st) σ := by
  obtain ⟨p, l, e, R, s, m, args, below, meth, c, D, cT, base, sa, nL, Qf⟩ := Γ
  intro x0 hf H locs ls hR hS hL
  exact lv_lneg C.1 C.2.1 d (k x0 hf H locs ls hR hS hL)
theorem kw_lshl (C : kw_Cx Γ l0 own cc ret nm tb nL0 rm) {x : Int64} {y : Int32} (d : decode cc pc = .ok (.lshl, 1)) (k : KW Γ outc ids ad cl sl f (pc + 1) L (.long (x <<< (y.toInt64 &&& 63)) :: st) σ) : KW Γ outc ids ad cl sl f pc L (.int y :: .long x :: st) σ := by
  obtain ⟨p, l, e, R, s, m, args, below, meth, c, D, cT, base, sa, nL, Qf⟩ := Γ
  intro x0 hf H locs ls hR hS hL
  exact lv_lshl C.1 C.2.1 d rfl (k x0 hf H locs ls hR hS hL)
theorem kw_lshr (C : kw_Cx Γ l0 own cc ret nm tb nL0 rm) {x : Int64} {y : Int32} (d : decode cc pc = .ok (.lshr, 1)) (k : KW Γ outc ids ad cl sl f (pc + 1) L (.long (x >>> (y.toInt64 &&& 63)) :: st) σ) : KW Γ outc ids ad cl sl f pc L (.int y :: .long x :: st) σ := by
  obtain ⟨p, l, e, R, s, m, args, below, meth, c, D, cT, base, sa, nL, Qf⟩ := Γ
  intro x0 hf H locs ls hR hS hL
  exact lv_lshr C.1 C.2.1 d rfl (k x0 hf H locs ls hR hS hL)
theorem kw_lushr (C : kw_Cx Γ l0 own cc ret nm tb nL0 rm) {x : Int64} {y : Int32} (d : decode cc pc = .ok (.lushr, 1)) (k : KW Γ outc ids ad cl sl f (pc + 1) L (.long ((x.toUInt64 >>> (y.toInt64.toUInt64 &&& Int64.toUInt64 63)).toInt64) :: st) σ) : KW Γ outc ids ad cl sl f pc L (.int y :: .long x :: st) σ := by
  obtain ⟨p, l, e, R, s, m, args, below, meth, c, D, cT, base, sa, nL, Qf⟩ := Γ
  intro x0 hf H locs ls hR hS hL
  exact lv_lushr C.1 C.2.1 d rfl (k x0 hf H locs ls hR hS hL)
theorem kw_lcmp (C : kw_Cx Γ l0 own cc ret nm tb nL0 rm) {x y : Int64} (d : decode cc pc = .ok (.lcmp, 1)) (k : KW Γ outc ids ad cl sl f (pc + 1) L (.int (lg_cmp x y) :: st) σ) : KW Γ outc ids ad cl sl f pc L (.long y :: .long x :: st) σ := by
  obtain ⟨p, l, e, R, s, m, args, below, meth, c, D, cT, base, sa, nL, Qf⟩ := Γ
  intro x0 hf H locs ls hR hS hL
  exact W.lcmp C.1 C.2.1 d (k x0 hf H locs ls hR hS hL)
theorem kw_i2l (C : kw_Cx Γ l0 own cc ret nm tb nL0 rm) {x : Int32} (d : decode cc pc = .ok (.i2l, 1)) (k : KW Γ outc ids ad cl sl f (pc + 1) L (.long x.toInt64 :: st) σ) : KW Γ outc ids ad cl sl f pc L (.int x :: st) σ := by
  obtain ⟨p, l, e, R, s, m, args, below, meth, c, D, cT, base, sa, nL, Qf⟩ := Γ
  intro x0 hf H locs ls hR hS hL
  exact lv_i2l C.1 C.2.1 d rfl (k x0 hf H locs ls hR hS hL)
theorem kw_l2i (C : kw_Cx Γ l0 own cc ret nm tb nL0 rm) {x : Int64} (d : decode cc pc = .ok (.l2i, 1)) (k : KW Γ outc ids ad cl sl f (pc + 1) L (.int x.toInt32 :: st) σ) : KW Γ outc ids ad cl sl f pc L (.long x :: st) σ := by
  obtain ⟨p, l, e, R, s, m, args, below, meth, c, D, cT, base, sa, nL, Qf⟩ := Γ
  intro x0 hf H locs ls hR hS hL
  exact lv_l2i C.1 C.2.1 d rfl (k x0 hf H locs ls hR hS hL)
theorem kw_i2b (C : kw_Cx Γ l0 own cc ret nm tb nL0 rm) {x : Int32} (d : decode cc pc = .ok (.i2b, 1)) (k : KW Γ outc ids ad cl sl f (pc + 1) L (.int x.toInt8.toInt32 :: st) σ) : KW Γ outc ids ad cl sl f pc L (.int x :: st) σ := by
  obtain ⟨p, l, e, R, s, m, args, below, meth, c, D, cT, base, sa, nL, Qf⟩ := Γ
  intro x0 hf H locs ls hR hS hL
  exact lv_i2b C.1 C.2.1 d rfl (k x0 hf H locs ls hR hS hL)
theorem kw_i2s (C : kw_Cx Γ l0 own cc ret nm tb nL0 rm) {x : Int32} (d : decode cc pc = .ok (.i2s, 1)) (k : KW Γ outc ids ad cl sl f (pc + 1) L (.int x.toInt16.toInt32 :: st) σ) : KW Γ outc ids ad cl sl f pc L (.int x :: st) σ := by
  obtain ⟨p, l, e, R, s, m, args, below, meth, c, D, cT, base, sa, nL, Qf⟩ := Γ
  intro x0 hf H locs ls hR hS hL
  exact lv_i2s C.1 C.2.1 d rfl (k x0 hf H locs ls hR hS hL)
theorem kw_i2c (C : kw_Cx Γ l0 own cc ret nm tb nL0 rm) {x : Int32} (d : decode cc pc = .ok (.i2c, 1)) (k : KW Γ outc ids ad cl sl f (pc + 1) L (.int ((x.toUInt32 % 65536).toInt32) :: st) σ) : KW Γ outc ids ad cl sl f pc L (.int x :: st) σ := by
  obtain ⟨p, l, e, R, s, m, args, below, meth, c, D, cT, base, sa, nL, Qf⟩ := Γ
  intro x0 hf H locs ls hR hS hL
  exact lv_i2c C.1 C.2.1 d rfl (k x0 hf H locs ls hR hS hL)
theorem kw_iconst (C : kw_Cx Γ l0 own cc ret nm tb nL0 rm) {n : Int} {v : Int32} (d : decode cc pc = .ok (.iconst n, 1)) (hv : Int32.ofInt n = v) (k : KW Γ outc ids ad cl sl f (pc + 1) L (.int v :: st) σ) : KW Γ outc ids ad cl sl f pc L st σ := by
  obtain ⟨p, l, e, R, s, m, args, below, meth, c, D, cT, base, sa, nL, Qf⟩ := Γ
  intro x0 hf H locs ls hR hS hL
  exact lv_iconst C.1 C.2.1 d hv (k x0 hf H locs ls hR hS hL)
theorem kw_bipush (C : kw_Cx Γ l0 own cc ret nm tb nL0 rm) {n : Int} {v : Int32} (d : decode cc pc = .ok (.bipush n, 2)) (hv : (Int8.ofInt n).toInt32 = v) (k : KW Γ outc ids ad cl sl f (pc + 2) L (.int v :: st) σ) : KW Γ outc ids ad cl sl f pc L st σ := by
  obtain ⟨p, l, e, R, s, m, args, below, meth, c, D, cT, base, sa, nL, Qf⟩ := Γ
  intro x0 hf H locs ls hR hS hL
  exact lv_bipush C.1 C.2.1 d hv (k x0 hf H locs ls hR hS hL)
theorem kw_sipush (C : kw_Cx Γ l0 own cc ret nm tb nL0 rm) {n : Int} {v : Int32} (d : decode cc pc = .ok (.sipush n, 3)) (hv : (Int16.ofInt n).toInt32 = v) (k : KW Γ outc ids ad cl sl f (pc + 3) L (.int v :: st) σ) : KW Γ outc ids ad cl sl f pc L st σ := by
  obtain ⟨p, l, e, R, s, m, args, below, meth, c, D, cT, base, sa, nL, Qf⟩ := Γ
  intro x0 hf H locs ls hR hS hL
  exact lv_sipush C.1 C.2.1 d hv (k x0 hf H locs ls hR hS hL)
theorem kw_lconst (C : kw_Cx Γ l0 own cc ret nm tb nL0 rm) {n : Fin 2} {v : Int64} (d : decode cc pc = .ok (.lconst n, 1)) (hv : Int64.ofNat (n : Nat) = v) (k : KW Γ outc ids ad cl sl f (pc + 1) L (.long v :: st) σ) : KW Γ outc ids ad cl sl f pc L st σ := by
  obtain ⟨p, l, e, R, s, m, args, below, meth, c, D, cT, base, sa, nL, Qf⟩ := Γ
  intro x0 hf H locs ls hR hS hL
  exact lv_lconst C.1 C.2.1 d hv (k x0 hf H locs ls hR hS hL)
theorem kw_ldc (C : kw_Cx Γ l0 own cc ret nm tb nL0 rm) {i : Nat} {v : Int32} (d : decode cc pc = .ok (.ldc i, 2)) (hv : Cond.constant own i v ∈ kw_Ts) (k : KW Γ outc ids ad cl sl f (pc + 2) L (.int v :: st) σ) : KW Γ outc ids ad cl sl f pc L st σ := by
  obtain ⟨p, l, e, R, s, m, args, below, meth, c, D, cT, base, sa, nL, Qf⟩ := Γ
  intro x0 hf H locs ls hR hS hL
  exact lv_ldc C.1 C.2.1 C.2.2.2.1 (C.2.2.2.2.1 _ hv) d (k x0 hf H locs ls hR hS hL)
theorem kw_ldc_w (C : kw_Cx Γ l0 own cc ret nm tb nL0 rm) {i : Nat} {v : Int32} (d : decode cc pc = .ok (.ldc_w i, 3)) (hv : Cond.constant own i v ∈ kw_Ts) (k : KW Γ outc ids ad cl sl f (pc + 3) L (.int v :: st) σ) : KW Γ outc ids ad cl sl f pc L st σ := by
  obtain ⟨p, l, e, R, s, m, args, below, meth, c, D, cT, base, sa, nL, Qf⟩ := Γ
  intro x0 hf H locs ls hR hS hL
  exact lv_ldcw C.1 C.2.1 C.2.2.2.1 (C.2.2.2.2.1 _ hv) d (k x0 hf H locs ls hR hS hL)
theorem kw_ldc2 (C : kw_Cx Γ l0 own cc ret nm tb nL0 rm) {i : Nat} {v : Int64} (d : decode cc pc = .ok (.ldc2_w i, 3)) (hv : Cond.constantLong own i v ∈ kw_Ts) (k : KW Γ outc ids ad cl sl f (pc + 3) L (.long v :: st) σ) : KW Γ outc ids ad cl sl f pc L st σ := by
  obtain ⟨p, l, e, R, s, m, args, below, meth, c, D, cT, base, sa, nL, Qf⟩ := Γ
  intro x0 hf H locs ls hR hS hL
  exact lv_ldc2 C.1 C.2.1 C.2.2.2.1 (C.2.2.2.2.1 _ hv) d (k x0 hf H locs ls hR hS hL)
theorem kw_iload (C : kw_Cx Γ l0 own cc ret nm tb nL0 rm) {i : Nat} {x : Int32} (d : decode cc pc = .ok (.iload i, 2)) (hx : L[i]? = some (some (.int x))) (k : KW Γ outc ids ad cl sl f (pc + 2) L (.int x :: st) σ) : KW Γ outc ids ad cl sl f pc L st σ := by
  obtain ⟨p, l, e, R, s, m, args, below, meth, c, D, cT, base, sa, nL, Qf⟩ := Γ
  intro x0 hf H locs ls hR hS hL
  exact lv_iload C.1 C.2.1 d (kw_at hL hx) (k x0 hf H locs ls hR hS hL)
theorem kw_iload_n (C : kw_Cx Γ l0 own cc ret nm tb nL0 rm) {i : Fin 4} {x : Int32} (d : decode cc pc = .ok (.iload_n i, 1)) (hx : L[(i : Nat)]? = some (some (.int x))) (k : KW Γ outc ids ad cl sl f (pc + 1) L (.int x :: st) σ) : KW Γ outc ids ad cl sl f pc L st σ := by
  obtain ⟨p, l, e, R, s, m, args, below, meth, c, D, cT, base, sa, nL, Qf⟩ := Γ
  intro x0 hf H locs ls hR hS hL
  exact lv_iload_n C.1 C.2.1 d rfl (kw_at hL hx) (k x0 hf H locs ls hR hS hL)
theorem kw_lload (C : kw_Cx Γ l0 own cc ret nm tb nL0 rm) {i : Nat} {x : Int64} (d : decode cc pc = .ok (.lload i, 2)) (hx : L[i]? = some (some (.long x))) (k : KW Γ outc ids ad cl sl f (pc + 2) L (.long x :: st) σ) : KW Γ outc ids ad cl sl f pc L st σ := by
  obtain ⟨p, l, e, R, s, m, args, below, meth, c, D, cT, base, sa, nL, Qf⟩ := Γ
  intro x0 hf H locs ls hR hS hL
  exact lv_lload C.1 C.2.1 d (kw_at hL hx) (k x0 hf H locs ls hR hS hL)
theorem kw_lload_n (C : kw_Cx Γ l0 own cc ret nm tb nL0 rm) {i : Fin 4} {x : Int64} (d : decode cc pc = .ok (.lload_n i, 1)) (hx : L[(i : Nat)]? = some (some (.long x))) (k : KW Γ outc ids ad cl sl f (pc + 1) L (.long x :: st) σ) : KW Γ outc ids ad cl sl f pc L st σ := by
  obtain ⟨p, l, e, R, s, m, args, below, meth, c, D, cT, base, sa, nL, Qf⟩ := Γ
  intro x0 hf H locs ls hR hS hL
  exact lv_lload_n C.1 C.2.1 d rfl (kw_at hL hx) (k x0 hf H locs ls hR hS hL)
theorem kw_aload (C : kw_Cx Γ l0 own cc ret nm tb nL0 rm) {i : Nat} {x : Nat} (d : decode cc pc = .ok (.aload i, 2)) (hx : L[i]? = some (some (.ref x))) (k : KW Γ outc ids ad cl sl f (pc + 2) L (.ref x :: st) σ) : KW Γ outc ids ad cl sl f pc L st σ := by
  obtain ⟨p, l, e, R, s, m, args, below, meth, c, D, cT, base, sa, nL, Qf⟩ := Γ
  intro x0 hf H locs ls hR hS hL
  exact lv_aload C.1 C.2.1 d (kw_at hL hx) (k x0 hf H locs ls hR hS hL)
theorem kw_aload_n (C : kw_Cx Γ l0 own cc ret nm tb nL0 rm) {i : Fin 4} {x : Nat} (d : decode cc pc = .ok (.aload_n i, 1)) (hx : L[(i : Nat)]? = some (some (.ref x))) (k : KW Γ outc ids ad cl sl f (pc + 1) L (.ref x :: st) σ) : KW Γ outc ids ad cl sl f pc L st σ := by
  obtain ⟨p, l, e, R, s, m, args, below, meth, c, D, cT, base, sa, nL, Qf⟩ := Γ
  intro x0 hf H locs ls hR hS hL
  exact lv_aload_n C.1 C.2.1 d rfl (kw_at hL hx) (k x0 hf H locs ls hR hS hL)
theorem kw_dup (C : kw_Cx Γ l0 own cc ret nm tb nL0 rm) {va : Value} (d : decode cc pc = .ok (.dup, 1)) (hva : va.category = 1) (k : KW Γ outc ids ad cl sl f (pc + 1) L (va :: va :: st) σ) : KW Γ outc ids ad cl sl f pc L (va :: st) σ := by
  obtain ⟨p, l, e, R, s, m, args, below, meth, c, D, cT, base, sa, nL, Qf⟩ := Γ
  intro x0 hf H locs ls hR hS hL
  exact lv_dup C.1 C.2.1 d ((kw_trc ad va).trans hva) (k x0 hf H locs ls hR hS hL)
theorem kw_pop (C : kw_Cx Γ l0 own cc ret nm tb nL0 rm) {va : Value} (d : decode cc pc = .ok (.pop, 1)) (hva : va.category = 1) (k : KW Γ outc ids ad cl sl f (pc + 1) L st σ) : KW Γ outc ids ad cl sl f pc L (va :: st) σ := by
  obtain ⟨p, l, e, R, s, m, args, below, meth, c, D, cT, base, sa, nL, Qf⟩ := Γ
  intro x0 hf H locs ls hR hS hL
  exact lv_pop C.1 C.2.1 d ((kw_trc ad va).trans hva) (k x0 hf H locs ls hR hS hL)
theorem kw_dup_x1 (C : kw_Cx Γ l0 own cc ret nm tb nL0 rm) {va vb : Value} (d : decode cc pc = .ok (.dup_x1, 1)) (hva : va.category = 1) (hvb : vb.category = 1) (k : KW Γ outc ids ad cl sl f (pc + 1) L (va :: vb :: va :: st) σ) : KW Γ outc ids ad cl sl f pc L (va :: vb :: st) σ := by
  obtain ⟨p, l, e, R, s, m, args, below, meth, c, D, cT, base, sa, nL, Qf⟩ := Γ
  intro x0 hf H locs ls hR hS hL
  exact lv_dup_x1 C.1 C.2.1 d ((kw_trc ad va).trans hva) ((kw_trc ad vb).trans hvb) (k x0 hf H locs ls hR hS hL)
theorem kw_dup_x2 (C : kw_Cx Γ l0 own cc ret nm tb nL0 rm) {va vb vd : Value} (d : decode cc pc = .ok (.dup_x2, 1)) (hva : va.category = 1) (hvb : vb.category = 1) (hvd : vd.category = 1) (k : KW Γ outc ids ad cl sl f (pc + 1) L (va :: vb :: vd :: va :: st) σ) : KW Γ outc ids ad cl sl f pc L (va :: vb :: vd :: st) σ := by
  obtain ⟨p, l, e, R, s, m, args, below, meth, c, D, cT, base, sa, nL, Qf⟩ := Γ
  intro x0 hf H locs ls hR hS hL
  exact lv_dup_x2 C.1 C.2.1 d ((kw_trc ad va).trans hva) ((kw_trc ad vb).trans hvb) ((kw_trc ad vd).trans hvd) (k x0 hf H locs ls hR hS hL)
theorem kw_dup2 (C : kw_Cx Γ l0 own cc ret nm tb nL0 rm) {va vb : Value} (d : decode cc pc = .ok (.dup2, 1)) (hva : va.category = 1) (hvb : vb.category = 1) (k : KW Γ outc ids ad cl sl f (pc + 1) L (va :: vb :: va :: vb :: st) σ) : KW Γ outc ids ad cl sl f pc L (va :: vb :: st) σ := by
  obtain ⟨p, l, e, R, s, m, args, below, meth, c, D, cT, base, sa, nL, Qf⟩ := Γ
  intro x0 hf H locs ls hR hS hL
  exact lv_dup2_11 C.1 C.2.1 d ((kw_trc ad va).trans hva) ((kw_trc ad vb).trans hvb) (k x0 hf H locs ls hR hS hL)
theorem kw_dup2L (C : kw_Cx Γ l0 own cc ret nm tb nL0 rm) {va : Value} (d : decode cc pc = .ok (.dup2, 1)) (hva : va.category = 2) (k : KW Γ outc ids ad cl sl f (pc + 1) L (va :: va :: st) σ) : KW Γ outc ids ad cl sl f pc L (va :: st) σ := by
  obtain ⟨p, l, e, R, s, m, args, below, meth, c, D, cT, base, sa, nL, Qf⟩ := Γ
  intro x0 hf H locs ls hR hS hL
  exact lv_dup2_2 C.1 C.2.1 d ((kw_trc ad va).trans hva) (k x0 hf H locs ls hR hS hL)
theorem kw_idiv (C : kw_Cx Γ l0 own cc ret nm tb nL0 rm) {x y : Int32} (d : decode cc pc = .ok (.idiv, 1)) (k : KW Γ outc ids ad cl sl f (pc + 1) L (.int (x / y) :: st) σ) : KW Γ outc ids ad cl sl (kf_nz y f) pc L (.int y :: .int x :: st) σ := by
  obtain ⟨p, l, e, R, s, m, args, below, meth, c, D, cT, base, sa, nL, Qf⟩ := Γ
  intro x0 hf H locs ls hR hS hL
  unfold kf_nz at hf
  by_cases hy : y = 0
  · rw [if_pos hy] at hf; cases hf
  · rw [if_neg hy] at hf
    exact lv_idiv C.1 C.2.1 d hy (k x0 hf H locs ls hR hS hL)
theorem kw_irem (C : kw_Cx Γ l0 own cc ret nm tb nL0 rm) {x y : Int32} (d : decode cc pc = .ok (.irem, 1)) (k : KW Γ outc ids ad cl sl f (pc + 1) L (.int (x - x / y * y) :: st) σ) : KW Γ outc ids ad cl sl (kf_nz y f) pc L (.int y :: .int x :: st) σ := by
  obtain ⟨p, l, e, R, s, m, args, below, meth, c, D, cT, base, sa, nL, Qf⟩ := Γ
  intro x0 hf H locs ls hR hS hL
  unfold kf_nz at hf
  by_cases hy : y = 0
  · rw [if_pos hy] at hf; cases hf
  · rw [if_neg hy] at hf
    exact lv_irem C.1 C.2.1 d hy (k x0 hf H locs ls hR hS hL)
theorem kw_ldiv (C : kw_Cx Γ l0 own cc ret nm tb nL0 rm) {x y : Int64} (d : decode cc pc = .ok (.ldiv, 1)) (k : KW Γ outc ids ad cl sl f (pc + 1) L (.long (x / y) :: st) σ) : KW Γ outc ids ad cl sl (kf_nzl y f) pc L (.long y :: .long x :: st) σ := by
  obtain ⟨p, l, e, R, s, m, args, below, meth, c, D, cT, base, sa, nL, Qf⟩ := Γ
  intro x0 hf H locs ls hR hS hL
  unfold kf_nzl at hf
  by_cases hy : y = 0
  · rw [if_pos hy] at hf; cases hf
  · rw [if_neg hy] at hf
    exact lv_ldiv C.1 C.2.1 d hy (k x0 hf H locs ls hR hS hL)
theorem kw_lrem (C : kw_Cx Γ l0 own cc ret nm tb nL0 rm) {x y : Int64} (d : decode cc pc = .ok (.lrem, 1)) (k : KW Γ outc ids ad cl sl f (pc + 1) L (.long (x - x / y * y) :: st) σ) : KW Γ outc ids ad cl sl (kf_nzl y f) pc L (.long y :: .long x :: st) σ := by
  obtain ⟨p, l, e, R, s, m, args, below, meth, c, D, cT, base, sa, nL, Qf⟩ := Γ
  intro x0 hf H locs ls hR hS hL
  unfold kf_nzl at hf
  by_cases hy : y = 0
  · rw [if_pos hy] at hf; cases hf
  · rw [if_neg hy] at hf
    exact lv_lrem C.1 C.2.1 d hy (k x0 hf H locs ls hR hS hL)
theorem kw_istore (C : kw_Cx Γ l0 own cc ret nm tb nL0 rm) {i : Nat} {x : Int32} (d : decode cc pc = .ok (.istore i, 2)) (hi : i < nL0) (hl : kw_st1 L i (.int x) = L') (k : KW Γ outc ids ad cl sl f (pc + 2) L' st σ) : KW Γ outc ids ad cl sl f pc L (.int x :: st) σ := by
  obtain ⟨p, l, e, R, s, m, args, below, meth, c, D, cT, base, sa, nL, Qf⟩ := Γ
  have hnL : nL = nL0 := C.2.2.2.2.2.2.2.2.2.2.2.2.1
  subst hnL
  intro x0 hf H locs ls hR hS hL
  subst hl
  exact lv_istore C.1 C.2.1 d hL hi rfl (fun ls' h' => k x0 hf H locs ls' hR hS (kw_has1 (v := .int x) h'))
theorem kw_istore_n (C : kw_Cx Γ l0 own cc ret nm tb nL0 rm) {i : Fin 4} {x : Int32} (d : decode cc pc = .ok (.istore_n i, 1)) (hi : (i : Nat) < nL0) (hl : kw_st1 L (i : Nat) (.int x) = L') (k : KW Γ outc ids ad cl sl f (pc + 1) L' st σ) : KW Γ outc ids ad cl sl f pc L (.int x :: st) σ := by
  obtain ⟨p, l, e, R, s, m, args, below, meth, c, D, cT, base, sa, nL, Qf⟩ := Γ
  have hnL : nL = nL0 := C.2.2.2.2.2.2.2.2.2.2.2.2.1
  subst hnL
  intro x0 hf H locs ls hR hS hL
  subst hl
  exact lv_istore_n C.1 C.2.1 d rfl hL hi rfl (fun ls' h' => k x0 hf H locs ls' hR hS (kw_has1 (v := .int x) h'))
theorem kw_astore (C : kw_Cx Γ l0 own cc ret nm tb nL0 rm) {i : Nat} {x : Nat} (d : decode cc pc = .ok (.astore i, 2)) (hi : i < nL0) (hl : kw_st1 L i (.ref x) = L') (k : KW Γ outc ids ad cl sl f (pc + 2) L' st σ) : KW Γ outc ids ad cl sl f pc L (.ref x :: st) σ := by
  obtain ⟨p, l, e, R, s, m, args, below, meth, c, D, cT, base, sa, nL, Qf⟩ := Γ
  have hnL : nL = nL0 := C.2.2.2.2.2.2.2.2.2.2.2.2.1
  subst hnL
  intro x0 hf H locs ls hR hS hL
  subst hl
  exact lv_astore C.1 C.2.1 d hL hi rfl (fun ls' h' => k x0 hf H locs ls' hR hS (kw_has1 (v := .ref x) h'))
theorem kw_astore_n (C : kw_Cx Γ l0 own cc ret nm tb nL0 rm) {i : Fin 4} {x : Nat} (d : decode cc pc = .ok (.astore_n i, 1)) (hi : (i : Nat) < nL0) (hl : kw_st1 L (i : Nat) (.ref x) = L') (k : KW Γ outc ids ad cl sl f (pc + 1) L' st σ) : KW Γ outc ids ad cl sl f pc L (.ref x :: st) σ := by
  obtain ⟨p, l, e, R, s, m, args, below, meth, c, D, cT, base, sa, nL, Qf⟩ := Γ
  have hnL : nL = nL0 := C.2.2.2.2.2.2.2.2.2.2.2.2.1
  subst hnL
  intro x0 hf H locs ls hR hS hL
  subst hl
  exact lv_astore_n C.1 C.2.1 d rfl hL hi rfl (fun ls' h' => k x0 hf H locs ls' hR hS (kw_has1 (v := .ref x) h'))
theorem kw_lstore (C : kw_Cx Γ l0 own cc ret nm tb nL0 rm) {i : Nat} {x : Int64} (d : decode cc pc = .ok (.lstore i, 2)) (hi : i + 1 < nL0) (hl : kw_st2 L i (.long x) = L') (k : KW Γ outc ids ad cl sl f (pc + 2) L' st σ) : KW Γ outc ids ad cl sl f pc L (.long x :: st) σ := by
  obtain ⟨p, l, e, R, s, m, args, below, meth, c, D, cT, base, sa, nL, Qf⟩ := Γ
  have hnL : nL = nL0 := C.2.2.2.2.2.2.2.2.2.2.2.2.1
  subst hnL
  intro x0 hf H locs ls hR hS hL
  subst hl
  exact lv_lstore C.1 C.2.1 d hL hi rfl (fun ls' h' => k x0 hf H locs ls' hR hS (kw_has2 (v := .long x) h'))
theorem kw_lstore_n (C : kw_Cx Γ l0 own cc ret nm tb nL0 rm) {i : Fin 4} {x : Int64} (d : decode cc pc = .ok (.lstore_n i, 1)) (hi : (i : Nat) + 1 < nL0) (hl : kw_st2 L (i : Nat) (.long x) = L') (k : KW Γ outc ids ad cl sl f (pc + 1) L' st σ) : KW Γ outc ids ad cl sl f pc L (.long x :: st) σ := by
  obtain ⟨p, l, e, R, s, m, args, below, meth, c, D, cT, base, sa, nL, Qf⟩ := Γ
  have hnL : nL = nL0 := C.2.2.2.2.2.2.2.2.2.2.2.2.1
  subst hnL
  intro x0 hf H locs ls hR hS hL
  subst hl
  exact lv_lstore_n C.1 C.2.1 d rfl hL hi rfl (fun ls' h' => k x0 hf H locs ls' hR hS (kw_has2 (v := .long x) h'))
theorem kw_iinc (C : kw_Cx Γ l0 own cc ret nm tb nL0 rm) {i : Nat} {n : Int} {x v : Int32} (d : decode cc pc = .ok (.iinc i n, 3)) (hi : i < nL0) (hx : L[i]? = some (some (.int x))) (hv : x + Int32.ofInt n = v) (hl : kw_st1 L i (.int v) = L') (k : KW Γ outc ids ad cl sl f (pc + 3) L' st σ) : KW Γ outc ids ad cl sl f pc L st σ := by
  obtain ⟨p, l, e, R, s, m, args, below, meth, c, D, cT, base, sa, nL, Qf⟩ := Γ
  have hnL : nL = nL0 := C.2.2.2.2.2.2.2.2.2.2.2.2.1
  subst hnL
  intro x0 hf H locs ls hR hS hL
  subst hl
  obtain ⟨k0, hk0⟩ := List.getElem?_of_mem (kw_as_mem.mpr ⟨_, hx, rfl⟩ : (i, kw_tr ad (.int x)) ∈ kw_as ad L)
  exact lv_iinc C.1 C.2.1 d hL hk0 hv hi rfl (fun ls' h' => k x0 hf H locs ls' hR hS (kw_has1 (v := .int v) h'))
theorem kw_icmp_eq (C : kw_Cx Γ l0 own cc ret nm tb nL0 rm) {x y : Int32} {off : Int} {tgt : Nat} {f1 f2 : Option X} (d : decode cc pc = .ok (.if_icmp .eq off, 3)) (ht : (pc : Int) + off = (tgt : Int)) (kt : KW Γ outc ids ad cl sl f1 tgt L st σ) (kf : KW Γ outc ids ad cl sl f2 (pc + 3) L st σ) : KW Γ outc ids ad cl sl (if x = y then f1 else f2) pc L (.int y :: .int x :: st) σ := by
  obtain ⟨p, l, e, R, s, m, args, below, meth, c, D, cT, base, sa, nL, Qf⟩ := Γ
  intro x0 hf H locs ls hR hS hL
  exact lv_icmp_eq C.1 C.2.1 d ht (fun h => kt x0 (by rw [if_pos h] at hf; exact hf) H locs ls hR hS hL) (fun h => kf x0 (by rw [if_neg h] at hf; exact hf) H locs ls hR hS hL)
theorem kw_if_eq (C : kw_Cx Γ l0 own cc ret nm tb nL0 rm) {x : Int32} {off : Int} {tgt : Nat} {f1 f2 : Option X} (d : decode cc pc = .ok (.ifCond .eq off, 3)) (ht : (pc : Int) + off = (tgt : Int)) (kt : KW Γ outc ids ad cl sl f1 tgt L st σ) (kf : KW Γ outc ids ad cl sl f2 (pc + 3) L st σ) : KW Γ outc ids ad cl sl (if x = 0 then f1 else f2) pc L (.int x :: st) σ := by
  obtain ⟨p, l, e, R, s, m, args, below, meth, c, D, cT, base, sa, nL, Qf⟩ := Γ
  intro x0 hf H locs ls hR hS hL
  exact lv_if_eq C.1 C.2.1 d ht (fun h => kt x0 (by rw [if_pos h] at hf; exact hf) H locs ls hR hS hL) (fun h => kf x0 (by rw [if_neg h] at hf; exact hf) H locs ls hR hS hL)
theorem kw_icmp_ne (C : kw_Cx Γ l0 own cc ret nm tb nL0 rm) {x y : Int32} {off : Int} {tgt : Nat} {f1 f2 : Option X} (d : decode cc pc = .ok (.if_icmp .ne off, 3)) (ht : (pc : Int) + off = (tgt : Int)) (kt : KW Γ outc ids ad cl sl f1 tgt L st σ) (kf : KW Γ outc ids ad cl sl f2 (pc + 3) L st σ) : KW Γ outc ids ad cl sl (if x = y then f2 else f1) pc L (.int y :: .int x :: st) σ := by
  obtain ⟨p, l, e, R, s, m, args, below, meth, c, D, cT, base, sa, nL, Qf⟩ := Γ
  intro x0 hf H locs ls hR hS hL
  exact lv_icmp_ne C.1 C.2.1 d ht (fun h => kt x0 (by rw [if_neg h] at hf; exact hf) H locs ls hR hS hL) (fun h => kf x0 (by rw [if_pos h] at hf; exact hf) H locs ls hR hS hL)
theorem kw_if_ne (C : kw_Cx Γ l0 own cc ret nm tb nL0 rm) {x : Int32} {off : Int} {tgt : Nat} {f1 f2 : Option X} (d : decode cc pc = .ok (.ifCond .ne off, 3)) (ht : (pc : Int) + off = (tgt : Int)) (kt : KW Γ outc ids ad cl sl f1 tgt L st σ) (kf : KW Γ outc ids ad cl sl f2 (pc + 3) L st σ) : KW Γ outc ids ad cl sl (if x = 0 then f2 else f1) pc L (.int x :: st) σ := by
  obtain ⟨p, l, e, R, s, m, args, below, meth, c, D, cT, base, sa, nL, Qf⟩ := Γ
  intro x0 hf H locs ls hR hS hL
  exact lv_if_ne C.1 C.2.1 d ht (fun h => kt x0 (by rw [if_neg h] at hf; exact hf) H locs ls hR hS hL) (fun h => kf x0 (by rw [if_pos h] at hf; exact hf) H locs ls hR hS hL)
theorem kw_icmp_lt (C : kw_Cx Γ l0 own cc ret nm tb nL0 rm) {x y : Int32} {off : Int} {tgt : Nat} {f1 f2 : Option X} (d : decode cc pc = .ok (.if_icmp .lt off, 3)) (ht : (pc : Int) + off = (tgt : Int)) (kt : KW Γ outc ids ad cl sl f1 tgt L st σ) (kf : KW Γ outc ids ad cl sl f2 (pc + 3) L st σ) : KW Γ outc ids ad cl sl (if x < y then f1 else f2) pc L (.int y :: .int x :: st) σ := by
  obtain ⟨p, l, e, R, s, m, args, below, meth, c, D, cT, base, sa, nL, Qf⟩ := Γ
  intro x0 hf H locs ls hR hS hL
  exact lv_icmp_lt C.1 C.2.1 d ht (fun h => kt x0 (by rw [if_pos h] at hf; exact hf) H locs ls hR hS hL) (fun h => kf x0 (by rw [if_neg h] at hf; exact hf) H locs ls hR hS hL)
theorem kw_if_lt (C : kw_Cx Γ l0 own cc ret nm tb nL0 rm) {x : Int32} {off : Int} {tgt : Nat} {f1 f2 : Option X} (d : decode cc pc = .ok (.ifCond .lt off, 3)) (ht : (pc : Int) + off = (tgt : Int)) (kt : KW Γ outc ids ad cl sl f1 tgt L st σ) (kf : KW Γ outc ids ad cl sl f2 (pc + 3) L st σ) : KW Γ outc ids ad cl sl (if x < 0 then f1 else f2) pc L (.int x :: st) σ := by
  obtain ⟨p, l, e, R, s, m, args, below, meth, c, D, cT, base, sa, nL, Qf⟩ := Γ
  intro x0 hf H locs ls hR hS hL
  exact lv_if_lt C.1 C.2.1 d ht (fun h => kt x0 (by rw [if_pos h] at hf; exact hf) H locs ls hR hS hL) (fun h => kf x0 (by rw [if_neg h] at hf; exact hf) H locs ls hR hS hL)
theorem kw_icmp_ge (C : kw_Cx Γ l0 own cc ret nm tb nL0 rm) {x y : Int32} {off : Int} {tgt : Nat} {f1 f2 : Option X} (d : decode cc pc = .ok (.if_icmp .ge off, 3)) (ht : (pc : Int) + off = (tgt : Int)) (kt : KW Γ outc ids ad cl sl f1 tgt L st σ) (kf : KW Γ outc ids ad cl sl f2 (pc + 3) L st σ) : KW Γ outc ids ad cl sl (if y ≤ x then f1 else f2) pc L (.int y :: .int x :: st) σ := by
  obtain ⟨p, l, e, R, s, m, args, below, meth, c, D, cT, base, sa, nL, Qf⟩ := Γ
  intro x0 hf H locs ls hR hS hL
  exact lv_icmp_ge C.1 C.2.1 d ht (fun h => kt x0 (by rw [if_pos h] at hf; exact hf) H locs ls hR hS hL) (fun h => kf x0 (by rw [if_neg h] at hf; exact hf) H locs ls hR hS hL)
theorem kw_if_ge (C : kw_Cx Γ l0 own cc ret nm tb nL0 rm) {x : Int32} {off : Int} {tgt : Nat} {f1 f2 : Option X} (d : decode cc pc = .ok (.ifCond .ge off, 3)) (ht : (pc : Int) + off = (tgt : Int)) (kt : KW Γ outc ids ad cl sl f1 tgt L st σ) (kf : KW Γ outc ids ad cl sl f2 (pc + 3) L st σ) : KW Γ outc ids ad cl sl (if 0 ≤ x then f1 else f2) pc L (.int x :: st) σ := by
  obtain ⟨p, l, e, R, s, m, args, below, meth, c, D, cT, base, sa, nL, Qf⟩ := Γ
  intro x0 hf H locs ls hR hS hL
  exact lv_if_ge C.1 C.2.1 d ht (fun h => kt x0 (by rw [if_pos h] at hf; exact hf) H locs ls hR hS hL) (fun h => kf x0 (by rw [if_neg h] at hf; exact hf) H locs ls hR hS hL)
theorem kw_icmp_gt (C : kw_Cx Γ l0 own cc ret nm tb nL0 rm) {x y : Int32} {off : Int} {tgt : Nat} {f1 f2 : Option X} (d : decode cc pc = .ok (.if_icmp .gt off, 3)) (ht : (pc : Int) + off = (tgt : Int)) (kt : KW Γ outc ids ad cl sl f1 tgt L st σ) (kf : KW Γ outc ids ad cl sl f2 (pc + 3) L st σ) : KW Γ outc ids ad cl sl (if y < x then f1 else f2) pc L (.int y :: .int x :: st) σ := by
  obtain ⟨p, l, e, R, s, m, args, below, meth, c, D, cT, base, sa, nL, Qf⟩ := Γ
  intro x0 hf H locs ls hR hS hL
  exact lv_icmp_gt C.1 C.2.1 d ht (fun h => kt x0 (by rw [if_pos h] at hf; exact hf) H locs ls hR hS hL) (fun h => kf x0 (by rw [if_neg h] at hf; exact hf) H locs ls hR hS hL)
theorem kw_if_gt (C : kw_Cx Γ l0 own cc ret nm tb nL0 rm) {x : Int32} {off : Int} {tgt : Nat} {f1 f2 : Option X} (d : decode cc pc = .ok (.ifCond .gt off, 3)) (ht : (pc : Int) + off = (tgt : Int)) (kt : KW Γ outc ids ad cl sl f1 tgt L st σ) (kf : KW Γ outc ids ad cl sl f2 (pc + 3) L st σ) : KW Γ outc ids ad cl sl (if 0 < x then f1 else f2) pc L (.int x :: st) σ := by
  obtain ⟨p, l, e, R, s, m, args, below, meth, c, D, cT, base, sa, nL, Qf⟩ := Γ
  intro x0 hf H locs ls hR hS hL
  exact lv_if_gt C.1 C.2.1 d ht (fun h => kt x0 (by rw [if_pos h] at hf; exact hf) H locs ls hR hS hL) (fun h => kf x0 (by rw [if_neg h] at hf; exact hf) H locs ls hR hS hL)
theorem kw_icmp_le (C : kw_Cx Γ l0 own cc ret nm tb nL0 rm) {x y : Int32} {off : Int} {tgt : Nat} {f1 f2 : Option X} (d : decode cc pc = .ok (.if_icmp .le off, 3)) (ht : (pc : Int) + off = (tgt : Int)) (kt : KW Γ outc ids ad cl sl f1 tgt L st σ) (kf : KW Γ outc ids ad cl sl f2 (pc + 3) L st σ) : KW Γ outc ids ad cl sl (if x ≤ y then f1 else f2) pc L (.int y :: .int x :: st) σ := by
  obtain ⟨p, l, e, R, s, m, args, below, meth, c, D, cT, base, sa, nL, Qf⟩ := Γ
  intro x0 hf H locs ls hR hS hL
  exact lv_icmp_le C.1 C.2.1 d ht (fun h => kt x0 (by rw [if_pos h] at hf; exact hf) H locs ls hR hS hL) (fun h => kf x0 (by rw [if_neg h] at hf; exact hf) H locs ls hR hS hL)
theorem kw_if_le (C : kw_Cx Γ l0 own cc ret nm tb nL0 rm) {x : Int32} {off : Int} {tgt : Nat} {f1 f2 : Option X} (d : decode cc pc = .ok (.ifCond .le off, 3)) (ht : (pc : Int) + off = (tgt : Int)) (kt : KW Γ outc ids ad cl sl f1 tgt L st σ) (kf : KW Γ outc ids ad cl sl f2 (pc + 3) L st σ) : KW Γ outc ids ad cl sl (if x ≤ 0 then f1 else f2) pc L (.int x :: st) σ := by
  obtain ⟨p, l, e, R, s, m, args, below, meth, c, D, cT, base, sa, nL, Qf⟩ := Γ
  intro x0 hf H locs ls hR hS hL
  exact lv_if_le C.1 C.2.1 d ht (fun h => kt x0 (by rw [if_pos h] at hf; exact hf) H locs ls hR hS hL) (fun h => kf x0 (by rw [if_neg h] at hf; exact hf) H locs ls hR hS hL)
theorem kw_goto (C : kw_Cx Γ l0 own cc ret nm tb nL0 rm) {off : Int} {tgt : Nat} (d : decode cc pc = .ok (.goto off, 3)) (ht : (pc : Int) + off = (tgt : Int)) (k : KW Γ outc ids ad cl sl f tgt L st σ) : KW Γ outc ids ad cl sl f pc L st σ := by
  obtain ⟨p, l, e, R, s, m, args, below, meth, c, D, cT, base, sa, nL, Qf⟩ := Γ
  intro x0 hf H locs ls hR hS hL
  exact lv_goto C.1 C.2.1 d ht (k x0 hf H locs ls hR hS hL)
/-- a switch, value by value -/
theorem kw_sw {x v : Int32} {f1 f2 : Option X} (kt : KW Γ outc ids ad cl sl f1 pc L (.int v :: st) σ) (kf : ¬ x = v → KW Γ outc ids ad cl sl f2 pc L (.int x :: st) σ) : KW Γ outc ids ad cl sl (if x = v then f1 else f2) pc L (.int x :: st) σ := by
  by_cases h : x = v
  · rw [if_pos h, h]; exact kt
  · rw [if_neg h]; exact kf h
theorem kw_tsIn (C : kw_Cx Γ l0 own cc ret nm tb nL0 rm) {dflt lo hi : Int} {offs : Array Int} {len : Nat} {x : Int32} {off : Int} {tgt : Nat} (d : decode cc pc = .ok (.tableswitch dflt lo hi offs, len)) (h1 : ¬ x.toInt < lo) (h2 : ¬ hi < x.toInt) (ho : offs[(x.toInt - lo).toNat]? = some off) (ht : (pc : Int) + off = (tgt : Int)) (k : KW Γ outc ids ad cl sl f tgt L st σ) : KW Γ outc ids ad cl sl f pc L (.int x :: st) σ := by
  obtain ⟨p, l, e, R, s, m, args, below, meth, c, D, cT, base, sa, nL, Qf⟩ := Γ
  intro x0 hf H locs ls hR hS hL
  exact lv_tableIn C.1 C.2.1 d h1 h2 ho ht (k x0 hf H locs ls hR hS hL)
theorem kw_tsOut (C : kw_Cx Γ l0 own cc ret nm tb nL0 rm) {dflt lo hi : Int} {offs : Array Int} {len : Nat} {x : Int32} {tgt : Nat} (d : decode cc pc = .ok (.tableswitch dflt lo hi offs, len)) (h : x.toInt < lo ∨ hi < x.toInt) (ht : (pc : Int) + dflt = (tgt : Int)) (k : KW Γ outc ids ad cl sl f tgt L st σ) : KW Γ outc ids ad cl sl f pc L (.int x :: st) σ := by
  obtain ⟨p, l, e, R, s, m, args, below, meth, c, D, cT, base, sa, nL, Qf⟩ := Γ
  intro x0 hf H locs ls hR hS hL
  exact lv_tableOut C.1 C.2.1 d h ht (k x0 hf H locs ls hR hS hL)
theorem kw_lsw (C : kw_Cx Γ l0 own cc ret nm tb nL0 rm) {dflt : Int} {ps : Array (Int × Int)} {len : Nat} {x : Int32} {off : Int} {tgt : Nat} (d : decode cc pc = .ok (.lookupswitch dflt ps, len)) (hp : (ps.toList.zip (ps.toList.drop 1)).all (fun (a, next) => a.1 < next.1) = true) (ho : Op.lookupswitch.offset ps.toList dflt x.toInt = off) (ht : (pc : Int) + off = (tgt : Int)) (k : KW Γ outc ids ad cl sl f tgt L st σ) : KW Γ outc ids ad cl sl f pc L (.int x :: st) σ := by
  obtain ⟨p, l, e, R, s, m, args, below, meth, c, D, cT, base, sa, nL, Qf⟩ := Γ
  intro x0 hf H locs ls hR hS hL
  exact lv_lookup C.1 C.2.1 d hp ho ht (k x0 hf H locs ls hR hS hL)
/-- a computed value gets a name -/
theorem kw_let {α : Type} {a : α} {g : α → Option X} {st' : α → List Value} (k : ∀ x, KW Γ outc ids ad cl sl (g x) pc L (st' x) σ) : KW Γ outc ids ad cl sl (kf_let a g) pc L (st' a) σ := k a
theorem kw_leti {a : Int32} {g : Int32 → Option X} (k : ∀ x, KW Γ outc ids ad cl sl (g x) pc L (.int x :: st) σ) : KW Γ outc ids ad cl sl (kf_let a g) pc L (.int a :: st) σ := k a
theorem kw_letl {a : Int64} {g : Int64 → Option X} (k : ∀ x, KW Γ outc ids ad cl sl (g x) pc L (.long x :: st) σ) : KW Γ outc ids ad cl sl (kf_let a g) pc L (.long a :: st) σ := k a
theorem kw_wk (k : KW Γ outc ids ad cl sl f pc L st σ) (hw : kw_le L L') : KW Γ outc ids ad cl sl f pc L' st σ := by
  obtain ⟨p, l, e, R, s, m, args, below, meth, c, D, cT, base, sa, nL, Qf⟩ := Γ
  intro x0 hf H locs ls hR hS hL
  refine k x0 hf H locs ls hR hS ⟨hL.1, hL.2.1, fun q hq => ?_⟩
  obtain ⟨w, hw2, e9⟩ := kw_as_mem.mp hq
  exact hL.2.2 q (kw_as_mem.mpr ⟨w, kw_le_at L L' hw q.1 w hw2, e9⟩)
theorem kw_j {α : Type} {pcj : Nat} {Lj : α → List (Option Value)} {stj : α → List Value} {j : α → Mm → Option X} {b : (α → Mm → Option X) → Option X} (hj : ∀ x σ1, KW Γ outc ids ad cl sl (j x σ1) pcj (Lj x) (stj x) σ1) (hb : ∀ k, (∀ x σ1, KW Γ outc ids ad cl sl (k x σ1) pcj (Lj x) (stj x) σ1) → KW Γ outc ids ad cl sl (b k) pc L st σ) : KW Γ outc ids ad cl sl (kf_j j b) pc L st σ := hb j hj
theorem kw_l {α : Type} {Lj : α → List (Option Value)} {stj : α → List Value} {b : (α → Mm → Option X) → α → Mm → Option X} (hb : ∀ k, (∀ x σ1, KW Γ outc ids ad cl sl (k x σ1) pc (Lj x) (stj x) σ1) → ∀ x σ1, KW Γ outc ids ad cl sl (b k x σ1) pc (Lj x) (stj x) σ1) : ∀ (n : Nat) (x : α) (σ1 : Mm), KW Γ outc ids ad cl sl (kf_l n b x σ1) pc (Lj x) (stj x) σ1 := by
  intro n
  induction n with
  | zero => intro x σ1; exact kw_none
  | succ n ih => intro x σ1; exact hb _ ih x σ1
theorem kw_iincL (C : kw_Cx Γ l0 own cc ret nm tb nL0 rm) {i : Nat} {n : Int} {x : Int32} {g : Int32 → Option X} {L2 : Int32 → List (Option Value)} (d : decode cc pc = .ok (.iinc i n, 3)) (hi : i < nL0) (hx : L[i]? = some (some (.int x))) (hl : ∀ v, kw_st1 L i (.int v) = L2 v) (k : ∀ v, KW Γ outc ids ad cl sl (g v) (pc + 3) (L2 v) st σ) : KW Γ outc ids ad cl sl (kf_let (x + Int32.ofInt n) g) pc L st σ :=
  kw_iinc C d hi hx rfl (hl _) (k _)
theorem kw_iincW (C : kw_Cx Γ l0 own cc ret nm tb nL0 rm) {i : Nat} {n : Int} {x : Int32} {g : Int32 → Option X} {L2 : Int32 → List (Option Value)} (d : decode cc pc = .ok (.iinc i n, 6)) (hi : i < nL0) (hx : L[i]? = some (some (.int x))) (hl : ∀ v, kw_st1 L i (.int v) = L2 v) (k : ∀ v, KW Γ outc ids ad cl sl (g v) (pc + 6) (L2 v) st σ) : KW Γ outc ids ad cl sl (kf_let (x + Int32.ofInt n) g) pc L st σ := by
  have k := k (x + Int32.ofInt n)
  have hl := hl (x + Int32.ofInt n)
  obtain ⟨p, l, e, R, s, m, args, below, meth, c, D, cT, base, sa, nL, Qf⟩ := Γ
  have hnL : nL = nL0 := C.2.2.2.2.2.2.2.2.2.2.2.2.1
  subst hnL
  intro x0 hf H locs ls hR hS hL
  obtain ⟨k0, hk0⟩ := List.getElem?_of_mem (kw_as_mem.mpr ⟨_, hx, rfl⟩ : (i, kw_tr ad (.int x)) ∈ kw_as ad L)
  exact lv_iincW C.1 C.2.1 d hL hk0 rfl hi rfl (fun ls' h' => k x0 hf H locs ls' hR hS (hl ▸ kw_has1 (v := .int (x + Int32.ofInt n)) h'))
end KWR
