/-! WHAT A THROW ASKS of the heap as it was before the system's own things -/
def kw_exc : List String := ["java/lang/IllegalArgumentException", "java/lang/IllegalStateException", "java/lang/IndexOutOfBoundsException", "java/lang/UnsupportedOperationException"]
/-- which of them no catch of which other takes -/
def kw_ncs : List (String × String) := [("java/lang/IllegalArgumentException", "java/lang/IllegalStateException"), ("java/lang/IndexOutOfBoundsException", "java/lang/IllegalStateException"), ("java/lang/IllegalArgumentException", "java/lang/IndexOutOfBoundsException"), ("java/lang/UnsupportedOperationException", "java/lang/IllegalStateException"), ("java/lang/UnsupportedOperationException", "java/lang/IllegalArgumentException")]
/-- the constructors above them -/
def kw_dcl : List MethodName := [⟨"java/lang/RuntimeException", "<init>", "()V"⟩, ⟨"java/lang/Exception", "<init>", "()V"⟩, ⟨"java/lang/Throwable", "<init>", "()V"⟩]
/-- where a static field lies, apart from the system's things -/
def kw_Lt (C n d : String) (base : Nat) (U : State) (H : Heap) : Prop := ∃ (c : ClassId) (k : Class) (i : Nat) (f : Field) (a : Nat) (cell : Cell), (U.vm.findClass C = some c ∧ U.fieldFound? C n d = some (c, k, i, f) ∧ f.isStatic = true ∧ k.statics = some a ∧ k.staticTypes[f.slot]? = some f.type) ∧ H[a]? = some cell ∧ cell.vm.isStatics = true ∧ cell.cls = c ∧ f.slot < cell.slots.size ∧ ¬ base ≤ a
theorem kw_Lt.moved {C n d : String} {base : Nat} {u U : State} {H H1 : Heap} (hvm : u.vm.Alike U.vm) (hq : ∀ a : Nat, a < H.size → ¬ base ≤ a → H1[a]? = H[a]?) (h : kw_Lt C n d base u H) : kw_Lt C n d base U H1 := by
  obtain ⟨c, k, i, f, a, cell, ⟨h1, h2, h3, h4, h5⟩, h6, h7, h8, h9, h10⟩ := h
  obtain ⟨k', hi', he⟩ := State.fieldFound?_setVm hvm h2
  refine ⟨c, k', i, f, a, cell, ⟨by rw [hvm.findClass]; exact h1, hi', h3, by rw [he]; exact h4, by rw [he]; exact h5⟩, ?_, h7, h8, h9, h10⟩
  rw [hq a (Array.getElem?_eq_some_iff.mp h6).1 h10]
  exact h6
theorem kw_Lt.word {C n d : String} {base : Nat} {s : State} {args : Array Value} (h : kw_Lt C n d base s s.heap) : (Cond.laysStatic C n d).before args s = true := by
  obtain ⟨c, k, i, f, a, cell, ⟨h1, h2, h3, h4, h5⟩, h6, h7, h8, h9, -⟩ := h
  exact Cond.laysStatic_of h1 h2 h3 h4 h6 h7 h8 h9 h5
theorem kw_Lt.of {C n d : String} {base : Nat} {s : State} {args : Array Value} (hl : (Cond.laysStatic C n d).before args s = true) (hA : ∀ a : Nat, a < s.heap.size → ¬ base ≤ a) : kw_Lt C n d base s s.heap := by
  obtain ⟨c, k, i, f, a, cell, h1, h2, h3, h4, h5, h6, h7, h8, h9⟩ := Cond.laysStatic_spec hl
  exact ⟨c, k, i, f, a, cell, ⟨h1, h2, h3, h4, h9⟩, h5, h6, h7, h8, hA a (Array.getElem?_eq_some_iff.mp h5).1⟩
def kw_Th (base : Nat) (U : State) : Prop :=
  (va_Zq Bundle.tN "UNASSIGNED_STACK" Bundle.steD (fun a => base ≤ a) U U.heap ∧ kw_Lt Bundle.tN "UNASSIGNED_STACK" Bundle.steD base U U.heap) ∧
  (va_Zq Bundle.tN "SUPPRESSED_SENTINEL" Bundle.listD (fun a => base ≤ a) U U.heap ∧ kw_Lt Bundle.tN "SUPPRESSED_SENTINEL" Bundle.listD base U U.heap) ∧
  (∀ X ∈ kw_exc, (Cond.castable X X).before #[] U = true) ∧ (∀ q ∈ kw_ncs, va_Nc q.1 q.2 U) ∧ ∀ y ∈ kw_dcl, va_Nw (.declares y) U
theorem kw_cast_moved {X : String} {s U : State} (hvm : s.vm.Alike U.vm) (h : (Cond.castable X X).before #[] s = true) : (Cond.castable X X).before #[] U = true := by
  have e := Cond.onTables_vm (A := #[]) (A' := #[]) (U := s) (U' := U) U.vm (.castable X X) rfl
  rw [Cond.castable_setVm hvm] at e
  exact e ▸ h
theorem kw_Th.moved {base : Nat} {s U : State} {H : Heap} {locs : List Loc} (h : kw_Th base s) (hS : va_S (fun q => base ≤ q) s.heap H locs) (hU : U.heap = H) (hW : s.WarmedH U.vm) : kw_Th base U := by
  subst hU
  obtain ⟨⟨h1, h2⟩, ⟨h3, h4⟩, h5, h6, h7⟩ := h
  exact ⟨⟨va_Zq.moved hW.alike (h1.kept hS.2.1), h2.moved hW.alike hS.2.1⟩, ⟨va_Zq.moved hW.alike (h3.kept hS.2.1), h4.moved hW.alike hS.2.1⟩, fun X hX => kw_cast_moved hW.alike (h5 X hX), fun q hq => va_Nc.moved hW.alike (h6 q hq), fun y hy => va_Nw.warmD hW (h7 y hy)⟩
theorem kw_Th.calling {base : Nat} {U : State} {g : JFrame} {mk : MethodId} {a : Array Value} (h : kw_Th base U) : kw_Th base (U.calling g mk a) := by
  obtain ⟨⟨h1, h2⟩, ⟨h3, h4⟩, h5, h6, h7⟩ := h
  have hv : U.vm.Alike (U.calling g mk a).vm := Vm.Alike.refl U.vm
  exact ⟨⟨va_Zq.moved hv h1, h2.moved hv (fun _ _ _ => rfl)⟩, ⟨va_Zq.moved hv h3, h4.moved hv (fun _ _ _ => rfl)⟩, fun X hX => kw_cast_moved hv (h5 X hX), fun q hq => va_Nc.moved hv (h6 q hq), fun y hy => va_Nw.same rfl (u := U) (U := U.calling g mk a) rfl (h7 y hy)⟩
