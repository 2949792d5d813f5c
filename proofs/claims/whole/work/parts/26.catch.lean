/-! CATCHES: a method with a table of handlers, each for one class; all of them cover the call -/
/-- a row of a table (from, to, handler, entry of the pool) with the class's name -/
abbrev kw_H : Type := (Nat × Nat × Nat × Nat) × String
def kw_row (q : kw_H) : ExceptionTableEntry := { startPc := q.1.1, endPc := q.1.2.1, handlerPc := q.1.2.2.1, catchType := q.1.2.2.2 }
def kw_hok (own : String) (pc : Nat) (hs : List kw_H) : Prop := ∀ q ∈ hs, (q.1.1 ≤ pc ∧ pc < q.1.2.1) ∧ q.1.2.2.2 ≠ 0 ∧ Cond.classLink own q.1.2.2.2 q.2 ∈ kw_Ts
/-- where an exception of class E is taken -/
def kw_take (E : String) : List kw_H → Option Nat
  | [] => none
  | q :: t => if q.2 = E then some q.1.2.2.1 else if (E, q.2) ∈ kw_ncs then kw_take E t else none
theorem kw_self (vm : Vm) (c : ClassId) : vm.assignable c c = true := by
  show vm.assignableAux (255 + 1) c c = true
  rw [Vm.assignableAux, Bool.or_eq_true, beq_iff_eq]
  exact Or.inl rfl
/-- one row: the class is looked up; it takes the object or not -/
theorem kw_onerow {Q : Handler → Pre} {E : CtlPost} {e : Env} {d : Bool} {acts : List Action} {S : State} {f : JFrame} {a : Addr} {q : kw_H} {t : List ExceptionTableEntry} {c k1 : ClassId} {cell : Cell} {kc kk : Class} (hc : q.1.1 ≤ f.pc ∧ f.pc < q.1.2.1) (h0 : q.1.2.2.2 ≠ 0) (hl : S.vm.ClassLinks e.platform f.method.cls q.1.2.2.2 c) (hcell : S.heap[a]? = some cell) (hvm : cell.vm = .none) (h1 : S.vm.classes[cell.cls]? = some kc) (h2 : S.vm.classes[c]? = some kk) :
    wp (findHandler.go f a (kw_row q :: t)) Q E e d acts S ↔ if S.vm.assignable cell.cls c = true then Q (.found q.1.2.2.1) d acts (S.setVm (S.vm.noted f.method.cls q.1.2.2.2 (.cls c))) else wp (findHandler.go f a t) Q E e d acts (S.setVm (S.vm.noted f.method.cls q.1.2.2.2 (.cls c))) := by
  obtain ⟨ha, ht⟩ := (resolveClass_links e.toSetting hl).op (op := VmOp.resolveClass f.method.cls q.1.2.2.2) rfl
  have hal : S.vm.Alike (S.vm.noted f.method.cls q.1.2.2.2 (.cls c)) := (Vm.Alike.refl S.vm).noted _ _ _
  obtain ⟨kc', hc', -⟩ := hal.2.2 _ _ h1
  obtain ⟨kk', hk', -⟩ := hal.2.2 _ _ h2
  have hobj : ∀ k, cell.vm ≠ .statics k := fun k z => by rw [hvm] at z; cases z
  have ea : (S.vm.noted f.method.cls q.1.2.2.2 (.cls c)).assignable cell.cls c = S.vm.assignable cell.cls c := hal.assignable _ _
  cases hfit : S.vm.assignable cell.cls c <;> rw [hfit] at ea <;> simp [findHandler.go, kw_row, hc.1, hc.2, h0, ha, ht, hcell, hobj, hc', hk', ea, VmOp.dirties, VmOp.acts]
theorem kw_search {e : Env} {s : State} {args : Array Value} {base : Nat} {own Ex : String} {f : JFrame} {a : Addr} {cell : Cell} {pc' : Nat} (hown : s.vm.findClass own = some f.method.cls) (hpl : e.platform.magicAccessors = ({} : Platform).magicAccessors) (hts : ∀ w ∈ kw_Ts, w.before args s = true) (hTh : kw_Th base s) (hE : s.vm.findClass Ex = some cell.cls) (hvm : cell.vm = .none) :
    ∀ (hs : List kw_H) (S : State), s.WarmedH S.vm → S.heap[a]? = some cell → kw_hok own f.pc hs → kw_take Ex hs = some pc' → ∃ vm', s.WarmedH vm' ∧ ∀ (Q : Handler → Pre) (E : CtlPost) (d : Bool) (acts : List Action), wp (findHandler.go f a (hs.map kw_row)) Q E e d acts S ↔ Q (.found pc') d acts (S.setVm vm') := by
  intro hs
  induction hs with
  | nil => intro S _ _ _ h; cases h
  | cons q t ih =>
    intro S hW hcell hok ht
    obtain ⟨hc, h0, hlw⟩ := hok q List.mem_cons_self
    obtain ⟨cT, hcT, hl⟩ := Cond.classLink_spec hown (hts _ hlw) e.platform hpl
    obtain ⟨dk, _, _, kt, hd, _, _, _, _, hkt, _, hopen⟩ := hl.here
    obtain ⟨kt', hkt', -⟩ := hW.alike.2.2 _ _ hkt
    obtain ⟨ko, hko⟩ := Vm.classAt_of_findClass hE
    obtain ⟨ko', hko', -⟩ := hW.alike.2.2 _ _ hko
    have hW' := hW.noted hd hopen (State.rightAt_cls hl)
    have hrow := fun (Q : Handler → Pre) (E : CtlPost) (d : Bool) (acts : List Action) => kw_onerow (Q := Q) (E := E) (d := d) (acts := acts) (k1 := 0) (t := t.map kw_row) hc h0 (hW.classLinks hl) hcell hvm hko' hkt'
    unfold kw_take at ht
    by_cases hq : q.2 = Ex
    · rw [if_pos hq] at ht
      cases ht
      rw [hq, hE] at hcT
      cases hcT
      refine ⟨_, hW', fun Q E d acts => ?_⟩
      rw [List.map_cons, hrow, if_pos (kw_self _ _)]
    · rw [if_neg hq] at ht
      by_cases hn : (Ex, q.2) ∈ kw_ncs
      · rw [if_pos hn] at ht
        obtain ⟨c1, c2, g1, g2, g3⟩ := hTh.2.2.2.1 _ hn
        rw [hE] at g1
        cases g1
        rw [hcT] at g2
        cases g2
        obtain ⟨vm', hv, hgo⟩ := ih (S.setVm _) hW' hcell (fun z hz => hok z (List.mem_cons_of_mem _ hz)) ht
        refine ⟨vm', hv, fun Q E d acts => ?_⟩
        rw [List.map_cons, hrow, if_neg (by rw [hW.alike.assignable, g3]; decide)]
        exact hgo Q E d acts
      · rw [if_neg hn] at ht; cases ht
/-- the step into the handler -/
theorem kw_into {tb : Tables} {e : Env} {T target : State} {g : JFrame} {c : Code} {below : List Frame} {a : Addr} (h : At T g.method c below) {pc' : Nat} {vm' : Vm} (hfind : ∀ (Q : Handler → Pre) (E : CtlPost) (d : Bool) (acts : List Action), wp (findHandler g a) Q E e d acts ((T.setTop g).pushFrame (.throwing a)) ↔ Q (.found pc') d acts (((T.setTop g).pushFrame (.throwing a)).setVm vm'))
    (hrest : Steps tb e below ((T.setVm vm').setTop { g with pc := pc', stack := [.ref a] }) target) : Steps tb e below ((T.setTop g).pushFrame (.throwing a)) target := by
  obtain ⟨hgo, hw⟩ := h.throwing a
  refine Steps.head hgo hw ?_
  have hstep : (stepThrowing e ((T.setTop g).pushFrame (.throwing a)) a (.java g :: T.frames.tail)).Is ((((T.setTop g).pushFrame (.throwing a)).setVm vm').setFrames (.java { g with pc := pc', stack := [.ref a] } :: T.frames.tail)) [] := by
    simp only [stepThrowing, searchFrame, vmDo]
    generalize hr : Sem.go _ e false [] _ = res
    obtain ⟨as, rfl, ha⟩ := Sem.eq_ok_of hr (a := Handler.found pc') (s' := ((T.setTop g).pushFrame (.throwing a)).setVm vm') (acts' := []) (by simp [hfind _ _ _ _])
    exact ⟨rfl, ha⟩
  rw [stepThread_throwing (frames_entered h.top _), hstep.1]
  obtain ⟨g₀, hg⟩ := Option.isSome_iff_exists.mp h.top
  obtain ⟨r, hr⟩ := State.topJava?_eq_some.mp hg
  have hr2 : (T.setVm vm').frames = .java g₀ :: r := hr
  rw [State.setTop_of_frames _ hr2] at hrest
  have e1 : (((T.setTop g).pushFrame (.throwing a)).setVm vm').setFrames (.java { g with pc := pc', stack := [.ref a] } :: T.frames.tail) = (T.setVm vm').setFrames (.java { g with pc := pc', stack := [.ref a] } :: r) := by
    rw [hr, List.tail_cons, State.pushFrame, State.setTop_of_frames _ hr, State.setFrames_setFrames]
    show ((T.setVm vm').setFrames _).setFrames _ = _
    rw [State.setFrames_setFrames]
  rw [e1]
  exact hrest
/-- the locals when one is lost -/
def kw_er (L : List (Option Value)) (i : Nat) : List (Option Value) := (kw_st1 L i .null).set i none
theorem kw_hasE {ad : Nat → Nat} {L : List (Option Value)} {ls : Array Slot} {nL i : Nat} {v : Value} (h : lv_has ls nL ((i, v) :: (kw_as ad L).filter (fun q => !(q.1 == i) && !(q.1 + 1 == i && q.2.category == 2)))) : lv_has ls nL (kw_as ad (kw_er L i)) := by
  refine ⟨h.1, h.2.1, fun q hq => ?_⟩
  obtain ⟨w, hw, e⟩ := kw_as_mem.mp hq
  apply h.2.2
  obtain ⟨q1, q2⟩ := q
  simp only at hw e
  unfold kw_er at hw
  have hne : q1 ≠ i := by
    intro z
    rw [z, List.getElem?_set] at hw
    simp at hw
  rw [List.getElem?_set_ne (Ne.symm hne)] at hw
  rcases kw_st1_at L i .null q1 w hw with ⟨e1, e2⟩ | ⟨e1, e2, e3⟩
  · exact absurd e1 hne
  · refine List.mem_cons_of_mem _ (List.mem_filter.mpr ⟨kw_as_mem.mpr ⟨w, e2, e⟩, ?_⟩)
    simp only [e, kw_trc]
    simp [e1]
    by_cases z9 : q1 + 1 = i
    · exact Or.inr fun b => e3 ⟨z9, b⟩
    · exact Or.inl z9
/-- a callee that may throw: 'hd' says what is done with what it throws -/
def kf_h {A X : Type} (f : Option ((A ⊕ String) × Mm)) (hd : String → Mm → Option X) (g : A → Mm → Option X) : Option X := f.bind (fun x => match x.1 with
  | .inl r => g r x.2
  | .inr E => hd E x.2)
section KWH
variable {Γ : kw_G} {l0 : Launch} {own : String} {cc : ByteArray} {ret : Option FieldType} {nm : String} {tb : List ExceptionTableEntry} {hs : List kw_H} {nL0 : Nat} {rm : Room} {ids1 nw1 : List Nat} {ad1 : Nat → Nat} {X : Type} {outc : X → (Option Value ⊕ String) × Mm} {ids : List Nat} {ad : Nat → Nat} {cl sl pc : Nat} {f : Option X} {L L' : List (Option Value)} {st stk : List Value} {σ : Mm}
theorem kx_none {E : String} : KX Γ outc ids ad cl sl E none pc L st σ := by
  obtain ⟨p, l, e, R, s, m, args, below, meth, c, D, cT, base, sa, nL, Qf⟩ := Γ
  intro x0 hf
  cases hf
theorem kx_if {E N : String} {f1 f2 : Option X} (k1 : KX Γ outc ids ad cl sl N f1 pc L st σ) (k2 : E ≠ N → KX Γ outc ids ad cl sl E f2 pc L st σ) : KX Γ outc ids ad cl sl E (if E = N then f1 else f2) pc L st σ := by
  by_cases h : E = N
  · rw [if_pos h, h]; exact k1
  · rw [if_neg h]; exact k2 h
theorem kx_catch (C : kw_Cx Γ l0 own cc ret nm (hs.map kw_row) nL0 rm) {E : String} {pc' i : Nat} {len : Nat} (hok : kw_hok own pc hs) (ht : kw_take E hs = some pc') (hd : decode cc pc' = .ok (.astore i, 2) ∧ len = 2 ∨ ∃ k : Fin 4, (k : Nat) = i ∧ decode cc pc' = .ok (.astore_n k, 1) ∧ len = 1) (hi : i < nL0) (hl : kw_er L i = L') (k : KW Γ outc ids ad cl sl f (pc' + len) L' [] σ) : KX Γ outc ids ad cl sl E f pc L st σ := by
  obtain ⟨p, l, e, R, s, m, args, below, meth, c, D, cT, base, sa, nL, Qf⟩ := Γ
  intro x0 hf T locs ls ce q9 hR hS hL hce hcv hcl9 X
  obtain ⟨hx, hb, hml, hown, hts, hSt, hl9, hlk, htb, hret, hname, e0, e1, e2⟩ := id C
  subst e1
  subst hl
  have hpl : e.platform.magicAccessors = ({} : Platform).magicAccessors := by rw [X.admits.platform]
  have hgo : W p l e R s m args below meth c T.heap locs cl sl (Qf (outc x0)) (F0 m pc' ls [.ref q9]) := by
    rcases hd with ⟨d, rfl⟩ | ⟨k9, hk9, d, rfl⟩
    · exact lv_astore hx hb d hL hi rfl (fun ls' h' => k x0 hf T.heap locs ls' hR hS (kw_hasE h'))
    · exact lv_astore_n hx hb d hk9 hL hi rfl (fun ls' h' => k x0 hf T.heap locs ls' hR hS (kw_hasE h'))
  obtain ⟨vm', hv, hq⟩ := kw_search (e := e) (f := F0 m pc ls (st.map (kw_tr ad))) (a := q9) (cell := ce) (pc' := pc') hown hpl hts hSt.2.2.2.2.2 hcl9 hcv hs ((T.setTop (F0 m pc ls (st.map (kw_tr ad)))).pushFrame (.throwing q9)) X.warmed hce hok ht
  obtain ⟨t, a1, a2⟩ := hgo (T.setVm vm') rfl (X.noted hv)
  refine ⟨t, kw_into (g := F0 m pc ls (st.map (kw_tr ad))) X.here (vm' := vm') (pc' := pc') (fun Q E9 d acts => ?_) a1, a2⟩
  rw [W.findHandler_eq (meth := meth) (code := c) X.method' X.code, htb]
  exact hq Q E9 d acts
variable {y : MethodName} {bytes : ByteArray} {maxL idx : Nat} {ret' : Option FieldType} {rm' : Room} {As : List Value} {t ci cl' sl' : Nat}
/-- a call whose throws are caught here -/
theorem kw_callVhi (C : kw_Cx Γ l0 own cc ret nm tb nL0 rm) {f' : Option ((Int32 ⊕ String) × Mm)} {g : Int32 → Mm → Option X} {hd : String → Mm → Option X} (hM : kw_C l0 y (Cond.code y bytes maxL ret' :: kw_Ts) rm' kw_oti ids [] (.ref t :: As) σ f') (mi : kw_mi own idx y bytes maxL ret' As.length) (hi : Cond.instanceMethod y ∈ kw_Ts ∧ Cond.selects y.cls y y ∈ kw_Ts) (hc : ∃ T N, mm_cl[ci]? = some (y.cls, T, N)) (ho : mm_ok ids t 1 ci) (hrm : rm'.frames + 1 ≤ rm.frames ∧ 8 + (maxL + 11) + rm'.locals ≤ rm.locals) (hst : (st.map fun v => v.category).sum ≤ 8) (hcl : cl + rm'.cells ≤ rm.cells ∧ sl + rm'.slots ≤ rm.slots) (he : cl + rm'.cells = cl' ∧ sl + rm'.slots = sl') (hs : stk = As.reverse ++ .ref t :: st) (d : decode cc pc = .ok (.invokevirtual idx, 3))
    (kx : ∀ E σ1, KX Γ outc ids ad cl' sl' E (hd E σ1) pc L st σ1) (kk : ∀ r σ1, KW Γ outc ids ad cl' sl' (g r σ1) (pc + 3) L (.int r :: st) σ1) : KW Γ outc ids ad cl sl (kf_h f' hd g) pc L stk σ := by
  obtain ⟨rfl, rfl⟩ := he
  refine kw_callV C hM mi hi hc ho hrm hst hcl hs d (fun x' v h w hw => ?_) (fun x' v _ h => ?_) (fun x' E0 _ h => ?_)
  · obtain ⟨r | E0, σ1⟩ := x'
    · cases h; simp at hw; rw [hw]; rfl
    · cases h
  · obtain ⟨r | E0, σ1⟩ := x'
    · cases h; exact kk _ _
    · cases h
  · obtain ⟨r | E1, σ1⟩ := x'
    · cases h
    · cases h; exact kx _ _
theorem kw_callVhv (C : kw_Cx Γ l0 own cc ret nm tb nL0 rm) {f' : Option ((Unit ⊕ String) × Mm)} {g : Unit → Mm → Option X} {hd : String → Mm → Option X} (hM : kw_C l0 y (Cond.code y bytes maxL ret' :: kw_Ts) rm' kw_otv ids [] (.ref t :: As) σ f') (mi : kw_mi own idx y bytes maxL ret' As.length) (hi : Cond.instanceMethod y ∈ kw_Ts ∧ Cond.selects y.cls y y ∈ kw_Ts) (hc : ∃ T N, mm_cl[ci]? = some (y.cls, T, N)) (ho : mm_ok ids t 1 ci) (hrm : rm'.frames + 1 ≤ rm.frames ∧ 8 + (maxL + 11) + rm'.locals ≤ rm.locals) (hst : (st.map fun v => v.category).sum ≤ 8) (hcl : cl + rm'.cells ≤ rm.cells ∧ sl + rm'.slots ≤ rm.slots) (he : cl + rm'.cells = cl' ∧ sl + rm'.slots = sl') (hs : stk = As.reverse ++ .ref t :: st) (d : decode cc pc = .ok (.invokevirtual idx, 3))
    (kx : ∀ E σ1, KX Γ outc ids ad cl' sl' E (hd E σ1) pc L st σ1) (kk : ∀ r σ1, KW Γ outc ids ad cl' sl' (g r σ1) (pc + 3) L st σ1) : KW Γ outc ids ad cl sl (kf_h f' hd g) pc L stk σ := by
  obtain ⟨rfl, rfl⟩ := he
  refine kw_callV C hM mi hi hc ho hrm hst hcl hs d (fun x' v h w hw => ?_) (fun x' v _ h => ?_) (fun x' E0 _ h => ?_)
  · obtain ⟨r | E0, σ1⟩ := x'
    · cases h; cases hw
    · cases h
  · obtain ⟨r | E0, σ1⟩ := x'
    · cases h; exact kk _ _
    · cases h
  · obtain ⟨r | E1, σ1⟩ := x'
    · cases h
    · cases h; exact kx _ _
end KWH
theorem kw_goodw {w0 : Cond} (h : w0 ∈ kw_Ts) : GoodIn kw_Ts (w0 :: kw_Ts) := by
  have g : ∀ w ∈ kw_Ts, w ∈ kw_Ts ∧ ((w.onTables && w.keeps) = true ∨ ∃ ty, w = .arrayClass ty) := fun w hw => ⟨hw, good_of_word (List.mem_filter.mp hw).2⟩
  intro w hw
  rcases List.mem_cons.mp hw with e | hw
  · rw [e]; exact g _ h
  · exact g w hw
/-- THE CONTRACT of a method with handlers, out of its walk -/
theorem kw_startH {l : Launch} {y : MethodName} {cc : ByteArray} {maxL : Nat} {ret : Option FieldType} {hs : List kw_H} {rm : Room} {X : Type} {outc : X → (Option Value ⊕ String) × Mm} {ids nw : List Nat} {vs : List Value} {σ : Mm} {f : Option X} {L0 : List (Option Value)} (hl : l.stackTraces = false) (hy : plainName y.cls = true) (hn : (kw_en vs).length ≤ maxL) (hL0 : kw_en vs ++ List.replicate (maxL - (kw_en vs).length) none = L0)
    (body : ∀ (Γ : kw_G) (ad : Nat → Nat), kw_Cx Γ l y.cls cc ret y.name (hs.map kw_row) maxL rm → kw_Ce Γ rm ids nw ad → KW Γ outc ids ad 0 0 f 0 L0 [] σ) : kw_C l y (Cond.codeWith y cc maxL ret (hs.map Prod.fst) :: kw_Ts) rm outc ids nw vs σ f := by
  intro x hx D cT base sa ad
  refine MetFree.of_bodyS (code := cc) (maxLocals := maxL) (ret := ret) hy (fun args s m h hn => by
    obtain ⟨m', meth, c, h0, h1, h2, h3, h4, -, h5, h6, -⟩ := Cond.codeWith_spec (atoms_spec (ws := Cond.codeWith y cc maxL ret (hs.map Prod.fst) :: kw_Ts) h _ List.mem_cons_self)
    cases h0.symm.trans hn
    exact ⟨meth, c, h1, h2, h3, h4, h5, h6⟩) ?_
  intro p e s m args below meth c s₁ B hml hPc _
  have hex : c.exceptionTable.toList = hs.map kw_row := by
    obtain ⟨m', meth', c', h0, h1, h2, -, -, h5, -⟩ := Cond.codeWith_spec (atoms_spec (ws := Cond.codeWith y cc maxL ret (hs.map Prod.fst) :: kw_Ts) B.pre _ List.mem_cons_self)
    cases h0.symm.trans B.named
    cases h1.symm.trans B.method
    cases h2.symm.trans (Stand.of_body B).code
    have key : ∀ (t : List ExceptionTableEntry) (q : List kw_H), t.map (fun h => (h.startPc, h.endPc, h.handlerPc, h.catchType)) = q.map Prod.fst → t = q.map kw_row := by
      intro t
      induction t with
      | nil => intro q h9; cases q with
        | nil => rfl
        | cons a b => cases h9
      | cons a b ih => intro q h9; cases q with
        | nil => cases h9
        | cons a' b' =>
          simp only [List.map_cons, List.cons.injEq] at h9 ⊢
          refine ⟨?_, ih _ h9.2⟩
          unfold kw_row
          rw [← h9.1]
    exact key _ _ h5
  obtain ⟨rfl, hSt, hRel⟩ := hPc
  have hlen : (lg_sl (vs.map (kw_tr ad))).length = (kw_en vs).length := by
    clear hRel hn hL0 B body
    induction vs with
    | nil => rfl
    | cons v t ih => cases v <;> simp_all [lg_sl, kw_en, kw_tr, Value.category]
  have C : kw_Cx (p, l, e, rm, s, m, (vs.map (kw_tr ad)).toArray, below, meth, c, D, cT, base, sa, maxL, fun o => kw_End D cT base sa ids nw ad rm.cells rm.slots below s o) l y.cls cc ret y.name (hs.map kw_row) maxL rm :=
    ⟨B.exec, B.bytes, hml, findClass_of_methodNamed B.named, fun w hw => atoms_spec (ws := Cond.codeWith y cc maxL ret (hs.map Prod.fst) :: kw_Ts) B.pre w (List.mem_cons_of_mem _ hw), hSt, hl, B.notSynchronized, hex, B.returns, (name_of_methodNamed B.named B.method).1, rfl, rfl, rfl⟩
  have h0 := lv_entry (vs.map (kw_tr ad)) (n := maxL) (by rw [hlen]; exact hn)
  have hh : lv_has _ maxL (kw_as ad L0) := ⟨h0.1, h0.2.1, fun q hq => by
    obtain ⟨w, hw, e9⟩ := kw_as_mem.mp hq
    apply h0.2.2
    rw [← hL0] at hw
    have hw2 : (kw_en vs)[q.1]? = some (some w) := by
      by_cases hz : q.1 < (kw_en vs).length
      · rw [List.getElem?_append_left hz] at hw; exact hw
      · rw [List.getElem?_append_right (by omega)] at hw
        have := List.eq_of_mem_replicate (List.mem_of_getElem? hw)
        cases this
    have h2 := kw_en_args ad vs 0 q.1 w hw2
    rw [Nat.zero_add, ← e9] at h2
    exact h2⟩
  have hW := body _ ad C rfl x hx s.heap [] _ hRel va_S.rf hh
  have hh0 : s₁.heap = s.heap := by rw [B.state]; rfl
  obtain ⟨t, a1, oc, b1, b2, b3⟩ := hW s₁ hh0 (Stand.of_body B)
  rw [lg_entry_eq]
  exact ⟨t, oc, a1, b1, b2, b3⟩
def kw_mh (own : String) (idx : Nat) (y : MethodName) (bytes : ByteArray) (maxL : Nat) (ret : Option FieldType) (hs : List (Nat × Nat × Nat × Nat)) (n : Nat) : Prop :=
  Cond.methodLink own idx y ∈ kw_Ts ∧ Cond.codeWith y bytes maxL ret hs ∈ kw_Ts ∧ Cond.initialized y.cls ∈ kw_Ts ∧ (y.cls ≠ "java/lang/invoke/MethodHandle" ∧ y.cls ≠ "java/lang/invoke/VarHandle" ∧ (parseMethodDescriptor y.desc).map (fun d => d.parameters.length) = some n)
section KWB
variable {Γ : kw_G} {l0 : Launch} {own : String} {cc : ByteArray} {ret : Option FieldType} {nm : String} {tb : List ExceptionTableEntry} {nL0 : Nat} {rm : Room} {X : Type} {outc : X → (Option Value ⊕ String) × Mm} {ids : List Nat} {ad : Nat → Nat} {cl sl pc : Nat} {f : Option X} {L : List (Option Value)} {st stk : List Value} {σ : Mm}
theorem kw_wide {cl' sl' : Nat} (hc : cl ≤ cl') (hs : sl ≤ sl') (k : KW Γ outc ids ad cl' sl' f pc L st σ) : KW Γ outc ids ad cl sl f pc L st σ := by
  obtain ⟨p, l, e, R, s, m, args, below, meth, c, D, cT, base, sa, nL, Qf⟩ := Γ
  intro x0 hf H locs ls hR hS hL
  exact W.widen hc hs (k x0 hf H locs ls hR hS hL)
theorem kw_jb {α : Type} {pcj cl2 sl2 : Nat} {Lj : α → List (Option Value)} {stj : α → List Value} {j : α → Mm → Option X} {b : (α → Mm → Option X) → Option X} (hj : ∀ x σ1, KW Γ outc ids ad cl2 sl2 (j x σ1) pcj (Lj x) (stj x) σ1) (hb : ∀ k, (∀ x σ1, KW Γ outc ids ad cl2 sl2 (k x σ1) pcj (Lj x) (stj x) σ1) → KW Γ outc ids ad cl sl (b k) pc L st σ) : KW Γ outc ids ad cl sl (kf_j j b) pc L st σ := hb j hj
/-- a loop of which every turn may make things -/
theorem kw_lb {α : Type} {CC SS : Nat} {Lj : α → List (Option Value)} {stj : α → List Value} {b : (α → Mm → Option X) → α → Mm → Option X} (A B : Nat) (hb : ∀ (c s : Nat) (k : α → Mm → Option X), c + A ≤ CC → s + B ≤ SS → (∀ x σ1, KW Γ outc ids ad (c + A) (s + B) (k x σ1) pc (Lj x) (stj x) σ1) → ∀ x σ1, KW Γ outc ids ad c s (b k x σ1) pc (Lj x) (stj x) σ1) : ∀ (n c s : Nat), c + A * n ≤ CC → s + B * n ≤ SS → ∀ (x : α) (σ1 : Mm), KW Γ outc ids ad c s (kf_l n b x σ1) pc (Lj x) (stj x) σ1 := by
  intro n
  induction n with
  | zero => intro c s _ _ x σ1; exact kw_none
  | succ n ih =>
    intro c s hc hs x σ1
    rw [Nat.mul_succ] at hc hs
    exact hb c s _ (by omega) (by omega) (ih (c + A) (s + B) (by omega) (by omega)) x σ1
/-- the law's script -/
def kw_Sc (Γ : kw_G) (b N : Nat) (xs : Nat → Int32) : Prop := match Γ with
  | (_, _, _, _, s, _, _, _, _, _, _, _, base, _, _, _) => va_X b N xs s s.heap ∧ b < s.heap.size ∧ ¬ base ≤ b
theorem kw_sld (C : kw_Cx Γ l0 own cc ret nm tb nL0 rm) {b N : Nat} {xs : Nat → Int32} (hX : kw_Sc Γ b N xs) (hb0 : ad 0 = b) {i : Int32} (d : decode cc pc = .ok (.iaload, 1)) (k : KW Γ outc ids ad cl sl f (pc + 1) L (.int (xs i.toNatClampNeg) :: st) σ) : KW Γ outc ids ad cl sl (kf_in i N f) pc L (.int i :: .ref 0 :: st) σ := by
  obtain ⟨p, l, e, R, s, m, args, below, meth, c, D, cT, base, sa, nL, Qf⟩ := Γ
  intro x0 hf H locs ls hR hS hL
  unfold kf_in at hf
  by_cases hin : i < 0 ∨ N ≤ i.toNatClampNeg
  · rw [if_pos hin] at hf; cases hf
  · rw [if_neg hin] at hf
    obtain ⟨hx, hb, -⟩ := id C
    subst hb0
    exact va_sld hx hb hX.1 hX.2.1 hX.2.2 hS hin d (k x0 hf H locs ls hR hS hL)
theorem kw_slen (C : kw_Cx Γ l0 own cc ret nm tb nL0 rm) {b N : Nat} {xs : Nat → Int32} (hX : kw_Sc Γ b N xs) (hb0 : ad 0 = b) (d : decode cc pc = .ok (.arraylength, 1)) (k : KW Γ outc ids ad cl sl f (pc + 1) L (.int (Int32.ofNat N) :: st) σ) : KW Γ outc ids ad cl sl f pc L (.ref 0 :: st) σ := by
  obtain ⟨p, l, e, R, s, m, args, below, meth, c, D, cT, base, sa, nL, Qf⟩ := Γ
  intro x0 hf H locs ls hR hS hL
  obtain ⟨hx, hb, -⟩ := id C
  subst hb0
  exact va_slen hx hb hX.1 hX.2.1 hX.2.2 hS d (k x0 hf H locs ls hR hS hL)
variable {y : MethodName} {bytes : ByteArray} {maxL idx : Nat} {ret' : Option FieldType} {hh : List (Nat × Nat × Nat × Nat)} {rm' : Room} {As : List Value} {cl' sl' : Nat}
theorem kw_callSh (C : kw_Cx Γ l0 own cc ret nm tb nL0 rm) {f' : Option (Int32 × Mm)} {g : Int32 → Mm → Option X} (hM : kw_C l0 y (Cond.codeWith y bytes maxL ret' hh :: kw_Ts) rm' kw_oi ids [] As σ f') (mi : kw_mh own idx y bytes maxL ret' hh As.length) (hi : Cond.static y ∈ kw_Ts) (hrm : rm'.frames + 1 ≤ rm.frames ∧ 8 + (maxL + 11) + rm'.locals ≤ rm.locals) (hst : (st.map fun v => v.category).sum ≤ 8) (hcl : cl' ≤ rm.cells ∧ sl' ≤ rm.slots) (he : cl + rm'.cells ≤ cl' ∧ sl + rm'.slots ≤ sl') (hs : stk = As.reverse ++ st) (d : decode cc pc = .ok (.invokestatic idx, 3))
    (kk : ∀ r σ1, KW Γ outc ids ad cl' sl' (g r σ1) (pc + 3) L (.int r :: st) σ1) : KW Γ outc ids ad cl sl (kf_c2 f' g) pc L stk σ := by
  obtain ⟨p, l, e, R, s, m, args, below, meth, c, D, cT, base, sa, nL, Qf⟩ := Γ
  intro x0 hf H locs ls hR hS hL
  obtain ⟨hx, hb, hml, hown, hts, hSt, hl, hlk, htb, hret, hname, e0, e1, e2⟩ := id C
  subst e0; subst e1; subst e2; subst hb; subst hs
  cases hf' : f' with
  | none => rw [hf'] at hf; cases hf
  | some x' =>
    rw [hf'] at hf
    obtain ⟨m1, m2, m3, m4⟩ := mi
    intro T hT X
    subst hT
    obtain ⟨mk, methM, cM, hnamed, hmethM, hcM, -, hlM, -, -, -, hsigM⟩ := Cond.codeWith_spec (hts _ m2)
    have hstatic : methM.isStatic = true := Cond.static_spec hnamed hmethM (hts _ hi)
    obtain ⟨kP, hkP, -⟩ := className_of_methodNamed hnamed
    have hinitP : kP.init = .initialized := Cond.initialized_spec (findClass_of_methodNamed hnamed) hkP (hts _ m3)
    obtain ⟨vm₁, X₁, hstep₁⟩ := X.invokestatic hx hown (hts _ m1) hnamed hmethM hstatic hkP hinitP ⟨m4.1, m4.2.1⟩ (g := F0 m pc ls ((As.reverse ++ st).map (kw_tr ad))) rfl (argsL := As.map (kw_tr ad)) (rest := st.map (kw_tr ad)) (by have := m4.2.2; rw [hsigM] at this; simpa using (Option.some.inj this).symm) (by show List.map (kw_tr ad) (As.reverse ++ st) = _; rw [List.map_append, List.map_reverse]) d
    have hG := kw_goodw m2
    have hpay := pay_in hts hG
    have hkL : cM.maxLocals = maxL := hlM
    have h9 : ((st.map (kw_tr ad)).map fun v => v.category).sum ≤ 8 := by rw [kw_trs]; exact hst
    have hlo9 : 2 * (F0 m pc ls (st.map (kw_tr ad))).monitorRoom + ((F0 m pc ls (st.map (kw_tr ad))).stack.map fun v => v.category).sum + (cM.maxLocals + 11) + rm'.locals ≤ R.locals := by
      have h8 := hrm.2
      rw [hkL]
      show 2 * 0 + ((st.map (kw_tr ad)).map fun v => v.category).sum + (maxL + 11) + rm'.locals ≤ R.locals
      omega
    have hmid := kw_enter X₁ (g := F0 m pc ls (st.map (kw_tr ad))) rfl (hL.1.trans hml.symm) d (a := (As.map (kw_tr ad)).toArray) (X₁.named hnamed) (hM x' hf' D cT base sa ad) (fun w hw9 => hpay w hw9 _ _ X₁.warmed) (by rw [X₁.warmed.alike.method?]; exact hmethM) hcM (word_at X₁.warmed (good_of_word (List.mem_filter.mp m3).2) (hts _ m3)) hrm.1 hlo9 (Nat.le_trans he.1 hcl.1) (Nat.le_trans he.2 hcl.2)
      ⟨rfl, (hSt.moved (U := T.setVm vm₁) hS rfl X₁.warmed).calling, hR⟩
    obtain ⟨oc, t9, h1, h2, h3⟩ := hmid
    have hst9 : Steps p.tables e below (T.setTop (F0 m pc ls ((As.reverse ++ st).map (kw_tr ad)))) t9 := hstep₁ _ fun acts => by rw [doInvoke_state]; exact h1
    refine kw_back X₁ (g := F0 m pc ls (st.map (kw_tr ad))) rfl d hS h2 h3 hst9 ?_ ?_
    · intro v ad' H1 locs1 hv' had hR1 hS1
      have ea : ad' = ad := funext fun q => had q List.not_mem_nil
      rw [List.append_nil, ea] at hR1
      cases hv'
      have k := kk x'.1 x'.2 x0 hf H1 locs1 ls hR1 hS1 hL
      exact W.widen he.1 he.2 k
    · intro E ce q9 ad' T' locs1 hE had hR1 hS1 hce hcv hcl9 X'
      cases hE
/-- a virtual call that makes nothing, at any budget -/
theorem kw_callV0i (C : kw_Cx Γ l0 own cc ret nm tb nL0 rm) {t ci : Nat} {f' : Option (Int32 × Mm)} {g : Int32 → Mm → Option X} (hM : kw_C l0 y (Cond.code y bytes maxL ret' :: kw_Ts) rm' kw_oi ids [] (.ref t :: As) σ f') (mi : kw_mi own idx y bytes maxL ret' As.length) (hi : Cond.instanceMethod y ∈ kw_Ts ∧ Cond.selects y.cls y y ∈ kw_Ts) (hc : ∃ T N, mm_cl[ci]? = some (y.cls, T, N)) (ho : mm_ok ids t 1 ci) (hrm : rm'.frames + 1 ≤ rm.frames ∧ 8 + (maxL + 11) + rm'.locals ≤ rm.locals) (hst : (st.map fun v => v.category).sum ≤ 8) (h0 : rm'.cells = 0 ∧ rm'.slots = 0) (hcl : cl ≤ rm.cells ∧ sl ≤ rm.slots) (hs : stk = As.reverse ++ .ref t :: st) (d : decode cc pc = .ok (.invokevirtual idx, 3))
    (kk : ∀ r σ1, KW Γ outc ids ad cl sl (g r σ1) (pc + 3) L (.int r :: st) σ1) : KW Γ outc ids ad cl sl (kf_c2 f' g) pc L stk σ :=
  kw_callVi C hM mi hi hc ho hrm hst ⟨by rw [h0.1]; exact hcl.1, by rw [h0.2]; exact hcl.2⟩ ⟨by rw [h0.1]; rfl, by rw [h0.2]; rfl⟩ hs d kk
theorem kw_callV0v (C : kw_Cx Γ l0 own cc ret nm tb nL0 rm) {t ci : Nat} {f' : Option Mm} {g : Mm → Option X} (hM : kw_C l0 y (Cond.code y bytes maxL ret' :: kw_Ts) rm' kw_ov ids [] (.ref t :: As) σ f') (mi : kw_mi own idx y bytes maxL ret' As.length) (hi : Cond.instanceMethod y ∈ kw_Ts ∧ Cond.selects y.cls y y ∈ kw_Ts) (hc : ∃ T N, mm_cl[ci]? = some (y.cls, T, N)) (ho : mm_ok ids t 1 ci) (hrm : rm'.frames + 1 ≤ rm.frames ∧ 8 + (maxL + 11) + rm'.locals ≤ rm.locals) (hst : (st.map fun v => v.category).sum ≤ 8) (h0 : rm'.cells = 0 ∧ rm'.slots = 0) (hcl : cl ≤ rm.cells ∧ sl ≤ rm.slots) (hs : stk = As.reverse ++ .ref t :: st) (d : decode cc pc = .ok (.invokevirtual idx, 3))
    (kk : ∀ σ1, KW Γ outc ids ad cl sl (g σ1) (pc + 3) L st σ1) : KW Γ outc ids ad cl sl (Option.bind f' g) pc L stk σ :=
  kw_callVv C hM mi hi hc ho hrm hst ⟨by rw [h0.1]; exact hcl.1, by rw [h0.2]; exact hcl.2⟩ ⟨by rw [h0.1]; rfl, by rw [h0.2]; rfl⟩ hs d kk
end KWB
