/-! CALLS, STARTS -/
theorem kw_sel {w : Cond} {i : Nat} (h : (k2_sels lw_privs)[i]? = some w) (g : goodWord w = true) : w ∈ kw_Ts := List.mem_filter.mpr ⟨List.mem_append_left _ (List.mem_of_getElem? h), g⟩
theorem kw_tso {lo hi : Int} (x : Int32) (h : ∀ k : Int, lo ≤ k → k ≤ hi → ¬ x = Int32.ofInt k) : x.toInt < lo ∨ hi < x.toInt := by
  by_cases h1 : x.toInt < lo
  · exact Or.inl h1
  · by_cases h2 : hi < x.toInt
    · exact Or.inr h2
    · exact absurd (Int32.ofInt_toInt x).symm (h x.toInt (by omega) (by omega))
def kw_mi (own : String) (idx : Nat) (y : MethodName) (bytes : ByteArray) (maxL : Nat) (ret : Option FieldType) (n : Nat) : Prop :=
  Cond.methodLink own idx y ∈ kw_Ts ∧ Cond.code y bytes maxL ret ∈ kw_Ts ∧ Cond.initialized y.cls ∈ kw_Ts ∧ (y.cls ≠ "java/lang/invoke/MethodHandle" ∧ y.cls ≠ "java/lang/invoke/VarHandle" ∧ (parseMethodDescriptor y.desc).map (fun d => d.parameters.length) = some n)
theorem kw_goodc {y : MethodName} {bytes : ByteArray} {maxL : Nat} {ret : Option FieldType} (h : Cond.code y bytes maxL ret ∈ kw_Ts) : GoodIn kw_Ts (Cond.code y bytes maxL ret :: kw_Ts) := by
  have g : ∀ w ∈ kw_Ts, w ∈ kw_Ts ∧ ((w.onTables && w.keeps) = true ∨ ∃ ty, w = .arrayClass ty) := fun w hw => ⟨hw, good_of_word (List.mem_filter.mp hw).2⟩
  intro w hw
  rcases List.mem_cons.mp hw with e | hw
  · rw [e]; exact g _ h
  · exact g w hw
/-- the callee's room and words are there: it's called, and comes back by its contract -/
theorem kw_enter {p : Program} {l : Launch} {e : Env} {R : Room} {s : State} {m : MethodId} {args : Array Value} {below : List Frame} {meth : Method} {c : Code} {U : State} {locs : List Loc} {cl sl : Nat} (X : Stand p l e R s m args below meth c U locs cl sl) {g : JFrame} (hg : g.method = m) (hsize : g.locals.size = c.maxLocals) {ig : Instr} {len : Nat} (hdg : decode c.code g.pc = .ok (ig, len)) {y : MethodName} {mk : MethodId} {a : Array Value} {ws : List Cond} {rm : Room} {Pc : Array Value → State → Prop} {Q : Array Value → State → Outcome → State → Prop}
    (hn : U.methodNamed? y = some mk) (hM : MetFree l y (headSpec ws rm) Pc (fun _ _ _ _ _ => True) Q) (hws : ∀ w ∈ ws, w.before a U = true) {methY : Method} {cY : Code} (hmY : U.vm.method? mk = some methY) (hcY : methY.code = some cY) (hini : (Cond.initialized y.cls).before a U = true)
    (hfr : rm.frames + 1 ≤ R.frames) (hlo : 2 * g.monitorRoom + (g.stack.map fun v => v.category).sum + (cY.maxLocals + 11) + rm.locals ≤ R.locals) (hc : cl + rm.cells ≤ R.cells) (hs : sl + rm.slots ≤ R.slots) (hPc : Pc a (U.calling g mk a)) :
    ∃ oc t, Steps p.tables e below (doInvoke e (U.setTop g) [] mk a).1 t ∧ Ended t (.java g :: below) oc ∧ Q a (U.calling g mk a) oc t := by
  subst hg
  obtain ⟨kY, hkY, -⟩ := className_of_methodNamed hn
  have hinitY : kY.init = .initialized := Cond.initialized_spec (findClass_of_methodNamed hn) hkY hini
  have happ : (headSpec ws rm).appliesLoose y e.platform (U.calling g mk a) = true :=
    Spec.appliesLoose_calling (g := g) X.here hdg hn hkY hinitY (X.room_calling (g := g) (R' := (headSpec ws rm).room) hsize hmY hcY hfr hlo hc hs) (atoms_intro hws)
  have hF : (U.setTop g).frames = .java g :: below := by rw [State.frames_setTop' g X.here.top, X.tail]
  obtain ⟨oc, t, h1, -, h3, h4⟩ := Steps.callFree hM p X.admits X.cas X.clock (acts := []) (mid := [.java g]) (below := below) hF happ hPc trivial
  rw [hF] at h3
  exact ⟨oc, t, h1, h3, h4⟩
section KWC
variable {p : Program} {l : Launch} {e : Env} {R : Room} {s : State} {m : MethodId} {args : Array Value} {below : List Frame} {meth : Method} {c : Code} {D : va_G} {cT : Nat → ClassId} {base : Nat} {sa : Nat → Nat} {ids : List Nat} {ad : Nat → Nat} {cl sl : Nat} {T : State} {locs : List Loc} {Q : State → Prop}
/-- behind a call whose contract is ours: what was returned, or what was thrown -/
theorem kw_back (X : Stand p l e R s m args below meth c T locs cl sl) {g : JFrame} (hg : g.method = m) {ig : Instr} {len : Nat} (hdg : decode c.code g.pc = .ok (ig, len)) {mk : MethodId} {a : Array Value} {nw' : List Nat} {mc' ms' : Nat} {o : (Option Value ⊕ String) × Mm} {oc : Outcome} {t : State} (hS : va_S (fun q => base ≤ q) s.heap T.heap locs) (hend : Ended t (.java g :: below) oc) (hq : kw_Q D cT base sa ids nw' ad mc' ms' o (T.calling g mk a) oc t) {s₀ : State} (hst : Steps p.tables e below s₀ t)
    (kk : ∀ (v : Option Value) (ad' : Nat → Nat) (H1 : Heap) (locs1 : List Loc), o.1 = .inl v → (∀ q, q ∉ nw' → ad' q = ad q) → mm_Rel D cT base sa (ids ++ nw') ad' o.2 H1 → va_S (fun q => base ≤ q) s.heap H1 locs1 → W p l e R s m args below meth c H1 locs1 (cl + mc') (sl + ms') Q { g with pc := g.pc + len, stack := v.toList ++ g.stack })
    (kx : ∀ (E : String) (ce : Cell) (q9 : Addr) (ad' : Nat → Nat) (T' : State) (locs1 : List Loc), o.1 = .inr E → (∀ q, q ∉ nw' → ad' q = ad q) → mm_Rel D cT base sa (ids ++ nw') ad' o.2 T'.heap → va_S (fun q => base ≤ q) s.heap T'.heap locs1 → T'.heap[q9]? = some ce → ce.vm = .none → s.vm.findClass E = some ce.cls → Stand p l e R s m args below meth c T' locs1 (cl + mc') (sl + ms') → ∃ t2, Steps p.tables e below ((T'.setTop g).pushFrame (.throwing q9)) t2 ∧ Q t2) : ∃ t2, Steps p.tables e below s₀ t2 ∧ Q t2 := by
  obtain ⟨⟨L, hW, hsame, hL⟩, hoc, ⟨ad', had, hRel⟩, hF⟩ := hq
  have hF1 : T.heap.size ≤ t.heap.size := hF.1
  have hF2 : ∀ q : Nat, q < T.heap.size → ¬ base ≤ q → t.heap[q]? = T.heap[q]? := hF.2
  have hS1 : va_S (fun q => base ≤ q) s.heap t.heap (locs ++ L) := ⟨Nat.le_trans hS.1 hF1, fun q h1 h2 => (hF2 q (Nat.lt_of_lt_of_le h1 hS.1) h2).trans (hS.2.1 q h1 h2), fun z hz => (List.mem_append.mp hz).elim (hS.2.2 z) (hL z)⟩
  rcases hoc with ⟨v, ho, rfl⟩ | ⟨E, q, ce, ho, rfl, hce, hcv, hcl⟩
  · obtain ⟨T', X', -, -, ht⟩ := X.outOf hg hdg hend hW hsame
    have hh : T'.heap = t.heap := by rw [ht]; rfl
    obtain ⟨t2, a1, b1⟩ := kk v ad' t.heap (locs ++ L) ho had hRel hS1 T' hh X'
    rw [ht] at hst
    exact ⟨t2, hst.trans a1, b1⟩
  · obtain ⟨T', X', -, -, ht⟩ := X.outOfThrown hg hend hW hsame
    have hh : T'.heap = t.heap := by rw [ht]; rfl
    have hcl' : s.vm.findClass E = some ce.cls := by
      have h9 : T.vm.findClass E = some ce.cls := hcl
      rw [X.warmed.alike.findClass] at h9
      exact h9
    obtain ⟨t2, a1, b1⟩ := kx E ce q ad' T' (locs ++ L) ho had (by rw [hh]; exact hRel) (by rw [hh]; exact hS1) (by rw [hh]; exact hce) hcv hcl' X'
    rw [ht] at hst
    exact ⟨t2, hst.trans a1, b1⟩
end KWC
/-- thrown over the frame at pc -/
def KX (Γ : kw_G) {X : Type} (outc : X → (Option Value ⊕ String) × Mm) (ids : List Nat) (ad : Nat → Nat) (cl sl : Nat) (E : String) (f : Option X) (pc : Nat) (L : List (Option Value)) (st : List Value) (σ : Mm) : Prop := match Γ with
  | (p, l, e, R, s, m, args, below, meth, c, D, cT, base, sa, nL, Qf) => ∀ x, f = some x → ∀ (T : State) (locs : List Loc) (ls : Array Slot) (ce : Cell) (q9 : Addr), mm_Rel D cT base sa ids ad σ T.heap → va_S (fun q => base ≤ q) s.heap T.heap locs → lv_has ls nL (kw_as ad L) → T.heap[q9]? = some ce → ce.vm = .none → s.vm.findClass E = some ce.cls → Stand p l e R s m args below meth c T locs cl sl →
    ∃ t, Steps p.tables e below ((T.setTop (F0 m pc ls (st.map (kw_tr ad)))).pushFrame (.throwing q9)) t ∧ Qf (outc x) t
def kw_oi (x : Int32 × Mm) : (Option Value ⊕ String) × Mm := (.inl (some (.int x.1)), x.2)
def kw_ol (x : Int64 × Mm) : (Option Value ⊕ String) × Mm := (.inl (some (.long x.1)), x.2)
def kw_ov (x : Mm) : (Option Value ⊕ String) × Mm := (.inl none, x)
def kw_sr {A : Type} (g : A → Option Value) (x : A ⊕ String) : Option Value ⊕ String := match x with
  | .inl r => .inl (g r)
  | .inr E => .inr E
def kw_oti (x : (Int32 ⊕ String) × Mm) : (Option Value ⊕ String) × Mm := (kw_sr (fun r => some (.int r)) x.1, x.2)
def kw_otv (x : (Unit ⊕ String) × Mm) : (Option Value ⊕ String) × Mm := (kw_sr (fun _ => none) x.1, x.2)
/-- a callee that may throw: what it throws goes on -/
def kf_t {A B : Type} (f : Option ((A ⊕ String) × Mm)) (g : A → Mm → Option ((B ⊕ String) × Mm)) : Option ((B ⊕ String) × Mm) := f.bind (fun x => match x.1 with
  | .inl r => g r x.2
  | .inr E => some (.inr E, x.2))
theorem kw_mmax {Γ : kw_G} {l0 : Launch} {own : String} {cc : ByteArray} {ret : Option FieldType} {nm : String} {tb : List ExceptionTableEntry} {nL0 : Nat} {rm : Room} {X : Type} {outc : X → (Option Value ⊕ String) × Mm} {ids : List Nat} {ad : Nat → Nat} {cl sl pc : Nat} {f : Option X} {L : List (Option Value)} {st : List Value} {σ : Mm} (C : kw_Cx Γ l0 own cc ret nm tb nL0 rm) {x y : Int32} {idx : Nat} (h1 : Cond.methodLink own idx Lib.Math.max.name ∈ kw_Ts) (h2 : Cond.static Lib.Math.max.name ∈ kw_Ts) (h3 : Cond.initialized "java/lang/Math" ∈ kw_Ts) (h4 : Cond.code Lib.Math.max.name Lib.Math.max.code 2 (some .int) ∈ kw_Ts) (hfr : 1 ≤ rm.frames) (hlo : (st.map fun v => v.category).sum + 13 ≤ rm.locals) (hc : cl ≤ rm.cells) (hs : sl ≤ rm.slots) (d : decode cc pc = .ok (.invokestatic idx, 3)) (k : KW Γ outc ids ad cl sl f (pc + 3) L (.int (if x < y then y else x) :: st) σ) : KW Γ outc ids ad cl sl f pc L (.int y :: .int x :: st) σ := by
  obtain ⟨p, l, e, R, s, m, args, below, meth, c, D, cT, base, sa, nL, Qf⟩ := Γ
  intro x0 hf H locs ls hR hS hL
  obtain ⟨hx, hb, hml, hown, hts, hSt, hl, hlk, htb, hret, hname, e0, e1, e2⟩ := id C
  subst e2
  exact va_mmax hx hb (hml.trans hL.1.symm) hown (hts _ h1) (hts _ h2) (hts _ h3) (hts _ h4) hfr (by rw [kw_trs]; exact hlo) hc hs d (k x0 hf H locs ls hR hS hL)
theorem kw_mmin {Γ : kw_G} {l0 : Launch} {own : String} {cc : ByteArray} {ret : Option FieldType} {nm : String} {tb : List ExceptionTableEntry} {nL0 : Nat} {rm : Room} {X : Type} {outc : X → (Option Value ⊕ String) × Mm} {ids : List Nat} {ad : Nat → Nat} {cl sl pc : Nat} {f : Option X} {L : List (Option Value)} {st : List Value} {σ : Mm} (C : kw_Cx Γ l0 own cc ret nm tb nL0 rm) {x y : Int32} {idx : Nat} (h1 : Cond.methodLink own idx Lib.Math.min.name ∈ kw_Ts) (h2 : Cond.static Lib.Math.min.name ∈ kw_Ts) (h3 : Cond.initialized "java/lang/Math" ∈ kw_Ts) (h4 : Cond.code Lib.Math.min.name Lib.Math.min.code 2 (some .int) ∈ kw_Ts) (hfr : 1 ≤ rm.frames) (hlo : (st.map fun v => v.category).sum + 13 ≤ rm.locals) (hc : cl ≤ rm.cells) (hs : sl ≤ rm.slots) (d : decode cc pc = .ok (.invokestatic idx, 3)) (k : KW Γ outc ids ad cl sl f (pc + 3) L (.int (if y < x then y else x) :: st) σ) : KW Γ outc ids ad cl sl f pc L (.int y :: .int x :: st) σ := by
  obtain ⟨p, l, e, R, s, m, args, below, meth, c, D, cT, base, sa, nL, Qf⟩ := Γ
  intro x0 hf H locs ls hR hS hL
  obtain ⟨hx, hb, hml, hown, hts, hSt, hl, hlk, htb, hret, hname, e0, e1, e2⟩ := id C
  subst e2
  exact va_mmin hx hb (hml.trans hL.1.symm) hown (hts _ h1) (hts _ h2) (hts _ h3) (hts _ h4) hfr (by rw [kw_trs]; exact hlo) hc hs d (k x0 hf H locs ls hR hS hL)
theorem kw_mabs {Γ : kw_G} {l0 : Launch} {own : String} {cc : ByteArray} {ret : Option FieldType} {nm : String} {tb : List ExceptionTableEntry} {nL0 : Nat} {rm : Room} {X : Type} {outc : X → (Option Value ⊕ String) × Mm} {ids : List Nat} {ad : Nat → Nat} {cl sl pc : Nat} {f : Option X} {L : List (Option Value)} {st : List Value} {σ : Mm} (C : kw_Cx Γ l0 own cc ret nm tb nL0 rm) {x : Int32} {idx : Nat} (h1 : Cond.methodLink own idx Lib.Math.abs.name ∈ kw_Ts) (h2 : Cond.static Lib.Math.abs.name ∈ kw_Ts) (h3 : Cond.initialized "java/lang/Math" ∈ kw_Ts) (h4 : Cond.code Lib.Math.abs.name Lib.Math.abs.code 1 (some .int) ∈ kw_Ts) (hfr : 1 ≤ rm.frames) (hlo : (st.map fun v => v.category).sum + 13 ≤ rm.locals) (hc : cl ≤ rm.cells) (hs : sl ≤ rm.slots) (d : decode cc pc = .ok (.invokestatic idx, 3)) (k : KW Γ outc ids ad cl sl f (pc + 3) L (.int (if 0 ≤ x then x else 0 - x) :: st) σ) : KW Γ outc ids ad cl sl f pc L (.int x :: st) σ := by
  obtain ⟨p, l, e, R, s, m, args, below, meth, c, D, cT, base, sa, nL, Qf⟩ := Γ
  intro x0 hf H locs ls hR hS hL
  obtain ⟨hx, hb, hml, hown, hts, hSt, hl, hlk, htb, hret, hname, e0, e1, e2⟩ := id C
  subst e2
  exact va_mabs hx hb (hml.trans hL.1.symm) hown (hts _ h1) (hts _ h2) (hts _ h3) (hts _ h4) hfr (by rw [kw_trs]; exact hlo) hc hs d (k x0 hf H locs ls hR hS hL)
theorem kw_ni {x v : Int32} {k : Int} (h : ¬ x = v) (e : Int32.ofInt k = v) : ¬ x = Int32.ofInt k := fun z => h (z.trans e)
section KWD
variable {Γ : kw_G} {l0 : Launch} {own : String} {cc : ByteArray} {ret : Option FieldType} {nm : String} {tb : List ExceptionTableEntry} {nL0 : Nat} {rm : Room} {ids1 nw1 : List Nat} {ad1 : Nat → Nat} {X : Type} {outc : X → (Option Value ⊕ String) × Mm} {ids : List Nat} {ad : Nat → Nat} {cl sl pc : Nat} {f : Option X} {L L' : List (Option Value)} {st stk : List Value} {σ : Mm}
variable {y : MethodName} {bytes : ByteArray} {maxL idx : Nat} {ret' : Option FieldType} {rm' : Room} {X' : Type} {outc' : X' → (Option Value ⊕ String) × Mm} {As : List Value} {t ci : Nat} {f' : Option X'} {h : X' → Option X}
theorem kw_callV (C : kw_Cx Γ l0 own cc ret nm tb nL0 rm) (hM : kw_C l0 y (Cond.code y bytes maxL ret' :: kw_Ts) rm' outc' ids [] (.ref t :: As) σ f') (mi : kw_mi own idx y bytes maxL ret' As.length) (hi : Cond.instanceMethod y ∈ kw_Ts ∧ Cond.selects y.cls y y ∈ kw_Ts) (hc : ∃ T N, mm_cl[ci]? = some (y.cls, T, N)) (ho : mm_ok ids t 1 ci) (hrm : rm'.frames + 1 ≤ rm.frames ∧ 8 + (maxL + 11) + rm'.locals ≤ rm.locals) (hst : (st.map fun v => v.category).sum ≤ 8) (hcl : cl + rm'.cells ≤ rm.cells ∧ sl + rm'.slots ≤ rm.slots) (hs : stk = As.reverse ++ .ref t :: st) (d : decode cc pc = .ok (.invokevirtual idx, 3))
    (hv : ∀ x' v, (outc' x').1 = .inl v → ∀ w ∈ v.toList, kw_tr ad w = w)
    (kk : ∀ x' v, f' = some x' → (outc' x').1 = .inl v → KW Γ outc ids ad (cl + rm'.cells) (sl + rm'.slots) (h x') (pc + 3) L (v.toList ++ st) (outc' x').2)
    (kx : ∀ x' E, f' = some x' → (outc' x').1 = .inr E → KX Γ outc ids ad (cl + rm'.cells) (sl + rm'.slots) E (h x') pc L st (outc' x').2) : KW Γ outc ids ad cl sl (f'.bind h) pc L stk σ := by
  obtain ⟨p, l, e, R, s, m, args, below, meth, c, D, cT, base, sa, nL, Qf⟩ := Γ
  intro x0 hf H locs ls hR hS hL
  obtain ⟨hx, hb, hml, hown, hts, hSt, hl, hlk, htb, hret, hname, e0, e1, e2⟩ := id C
  subst e0; subst e1; subst e2; subst hb; subst hs
  cases hf' : f' with
  | none => rw [hf'] at hf; cases hf
  | some x' =>
    rw [hf'] at hf
    obtain ⟨m1, m2, m3, m4⟩ := mi
    intro T hT X
    subst hT
    obtain ⟨TT, N, hc⟩ := hc
    obtain ⟨q0, h0, hw⟩ := mm_W_at (cT := cT) (ad := ad) (σ := σ) ho.1
    rw [mm_E_obj ho.2.1 ho.2.2] at hw
    obtain ⟨cellB, hcB, hoB, hclB⟩ := va_recv hSt.2.2.1 hR.1 hc hw
    obtain ⟨mk, methM, hnamed, hmethM, hstM, habM⟩ := Cond.instanceMethod_spec (hts _ hi.1)
    obtain ⟨methM', cM, hmethM', hcM, -, hlM, -, -, -, hsigM⟩ := Cond.code_spec hnamed (hts _ m2)
    cases hmethM.symm.trans hmethM'
    obtain ⟨c2, r2, m9, q1, q2, q3, q4, kP, hkP, hkPi⟩ := Cond.selects_spec (hts _ hi.2)
    cases hclB.symm.trans q1
    cases (State.methodFound?_of_named hnamed ⟨m4.1, m4.2.1⟩).symm.trans q2
    cases hnamed.symm.trans q3
    have hselP : selectMethod e.platform s.vm cellB.cls mk = .method mk := by rw [Launch.admits_selectMethod X.admits]; exact q4
    obtain ⟨vm₁, X₁, hstep₁⟩ := X.invokevirtual hx hown (hts _ m1) hnamed hmethM hstM hkP hkPi ⟨m4.1, m4.2.1⟩ (a := ad t) (cell := cellB) hcB
      (fun z h => by rw [h] at hoB; cases hoB) hselP hmethM habM hkP hkPi (g := F0 m pc ls ((As.reverse ++ .ref t :: st).map (kw_tr ad))) rfl (argsL := As.map (kw_tr ad)) (rest := st.map (kw_tr ad)) (by have := m4.2.2; rw [hsigM] at this; simpa using (Option.some.inj this).symm) (by show List.map (kw_tr ad) (As.reverse ++ .ref t :: st) = _; rw [List.map_append, List.map_reverse]; rfl) d
    have hG := kw_goodc m2
    have hpay := pay_in hts hG
    have hkL : cM.maxLocals = maxL := hlM
    have h9 : ((st.map (kw_tr ad)).map fun v => v.category).sum ≤ 8 := by rw [kw_trs]; exact hst
    have hlo9 : 2 * (F0 m pc ls (st.map (kw_tr ad))).monitorRoom + ((F0 m pc ls (st.map (kw_tr ad))).stack.map fun v => v.category).sum + (cM.maxLocals + 11) + rm'.locals ≤ R.locals := by
      have h8 := hrm.2
      rw [hkL]
      show 2 * 0 + ((st.map (kw_tr ad)).map fun v => v.category).sum + (maxL + 11) + rm'.locals ≤ R.locals
      omega
    have hmid := kw_enter X₁ (g := F0 m pc ls (st.map (kw_tr ad))) rfl (hL.1.trans hml.symm) d (a := (Value.ref (ad t) :: As.map (kw_tr ad)).toArray) (X₁.named hnamed) (hM x' hf' D cT base sa ad) (fun w hw9 => hpay w hw9 _ _ X₁.warmed) (by rw [X₁.warmed.alike.method?]; exact hmethM) hcM (word_at X₁.warmed (good_of_word (List.mem_filter.mp m3).2) (hts _ m3)) hrm.1 hlo9 hcl.1 hcl.2
      ⟨rfl, (hSt.moved (U := T.setVm vm₁) hS rfl X₁.warmed).calling, hR⟩
    obtain ⟨oc, t9, h1, h2, h3⟩ := hmid
    have hst9 : Steps p.tables e below (T.setTop (F0 m pc ls ((As.reverse ++ .ref t :: st).map (kw_tr ad)))) t9 := hstep₁ _ fun acts => by rw [doInvoke_state]; exact h1
    refine kw_back X₁ (g := F0 m pc ls (st.map (kw_tr ad))) rfl d hS h2 h3 hst9 ?_ ?_
    · intro v ad' H1 locs1 hv' had hR1 hS1
      have ea : ad' = ad := funext fun q => had q List.not_mem_nil
      rw [List.append_nil, ea] at hR1
      have k := kk x' v hf' hv' x0 hf H1 locs1 ls hR1 hS1 hL
      rw [List.map_append] at k
      have e9 : v.toList.map (kw_tr ad) = v.toList := by
        have := List.map_congr_left (f := kw_tr ad) (g := id) (l := v.toList) (fun w hw9 => hv x' v hv' w hw9)
        rw [this, List.map_id]
      rw [e9] at k
      exact k
    · intro E ce q9 ad' T' locs1 hE had hR1 hS1 hce hcv hcl9 X'
      have ea : ad' = ad := funext fun q => had q List.not_mem_nil
      rw [List.append_nil, ea] at hR1
      exact kx x' E hf' hE x0 hf T' locs1 ls ce q9 hR1 hS1 hL hce hcv hcl9 X'
theorem kw_callS (C : kw_Cx Γ l0 own cc ret nm tb nL0 rm) (hM : kw_C l0 y (Cond.code y bytes maxL ret' :: kw_Ts) rm' outc' ids [] As σ f') (mi : kw_mi own idx y bytes maxL ret' As.length) (hi : Cond.static y ∈ kw_Ts) (hrm : rm'.frames + 1 ≤ rm.frames ∧ 8 + (maxL + 11) + rm'.locals ≤ rm.locals) (hst : (st.map fun v => v.category).sum ≤ 8) (hcl : cl + rm'.cells ≤ rm.cells ∧ sl + rm'.slots ≤ rm.slots) (hs : stk = As.reverse ++ st) (d : decode cc pc = .ok (.invokestatic idx, 3))
    (hv : ∀ x' v, (outc' x').1 = .inl v → ∀ w ∈ v.toList, kw_tr ad w = w)
    (kk : ∀ x' v, f' = some x' → (outc' x').1 = .inl v → KW Γ outc ids ad (cl + rm'.cells) (sl + rm'.slots) (h x') (pc + 3) L (v.toList ++ st) (outc' x').2)
    (kx : ∀ x' E, f' = some x' → (outc' x').1 = .inr E → KX Γ outc ids ad (cl + rm'.cells) (sl + rm'.slots) E (h x') pc L st (outc' x').2) : KW Γ outc ids ad cl sl (f'.bind h) pc L stk σ := by
  obtain ⟨p, l, e, R, s, m, args, below, meth, c, D, cT, base, sa, nL, Qf⟩ := Γ
  intro x0 hf H locs ls hR hS hL
  obtain ⟨hx, hb, hml, hown, hts, hSt, hl, hlk, htb, hret, hname, e0, e1, e2⟩ := id C
  subst e0; subst e1; subst e2; subst hb; subst hs
  cases hf' : f' with
  | none => rw [hf'] at hf; cases hf
  | some x' =>
    rw [hf'] at hf
    obtain ⟨m1, m2, m3, m4⟩ := mi
    intro T hT X
    subst hT
    obtain ⟨mk, hnamed⟩ := Cond.code_named (hts _ m2)
    obtain ⟨methM, cM, hmethM, hcM, -, hlM, -, -, -, hsigM⟩ := Cond.code_spec hnamed (hts _ m2)
    have hstatic : methM.isStatic = true := Cond.static_spec hnamed hmethM (hts _ hi)
    obtain ⟨kP, hkP, -⟩ := className_of_methodNamed hnamed
    have hinitP : kP.init = .initialized := Cond.initialized_spec (findClass_of_methodNamed hnamed) hkP (hts _ m3)
    obtain ⟨vm₁, X₁, hstep₁⟩ := X.invokestatic hx hown (hts _ m1) hnamed hmethM hstatic hkP hinitP ⟨m4.1, m4.2.1⟩ (g := F0 m pc ls ((As.reverse ++ st).map (kw_tr ad))) rfl (argsL := As.map (kw_tr ad)) (rest := st.map (kw_tr ad)) (by have := m4.2.2; rw [hsigM] at this; simpa using (Option.some.inj this).symm) (by show List.map (kw_tr ad) (As.reverse ++ st) = _; rw [List.map_append, List.map_reverse]) d
    have hG := kw_goodc m2
    have hpay := pay_in hts hG
    have hkL : cM.maxLocals = maxL := hlM
    have h9 : ((st.map (kw_tr ad)).map fun v => v.category).sum ≤ 8 := by rw [kw_trs]; exact hst
    have hlo9 : 2 * (F0 m pc ls (st.map (kw_tr ad))).monitorRoom + ((F0 m pc ls (st.map (kw_tr ad))).stack.map fun v => v.category).sum + (cM.maxLocals + 11) + rm'.locals ≤ R.locals := by
      have h8 := hrm.2
      rw [hkL]
      show 2 * 0 + ((st.map (kw_tr ad)).map fun v => v.category).sum + (maxL + 11) + rm'.locals ≤ R.locals
      omega
    have hmid := kw_enter X₁ (g := F0 m pc ls (st.map (kw_tr ad))) rfl (hL.1.trans hml.symm) d (a := (As.map (kw_tr ad)).toArray) (X₁.named hnamed) (hM x' hf' D cT base sa ad) (fun w hw9 => hpay w hw9 _ _ X₁.warmed) (by rw [X₁.warmed.alike.method?]; exact hmethM) hcM (word_at X₁.warmed (good_of_word (List.mem_filter.mp m3).2) (hts _ m3)) hrm.1 hlo9 hcl.1 hcl.2
      ⟨rfl, (hSt.moved (U := T.setVm vm₁) hS rfl X₁.warmed).calling, hR⟩
    obtain ⟨oc, t9, h1, h2, h3⟩ := hmid
    have hst9 : Steps p.tables e below (T.setTop (F0 m pc ls ((As.reverse ++ st).map (kw_tr ad)))) t9 := hstep₁ _ fun acts => by rw [doInvoke_state]; exact h1
    refine kw_back X₁ (g := F0 m pc ls (st.map (kw_tr ad))) rfl d hS h2 h3 hst9 ?_ ?_
    · intro v ad' H1 locs1 hv' had hR1 hS1
      have ea : ad' = ad := funext fun q => had q List.not_mem_nil
      rw [List.append_nil, ea] at hR1
      have k := kk x' v hf' hv' x0 hf H1 locs1 ls hR1 hS1 hL
      rw [List.map_append] at k
      have e9 : v.toList.map (kw_tr ad) = v.toList := by
        have := List.map_congr_left (f := kw_tr ad) (g := id) (l := v.toList) (fun w hw9 => hv x' v hv' w hw9)
        rw [this, List.map_id]
      rw [e9] at k
      exact k
    · intro E ce q9 ad' T' locs1 hE had hR1 hS1 hce hcv hcl9 X'
      have ea : ad' = ad := funext fun q => had q List.not_mem_nil
      rw [List.append_nil, ea] at hR1
      exact kx x' E hf' hE x0 hf T' locs1 ls ce q9 hR1 hS1 hL hce hcv hcl9 X'
/-- not caught here: it leaves the method -/
theorem kx_out (C : kw_Cx Γ l0 own cc ret nm [] nL0 rm) (Ce : kw_Ce Γ rm ids1 nw1 ad1) {x1 : X} {E : String} (Ei : ids = ids1 ++ nw1) (Aq : ∀ q, q ∉ nw1 → ad q = ad1 q) (hc : cl ≤ rm.cells) (hs : sl ≤ rm.slots) (ho : outc x1 = (.inr E, σ)) : KX Γ outc ids ad cl sl E (some x1) pc L st σ := by
  obtain ⟨p, l, e, R, s, m, args, below, meth, c, D, cT, base, sa, nL, Qf⟩ := Γ
  intro x0 hf T locs ls ce q9 hR hS hL hce hcv hcl9 X
  cases hf
  obtain ⟨hx, hb, hml, hown, hts, hSt, hl, hlk, htb, hret, hname, e0, e1, e2⟩ := id C
  have Ce : Qf = _ := Ce
  subst Ce
  obtain ⟨h1, h2, h3, h4, h5⟩ := X.leaveThrown q9 (g := F0 m pc ls (st.map (kw_tr ad))) rfl rfl rfl (fun x hx9 => by rw [htb] at hx9; cases hx9) hlk
  exact ⟨_, h1, .threw q9, h2, h3, ⟨locs, h4, h5.mono hc hs, hS.2.2⟩, Or.inr ⟨E, q9, ce, by rw [ho], rfl, hce, hcv, hcl9⟩, ⟨ad, Aq, by rw [ho, ← Ei]; exact hR⟩, hS.1, hS.2.1⟩
end KWD
/-- by the kind of the answer -/
def kf_c2 {A X : Type} (f : Option (A × Mm)) (g : A → Mm → Option X) : Option X := f.bind (fun x => g x.1 x.2)
section KWE
variable {Γ : kw_G} {l0 : Launch} {own : String} {cc : ByteArray} {ret : Option FieldType} {nm : String} {tb : List ExceptionTableEntry} {nL0 : Nat} {rm : Room} {ids1 nw1 : List Nat} {ad1 : Nat → Nat} {X : Type} {outc : X → (Option Value ⊕ String) × Mm} {ids : List Nat} {ad : Nat → Nat} {cl sl pc : Nat} {L : List (Option Value)} {st stk : List Value} {σ : Mm}
variable {y : MethodName} {bytes : ByteArray} {maxL idx : Nat} {ret' : Option FieldType} {rm' : Room} {As : List Value} {t ci cl' sl' : Nat}
theorem kw_callVi (C : kw_Cx Γ l0 own cc ret nm tb nL0 rm) {f' : Option (Int32 × Mm)} {g : Int32 → Mm → Option X} (hM : kw_C l0 y (Cond.code y bytes maxL ret' :: kw_Ts) rm' kw_oi ids [] (.ref t :: As) σ f') (mi : kw_mi own idx y bytes maxL ret' As.length) (hi : Cond.instanceMethod y ∈ kw_Ts ∧ Cond.selects y.cls y y ∈ kw_Ts) (hc : ∃ T N, mm_cl[ci]? = some (y.cls, T, N)) (ho : mm_ok ids t 1 ci) (hrm : rm'.frames + 1 ≤ rm.frames ∧ 8 + (maxL + 11) + rm'.locals ≤ rm.locals) (hst : (st.map fun v => v.category).sum ≤ 8) (hcl : cl + rm'.cells ≤ rm.cells ∧ sl + rm'.slots ≤ rm.slots) (he : cl + rm'.cells = cl' ∧ sl + rm'.slots = sl') (hs : stk = As.reverse ++ .ref t :: st) (d : decode cc pc = .ok (.invokevirtual idx, 3))
    (kk : ∀ r σ1, KW Γ outc ids ad cl' sl' (g r σ1) (pc + 3) L (.int r :: st) σ1) : KW Γ outc ids ad cl sl (kf_c2 f' g) pc L stk σ := by
  obtain ⟨rfl, rfl⟩ := he
  exact kw_callV C hM mi hi hc ho hrm hst hcl hs d (fun x' v h w hw => by cases h; simp at hw; rw [hw]; rfl) (fun x' v _ h => by cases h; exact kk _ _) (fun x' E _ h => by cases h)
theorem kw_callVl (C : kw_Cx Γ l0 own cc ret nm tb nL0 rm) {f' : Option (Int64 × Mm)} {g : Int64 → Mm → Option X} (hM : kw_C l0 y (Cond.code y bytes maxL ret' :: kw_Ts) rm' kw_ol ids [] (.ref t :: As) σ f') (mi : kw_mi own idx y bytes maxL ret' As.length) (hi : Cond.instanceMethod y ∈ kw_Ts ∧ Cond.selects y.cls y y ∈ kw_Ts) (hc : ∃ T N, mm_cl[ci]? = some (y.cls, T, N)) (ho : mm_ok ids t 1 ci) (hrm : rm'.frames + 1 ≤ rm.frames ∧ 8 + (maxL + 11) + rm'.locals ≤ rm.locals) (hst : (st.map fun v => v.category).sum ≤ 8) (hcl : cl + rm'.cells ≤ rm.cells ∧ sl + rm'.slots ≤ rm.slots) (he : cl + rm'.cells = cl' ∧ sl + rm'.slots = sl') (hs : stk = As.reverse ++ .ref t :: st) (d : decode cc pc = .ok (.invokevirtual idx, 3))
    (kk : ∀ r σ1, KW Γ outc ids ad cl' sl' (g r σ1) (pc + 3) L (.long r :: st) σ1) : KW Γ outc ids ad cl sl (kf_c2 f' g) pc L stk σ := by
  obtain ⟨rfl, rfl⟩ := he
  exact kw_callV C hM mi hi hc ho hrm hst hcl hs d (fun x' v h w hw => by cases h; simp at hw; rw [hw]; rfl) (fun x' v _ h => by cases h; exact kk _ _) (fun x' E _ h => by cases h)
theorem kw_callVv (C : kw_Cx Γ l0 own cc ret nm tb nL0 rm) {f' : Option Mm} {g : Mm → Option X} (hM : kw_C l0 y (Cond.code y bytes maxL ret' :: kw_Ts) rm' kw_ov ids [] (.ref t :: As) σ f') (mi : kw_mi own idx y bytes maxL ret' As.length) (hi : Cond.instanceMethod y ∈ kw_Ts ∧ Cond.selects y.cls y y ∈ kw_Ts) (hc : ∃ T N, mm_cl[ci]? = some (y.cls, T, N)) (ho : mm_ok ids t 1 ci) (hrm : rm'.frames + 1 ≤ rm.frames ∧ 8 + (maxL + 11) + rm'.locals ≤ rm.locals) (hst : (st.map fun v => v.category).sum ≤ 8) (hcl : cl + rm'.cells ≤ rm.cells ∧ sl + rm'.slots ≤ rm.slots) (he : cl + rm'.cells = cl' ∧ sl + rm'.slots = sl') (hs : stk = As.reverse ++ .ref t :: st) (d : decode cc pc = .ok (.invokevirtual idx, 3))
    (kk : ∀ σ1, KW Γ outc ids ad cl' sl' (g σ1) (pc + 3) L st σ1) : KW Γ outc ids ad cl sl (Option.bind f' g) pc L stk σ := by
  obtain ⟨rfl, rfl⟩ := he
  exact kw_callV C hM mi hi hc ho hrm hst hcl hs d (fun x' v h w hw => by cases h; cases hw) (fun x' v _ h => by cases h; exact kk _) (fun x' E _ h => by cases h)
theorem kw_callSi (C : kw_Cx Γ l0 own cc ret nm tb nL0 rm) {f' : Option (Int32 × Mm)} {g : Int32 → Mm → Option X} (hM : kw_C l0 y (Cond.code y bytes maxL ret' :: kw_Ts) rm' kw_oi ids [] As σ f') (mi : kw_mi own idx y bytes maxL ret' As.length) (hi : Cond.static y ∈ kw_Ts) (hrm : rm'.frames + 1 ≤ rm.frames ∧ 8 + (maxL + 11) + rm'.locals ≤ rm.locals) (hst : (st.map fun v => v.category).sum ≤ 8) (hcl : cl + rm'.cells ≤ rm.cells ∧ sl + rm'.slots ≤ rm.slots) (he : cl + rm'.cells = cl' ∧ sl + rm'.slots = sl') (hs : stk = As.reverse ++ st) (d : decode cc pc = .ok (.invokestatic idx, 3))
    (kk : ∀ r σ1, KW Γ outc ids ad cl' sl' (g r σ1) (pc + 3) L (.int r :: st) σ1) : KW Γ outc ids ad cl sl (kf_c2 f' g) pc L stk σ := by
  obtain ⟨rfl, rfl⟩ := he
  exact kw_callS C hM mi hi hrm hst hcl hs d (fun x' v h w hw => by cases h; simp at hw; rw [hw]; rfl) (fun x' v _ h => by cases h; exact kk _ _) (fun x' E _ h => by cases h)
theorem kw_callSv (C : kw_Cx Γ l0 own cc ret nm tb nL0 rm) {f' : Option Mm} {g : Mm → Option X} (hM : kw_C l0 y (Cond.code y bytes maxL ret' :: kw_Ts) rm' kw_ov ids [] As σ f') (mi : kw_mi own idx y bytes maxL ret' As.length) (hi : Cond.static y ∈ kw_Ts) (hrm : rm'.frames + 1 ≤ rm.frames ∧ 8 + (maxL + 11) + rm'.locals ≤ rm.locals) (hst : (st.map fun v => v.category).sum ≤ 8) (hcl : cl + rm'.cells ≤ rm.cells ∧ sl + rm'.slots ≤ rm.slots) (he : cl + rm'.cells = cl' ∧ sl + rm'.slots = sl') (hs : stk = As.reverse ++ st) (d : decode cc pc = .ok (.invokestatic idx, 3))
    (kk : ∀ σ1, KW Γ outc ids ad cl' sl' (g σ1) (pc + 3) L st σ1) : KW Γ outc ids ad cl sl (Option.bind f' g) pc L stk σ := by
  obtain ⟨rfl, rfl⟩ := he
  exact kw_callS C hM mi hi hrm hst hcl hs d (fun x' v h w hw => by cases h; cases hw) (fun x' v _ h => by cases h; exact kk _) (fun x' E _ h => by cases h)
end KWE
/-- A METHOD's CONTRACT out of its walk -/
theorem kw_start {l : Launch} {y : MethodName} {cc : ByteArray} {maxL : Nat} {ret : Option FieldType} {rm : Room} {X : Type} {outc : X → (Option Value ⊕ String) × Mm} {ids nw : List Nat} {vs : List Value} {σ : Mm} {f : Option X} {L0 : List (Option Value)} (hl : l.stackTraces = false) (hy : plainName y.cls = true) (hn : (kw_en vs).length ≤ maxL) (hL0 : kw_en vs ++ List.replicate (maxL - (kw_en vs).length) none = L0)
    (body : ∀ (Γ : kw_G) (ad : Nat → Nat), kw_Cx Γ l y.cls cc ret y.name [] maxL rm → kw_Ce Γ rm ids nw ad → KW Γ outc ids ad 0 0 f 0 L0 [] σ) : kw_C l y (Cond.code y cc maxL ret :: kw_Ts) rm outc ids nw vs σ f := by
  intro x hx D cT base sa ad
  refine MetFree.of_bodyS (code := cc) (maxLocals := maxL) (ret := ret) hy (fun args s m h hn => by
    obtain ⟨meth, c, h1, h2, h3, h4, h5, h6, -, -⟩ := Cond.code_spec hn (atoms_spec (ws := Cond.code y cc maxL ret :: kw_Ts) h _ List.mem_cons_self)
    exact ⟨meth, c, h1, h2, h3, h4, h5, h6⟩) ?_
  intro p e s m args below meth c s₁ B hml hPc _
  have hex : ∀ x, x ∉ c.exceptionTable.toList := by
    have h7 := B.noHandlers (atoms_spec (ws := Cond.code y cc maxL ret :: kw_Ts) B.pre _ List.mem_cons_self)
    intro x hx9
    rw [Array.isEmpty_iff.mp h7] at hx9
    cases hx9
  obtain ⟨rfl, hSt, hRel⟩ := hPc
  have hlen : (lg_sl (vs.map (kw_tr ad))).length = (kw_en vs).length := by
    clear hRel hn hL0 B body
    induction vs with
    | nil => rfl
    | cons v t ih => cases v <;> simp_all [lg_sl, kw_en, kw_tr, Value.category]
  have C : kw_Cx (p, l, e, rm, s, m, (vs.map (kw_tr ad)).toArray, below, meth, c, D, cT, base, sa, maxL, fun o => kw_End D cT base sa ids nw ad rm.cells rm.slots below s o) l y.cls cc ret y.name [] maxL rm :=
    ⟨B.exec, B.bytes, hml, findClass_of_methodNamed B.named, fun w hw => atoms_spec (ws := Cond.code y cc maxL ret :: kw_Ts) B.pre w (List.mem_cons_of_mem _ hw), hSt, hl, B.notSynchronized, List.eq_nil_iff_forall_not_mem.mpr hex, B.returns, (name_of_methodNamed B.named B.method).1, rfl, rfl, rfl⟩
  have h0 := lv_entry (vs.map (kw_tr ad)) (n := maxL) (by rw [hlen]; exact hn)
  have hh : lv_has _ maxL (kw_as ad L0) := ⟨h0.1, h0.2.1, fun q hq => by
    obtain ⟨w, hw, e9⟩ := kw_as_mem.mp hq
    apply h0.2.2
    rw [← hL0] at hw
    have hw2 : (kw_en vs)[q.1]? = some (some w) := by
      by_cases hz : q.1 < (kw_en vs).length
      · rw [List.getElem?_append_left hz] at hw; exact hw
      · rw [List.getElem?_append_right (by omega)] at hw
        have := List.eq_of_mem_replicate (List.mem_of_getElem? hw)
        cases this
    have h2 := kw_en_args ad vs 0 q.1 w hw2
    rw [Nat.zero_add, ← e9] at h2
    exact h2⟩
  have hW := body _ ad C rfl x hx s.heap [] _ hRel va_S.rf hh
  have hh0 : s₁.heap = s.heap := by rw [B.state]; rfl
  obtain ⟨t, a1, oc, b1, b2, b3⟩ := hW s₁ hh0 (Stand.of_body B)
  rw [lg_entry_eq]
  exact ⟨t, oc, a1, b1, b2, b3⟩
