/-! THROWS -/
section KWT0
variable {p : Program} {l : Launch} {e : Env} {R : Room} {s : State} {m : MethodId} {args : Array Value} {below : List Frame} {meth : Method} {c : Code} {T : State} {locs : List Loc} {cl sl : Nat}
/-- the walk goes on as if its method began in the present heap -/
theorem kw_rebase (X : Stand p l e R s m args below meth c T locs cl sl) (R' : Room) (k1 : R'.frames ≤ R.frames) (k2 : R'.locals ≤ R.locals) (k3 : cl + R'.cells ≤ R.cells) (k4 : sl + R'.slots ≤ R.slots) : Stand p l e R' ((T.setVm s.vm).setFrames (.invoking m args :: below)) m args below meth c T [] 0 0 := by
  have htop : (T.setVm s.vm).topJava?.isSome := X.here.top
  have hcur := State.cur_lt_of_top htop
  have hfr : ((T.setVm s.vm).setFrames (.invoking m args :: below)).frames = .invoking m args :: below := State.frames_setFrames _ hcur
  have huse : ((T.setVm s.vm).setFrames (.invoking m args :: below)).localsInUse = s.localsInUse := by
    rw [State.localsInUse_invoking hfr (meth := meth) (c := c) X.method X.code, State.localsInUse_invoking X.frames X.method X.code]
  have hlim : e.platform.stackLimits ((T.setVm s.vm).setFrames (.invoking m args :: below)).me = e.platform.stackLimits s.me := by
    rw [State.stackLimits_setFrames]; exact X.limits
  have hbyt : ((T.setVm s.vm).setFrames (.invoking m args :: below)).me.stackBytes = s.me.stackBytes := by
    rw [State.stackBytes_setFrames]; exact X.bytes
  obtain ⟨g0, hg0⟩ := Option.isSome_iff_exists.mp htop
  obtain ⟨r0, hr0⟩ := State.topJava?_eq_some.mp hg0
  obtain ⟨th, hth, -⟩ := State.frames_cons hr0
  refine { admits := X.admits, cas := X.cas, clock := X.clock, frames := hfr, room := ?_, hears := X.hears, method := X.method, code := X.code, here := X.here, tail := X.tail, warmed := X.warmed, limits := X.limits.trans hlim.symm, bytes := X.bytes.trans hbyt.symm, same := ?_ }
  · have hr := X.room
    have e1 := X.heapSize
    have e2 := X.used
    simp only [State.hasRoom, Bool.and_eq_true, decide_eq_true_eq] at hr ⊢
    rw [X.frames] at hr
    rw [huse, hfr, hlim, hbyt]
    obtain ⟨⟨⟨⟨a1, a2, a3, a4, a5, a6⟩, a7⟩, a8⟩, -⟩ := hr
    refine ⟨⟨⟨⟨by omega, by omega, by omega, by omega, by omega, a6⟩, ?_⟩, ?_⟩, X.book⟩
    · show T.heap.size + R'.cells ≤ _
      omega
    · show T.slotsUsed + R'.slots ≤ _
      omega
  · have hnil : T.heap.toList.drop T.heap.size = [] := List.drop_eq_nil_of_le (Nat.le_of_eq Array.length_toList)
    refine ⟨?_, Nat.le_refl _, Nat.le_refl _, ?_, ?_, fun a c9 h9 => ⟨c9, h9, rfl, rfl, fun _ _ => rfl⟩⟩
    · show T.setVm s.vm = { ((T.setVm s.vm).setFrames (.invoking m args :: below)).setFrames (T.setVm s.vm).frames with heap := T.heap, slotsUsed := T.slotsUsed }
      rw [State.setFrames_setFrames, State.setFrames_self hth]
      rfl
    · show T.slotsUsed = T.slotsUsed + ((T.heap.toList.drop T.heap.size).map (·.slots.size)).sum
      rw [hnil]; rfl
    · show ((T.heap.toList.drop T.heap.size).map (·.slots.size)).sum ≤ 0
      rw [hnil]; exact Nat.le_refl _
/-- nothing old was written: the old cells are as they were -/
theorem kw_kept {st U : State} {k n : Nat} (h : st.sameButNew ({ U with vm := st.vm } : State) [] k n) : st.heap.size ≤ U.heap.size ∧ ∀ q : Nat, q < st.heap.size → U.heap[q]? = st.heap[q]? := by
  obtain ⟨-, h2, -, -, -, h6⟩ := h
  refine ⟨h2, fun q hq => ?_⟩
  have hc : st.heap[q]? = some st.heap[q] := Array.getElem?_eq_getElem hq
  obtain ⟨c9, e1, e2, -, e4⟩ := h6 q _ hc
  have es : c9.slots = (st.heap[q]).slots := Array.ext_getElem? fun i => e4 i (by simp)
  have e5 : c9 = st.heap[q] := by rw [e2, es]
  rw [hc, ← e5]
  exact e1
end KWT0
theorem kw_isRef {C n d : String} {A : Nat → Prop} {s : State} {args : Array Value} (h : va_Zq C n d A s s.heap) : (Cond.isRef (.static C n d)).before args s = true := by
  rcases h with h | ⟨t, h⟩
  · obtain ⟨cf, kf, fi, f, a, cell, h1, h2, h3, h4, h5, h6, h7, -⟩ := h
    have he : (Term.static C n d).eval args s none [] s = some .null := by simp [Term.eval, State.fieldNamed?, h1, h2, h4, h5, h6, h7]
    simp [Cond.before, Cond.holds, Cond.value, he]
  · obtain ⟨cf, kf, fi, f, a, cell, h1, h2, h3, h4, h5, h6, h7, -⟩ := h
    have he : (Term.static C n d).eval args s none [] s = some (.ref t) := by simp [Term.eval, State.fieldNamed?, h1, h2, h4, h5, h6, h7]
    simp [Cond.before, Cond.holds, Cond.value, he]
/-- the words of 'throw new E()' that aren't of the tables alone -/
def kw_spc (cls : String) : List Cond := [.castable cls cls, .isRef (.static Bundle.tN "UNASSIGNED_STACK" Bundle.steD), .isRef (.static Bundle.tN "SUPPRESSED_SENTINEL" Bundle.listD), .laysStatic Bundle.tN "UNASSIGNED_STACK" Bundle.steD, .laysStatic Bundle.tN "SUPPRESSED_SENTINEL" Bundle.listD] ++ kw_dcl.map Cond.declares
def kw_ti (own : String) (ik ic : Nat) (cls : String) (names : List String) : Prop := Bundle.fit cls = true ∧ (∀ n ∈ names, Bundle.fit n = true) ∧ Cond.classLink own ik cls ∈ kw_Ts ∧ Cond.initialized cls ∈ kw_Ts ∧ (∀ w ∈ Bundle.ownAtoms0 own ic cls names, w ∈ kw_spc cls ∨ w ∈ kw_Ts) ∧ cls ∈ kw_exc ∧ Cond.instantiable cls 6 ∈ kw_Ts
/-- the rows of the tables in which the words of throws stand -/
def kw_thw : List Cond := tables_1_1 ++ (tables_1_3.drop 225 ++ (tables_1_4 ++ tables_1_7.drop 195))
theorem kw_thw_in {w : Cond} (h : w ∈ kw_thw) (g : goodWord w = true) : w ∈ kw_Ts := by
  have key : ∀ {k : Nat}, w ∈ tables_1 → w ∈ kw_Ts := fun h9 => List.mem_filter.mpr ⟨List.mem_append_right _ h9, g⟩
  rcases List.mem_append.mp h with h | h
  · exact key (k := 0) (List.mem_append_left _ h)
  · rcases List.mem_append.mp h with h | h
    · exact key (k := 0) (List.mem_append_right _ (List.mem_append_right _ (List.mem_append_left _ (List.mem_of_mem_drop h))))
    · rcases List.mem_append.mp h with h | h
      · exact key (k := 0) (List.mem_append_right _ (List.mem_append_right _ (List.mem_append_right _ (List.mem_append_left _ h))))
      · exact key (k := 0) (List.mem_append_right _ (List.mem_append_right _ (List.mem_append_right _ (List.mem_append_right _ (List.mem_append_right _ (List.mem_append_right _ (List.mem_of_mem_drop h)))))))
theorem kw_tiw {cls : String} {ws : List Cond} (h : ∀ w ∈ ws, w ∈ kw_spc cls ∨ (w ∈ kw_thw ∧ goodWord w = true)) : ∀ w ∈ ws, w ∈ kw_spc cls ∨ w ∈ kw_Ts := fun w hw => (h w hw).elim Or.inl (fun h9 => Or.inr (kw_thw_in h9.1 h9.2))
theorem mm_Rel.kept {D : va_G} {cT : Nat → ClassId} {base : Nat} {sa : Nat → Nat} {ids : List Nat} {ad : Nat → Nat} {σ : Mm} {H H1 : Heap} (h : mm_Rel D cT base sa ids ad σ H) (hq : ∀ q : Nat, q < H.size → H1[q]? = H[q]?) : mm_Rel D cT base sa ids ad σ H1 := ⟨h.1.kept fun k q hk => hq q.1 (h.1 k q hk).lt, h.2⟩
section KWT
variable {Γ : kw_G} {l0 : Launch} {own : String} {cc : ByteArray} {ret : Option FieldType} {nm : String} {nL0 : Nat} {rm : Room} {ids1 nw1 : List Nat} {ad1 : Nat → Nat} {X : Type} {outc : X → (Option Value ⊕ String) × Mm} {ids : List Nat} {ad : Nat → Nat} {cl sl pc : Nat} {L : List (Option Value)} {st : List Value} {σ : Mm}
set_option maxHeartbeats 1000000 in
theorem kw_throw0 (C : kw_Cx Γ l0 own cc ret nm [] nL0 rm) (Ce : kw_Ce Γ rm ids1 nw1 ad1) {cls : String} {names : List String} {ik ic : Nat} {x1 : X} (ti : kw_ti own ik ic cls names) (E : ids = ids1 ++ nw1) (Aq : ∀ q, q ∉ nw1 → ad q = ad1 q) (hc : cl + 1 ≤ rm.cells) (hs : sl + 6 ≤ rm.slots) (hfr : names.length + 3 < rm.frames) (hlo : (st.map fun v => v.category).sum + (13 * (names.length + 1) + 42) ≤ rm.locals)
    (d0 : decode cc pc = .ok (.new ik, 3)) (d3 : decode cc (pc + 3) = .ok (.dup, 1)) (d4 : decode cc (pc + 4) = .ok (.invokespecial ic, 3)) (d7 : decode cc (pc + 7) = .ok (.athrow, 1)) (ho : outc x1 = (.inr cls, σ)) : KW Γ outc ids ad cl sl (some x1) pc L st σ := by
  obtain ⟨p, l, e, R, s, m, args, below, meth, c, D, cT, base, sa, nL, Qf⟩ := Γ
  intro x0 hf H locs ls hR hS hL
  cases hf
  obtain ⟨hx, hb, hml, hown, hts, hSt, hl, hlk, htb, hret, hname, e0, e1, e2⟩ := id C
  have Ce : Qf = _ := Ce
  subst Ce
  subst e2
  obtain ⟨t1, t2, t3, t4, t5, t6, t7⟩ := ti
  intro T hT X
  subst hT
  have htr : e.platform.stackTraces = false := by
    have h9 : e.platform.stackTraces = l.stackTraces := by rw [X.admits.platform]
    rw [h9]; exact hl
  have Y := kw_rebase X { frames := R.frames, locals := R.locals, cells := 1, slots := 6 } (Nat.le_refl _) (Nat.le_refl _) hc hs
  obtain ⟨s', hs'⟩ : ∃ z, z = (T.setVm s.vm).setFrames (.invoking m args :: below) := ⟨_, rfl⟩
  rw [← hs'] at Y
  have hvm : s'.vm = s.vm := by rw [hs']; rfl
  have hhp : s'.heap = T.heap := by rw [hs']; rfl
  have hW0 : s.WarmedH s'.vm := by rw [hvm]; exact State.WarmedH.refl s
  have hTh : kw_Th base s' := hSt.2.2.2.2.2.moved hS hhp hW0
  have hgood : ∀ w ∈ kw_Ts, w.before args s' = true := fun w hw => word_at hW0 (good_of_word (List.mem_filter.mp hw).2) (hts w hw)
  have hat : ∀ w ∈ Bundle.ownAtoms0 own ic cls names, w.before args s' = true := by
    intro w hw
    rcases t5 w hw with h | h
    · unfold kw_spc at h
      rcases List.mem_append.mp h with h | h
      case inr =>
        obtain ⟨y9, hy9, rfl⟩ := List.mem_map.mp h
        exact va_Nw.use rfl (hTh.2.2.2.2 y9 hy9)
      simp only [List.mem_cons, List.not_mem_nil, or_false] at h
      rcases h with h | h | h | h | h
      · rw [h]; exact va_tabs rfl rfl (hTh.2.2.1 cls t6)
      · rw [h]; exact kw_isRef hTh.1.1
      · rw [h]; exact kw_isRef hTh.2.1.1
      · rw [h]; exact hTh.1.2.word
      · rw [h]; exact hTh.2.1.2.word
    · exact hgood w h
  have hown' : s'.vm.findClass own = some m.cls := by rw [hvm]; exact hown
  have key : W p l e { frames := R.frames, locals := R.locals, cells := 1, slots := 6 } s' m args below meth c T.heap [] 0 0 (kw_End D cT base sa ids1 nw1 ad1 R.cells R.slots below s (outc x1)) (F0 m pc ls (st.map (kw_tr ad))) := by
    refine W.newc (C := cls) (n := 6) hx hb hown' (hgood _ t3) (hgood _ t7) (hgood _ t4) rfl d0 (Nat.le_refl _) (Nat.le_refl _) (fun cX kX hfX hkX _ _ => ?_)
    refine lv_dup hx hb d3 rfl ?_
    intro T1 hT1 X1
    have hcell : T1.heap[T.heap.size]? = some (freshCell cX kX) := by rw [hT1]; simp [freshCell]
    subst hb
    obtain ⟨U, hsteps, hrun, hend, hWm, hsame, ce, hce, hO⟩ := X1.ctorThrow0 hx htr (own := own) (cls := cls) (names := names) (ic := ic) hown' t1 t2 hat (fun x hx9 => by cases hx9) hfX hkX hcell (by rw [hhp]; exact Nat.le_refl _)
      (g := F0 m (pc + 4) ls (.ref T.heap.size :: .ref T.heap.size :: st.map (kw_tr ad))) rfl (hL.1.trans hml.symm) rfl rfl (rest := st.map (kw_tr ad)) rfl d4 d7 (fun x hx9 => by rw [htb] at hx9; cases hx9) hfr
      (by have h8 : ((st.map (kw_tr ad)).map fun v => v.category).sum = (st.map fun v => v.category).sum := by rw [kw_trs]
          show 2 * 0 + (((Value.ref T.heap.size) :: st.map (kw_tr ad)).map fun v => v.category).sum + (13 * (names.length + 1) + 41) ≤ R.locals
          rw [List.map_cons, List.sum_cons, h8]
          show 2 * 0 + (1 + _) + _ ≤ _
          omega) hlk
    obtain ⟨f1, f2⟩ := kw_kept hsame
    rw [hhp] at f1 f2
    have hcl9 : s.vm.findClass cls = some ce.cls := by rw [← hvm]; exact hO.cls
    have hall : s.sameButNew ({ U with vm := s.vm } : State) locs R.cells R.slots := by
      obtain ⟨g1, g2⟩ := hsame
      have h2 : (T.setVm s.vm).sameButNew ({ U with vm := s.vm } : State) [] (0 + 1) (0 + 6) := by
        subst hs'
        rw [State.setFrames_setFrames] at g1
        exact ⟨g1, g2⟩
      have h3 := X.same.trans h2
      rw [List.append_nil] at h3
      exact h3.mono hc hs
    refine ⟨U, hsteps, .threw T.heap.size, hrun, hend, ⟨locs, State.WarmedH.trans hW0 hWm, hall, hS.2.2⟩, Or.inr ⟨cls, T.heap.size, ce, by rw [ho], rfl, hce, hO.vm, hcl9⟩, ⟨ad, Aq, by rw [ho, ← E]; exact hR.kept f2⟩, Nat.le_trans hS.1 f1, fun q h1 h2 => ?_⟩
    rw [f2 q (Nat.lt_of_lt_of_le h1 hS.1)]
    exact hS.2.1 q h1 h2
  exact key T rfl Y
/-- a callee that throws or returns nothing; what it throws leaves this method too -/
theorem kw_callVt (C : kw_Cx Γ l0 own cc ret nm [] nL0 rm) (Ce : kw_Ce Γ rm ids1 nw1 ad1) {y : MethodName} {bytes : ByteArray} {maxL idx : Nat} {ret' : Option FieldType} {rm' : Room} {As : List Value} {t ci cl' sl' : Nat} {stk : List Value} {B : Type} {outb : (B ⊕ String) × Mm → (Option Value ⊕ String) × Mm} (hob : ∀ E σ1, outb (.inr E, σ1) = (.inr E, σ1)) {f' : Option ((Unit ⊕ String) × Mm)} {g : Unit → Mm → Option ((B ⊕ String) × Mm)} (hM : kw_C l0 y (Cond.code y bytes maxL ret' :: kw_Ts) rm' kw_otv ids [] (.ref t :: As) σ f') (mi : kw_mi own idx y bytes maxL ret' As.length) (hi : Cond.instanceMethod y ∈ kw_Ts ∧ Cond.selects y.cls y y ∈ kw_Ts) (hc : ∃ T N, mm_cl[ci]? = some (y.cls, T, N)) (ho : mm_ok ids t 1 ci) (hrm : rm'.frames + 1 ≤ rm.frames ∧ 8 + (maxL + 11) + rm'.locals ≤ rm.locals) (hst : (st.map fun v => v.category).sum ≤ 8) (hcl : cl + rm'.cells ≤ rm.cells ∧ sl + rm'.slots ≤ rm.slots) (he : cl + rm'.cells = cl' ∧ sl + rm'.slots = sl') (hs : stk = As.reverse ++ .ref t :: st) (E : ids = ids1 ++ nw1) (Aq : ∀ q, q ∉ nw1 → ad q = ad1 q) (d : decode cc pc = .ok (.invokevirtual idx, 3))
    (kk : ∀ u σ1, KW Γ outb ids ad cl' sl' (g u σ1) (pc + 3) L st σ1) : KW Γ outb ids ad cl sl (kf_t f' g) pc L stk σ := by
  obtain ⟨rfl, rfl⟩ := he
  refine kw_callV C hM mi hi hc ho hrm hst hcl hs d (fun x' v h w hw => ?_) (fun x' v _ h => ?_) (fun x' E0 _ h => ?_)
  · obtain ⟨r | E0, σ1⟩ := x'
    · cases h; cases hw
    · cases h
  · obtain ⟨r | E0, σ1⟩ := x'
    · cases h; exact kk _ _
    · cases h
  · obtain ⟨r | E1, σ1⟩ := x'
    · cases h
    · cases h
      exact kx_out C Ce E Aq hcl.1 hcl.2 (hob _ _)
end KWT
