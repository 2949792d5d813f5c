/-! MAKING THINGS: constructors -/
/-- the places of a new thing hold what a new thing holds -/
def mm_nw (σ : Mm) (o : Nat) : Mm := (fun k => if k / 64 = o then 0 else σ.1 k, fun k => if k / 64 = o then 0 else σ.2.1 k, fun k => if k / 64 = o then none else σ.2.2.1 k, va_up σ.2.2.2.1 o (fun _ => 0), va_up σ.2.2.2.2 o (fun _ => 0))
theorem gS_nw {σ : Mm} {o k : Nat} : gS (mm_nw σ o) k = if k / 64 = o then 0 else gS σ k := rfl
theorem gJ_nw {σ : Mm} {o k : Nat} : gJ (mm_nw σ o) k = if k / 64 = o then 0 else gJ σ k := rfl
theorem gR_nw {σ : Mm} {o k : Nat} : gR (mm_nw σ o) k = if k / 64 = o then none else gR σ k := rfl
theorem gB_nw {σ : Mm} {o a : Nat} : gB (mm_nw σ o) a = if a = o then (fun _ => 0) else gB σ a := rfl
theorem gK_nw {σ : Mm} {o a : Nat} : gK (mm_nw σ o) a = if a = o then (fun _ => 0) else gK σ a := rfl
def mm_okty : FieldType → Bool
  | .int => true
  | .boolean => true
  | .long => true
  | .object _ => true
  | .array _ => true
  | _ => false
theorem mm_def {ad : Nat → Nat} {σ : Mm} {o k : Nat} {ty : FieldType} (h : mm_okty ty = true) (hk : k / 64 = o) : defaultValue ty = mm_fv ad (mm_nw σ o) k ty := by
  cases ty <;> first | (cases h; done) | (simp only [mm_fv, gS_nw, gJ_nw, gR_nw, hk, if_true]; rfl)
section MN
variable {D : va_G} {cT : Nat → ClassId} {base : Nat} {sa : Nat → Nat} {ids : List Nat} {ad ad' : Nat → Nat} {σ : Mm} {H H1 : Heap} {o : Nat}
/-- the other things stay -/
theorem mm_E_nw (hty : mm_ty ids σ) (ho : o ∉ ids) (had : ∀ q, q ≠ o → ad' q = ad q) {a : Nat} (ha : a ∈ ids) : mm_E cT ad' (mm_nw σ o) a = mm_E cT ad σ a := by
  have hne : a ≠ o := fun z => ho (z ▸ ha)
  have hp : ∀ i, i < 64 → (64 * a + i) / 64 ≠ o := fun i hi z => hne (by omega)
  unfold mm_E
  rw [gB_nw, gK_nw, if_neg hne, if_neg hne]
  by_cases z : (mm_kd a).1 = 1
  · rw [if_pos z, if_pos z]
    have e : mm_fs ad' (mm_nw σ o) a (mm_kd a).2.1 = mm_fs ad σ a (mm_kd a).2.1 := by
      unfold mm_fs
      refine List.map_congr_left fun i hi => ?_
      have hi := List.mem_range.mp hi
      have h64 : i < 64 := Nat.lt_of_lt_of_le hi (mm_nf_le _)
      have e1 : gS (mm_nw σ o) (64 * a + i) = gS σ (64 * a + i) := by rw [gS_nw, if_neg (hp i h64)]
      have e2 : gJ (mm_nw σ o) (64 * a + i) = gJ σ (64 * a + i) := by rw [gJ_nw, if_neg (hp i h64)]
      have e3 : gR (mm_nw σ o) (64 * a + i) = gR σ (64 * a + i) := by rw [gR_nw, if_neg (hp i h64)]
      have e4 : (gR σ (64 * a + i)).map ad' = (gR σ (64 * a + i)).map ad := by
        cases hr : gR σ (64 * a + i) with
        | none => rfl
        | some r =>
          have h9 := (hty a ha z i hi r hr).1
          simp only [Option.map_some]
          rw [had r (fun z9 => ho (z9 ▸ h9))]
      unfold mm_fv
      rw [e1, e2, e3, e4]
    rw [e]
  · rw [if_neg z, if_neg z]
theorem mm_W_push (hty : mm_ty ids σ) (ho : o ∉ ids) (had : ∀ q, q ≠ o → ad' q = ad q) : mm_W cT (ids ++ [o]) ad' (mm_nw σ o) = mm_W cT ids ad σ ++ [(ad' o, mm_E cT ad' (mm_nw σ o) o)] := by
  unfold mm_W
  rw [List.map_append]
  congr 1
  exact List.map_congr_left fun a ha => by rw [mm_E_nw hty ho had ha, had a (fun z => ho (z ▸ ha))]
theorem mm_Rel_new (hR : mm_Rel D cT base sa ids ad σ H) (ho : o ∉ ids) (h5 : (mm_kd o).1 ≠ 5) {q : Nat} {e : va_E} (he : mm_E cT (va_up ad o q) (mm_nw σ o) o = e) (hP1 : va_P D mm_cl (mm_W cT ids ad σ ++ [(q, e)]) H1) (hD1 : va_D (fun z => base ≤ z) (mm_W cT ids ad σ ++ [(q, e)])) : mm_Rel D cT base sa (ids ++ [o]) (va_up ad o q) (mm_nw σ o) H1 := by
  obtain ⟨hP, hD, hty, hst, hn5⟩ := hR
  have had : ∀ z, z ≠ o → va_up ad o q z = ad z := fun z hz => va_up_ne ad q hz
  have ew := mm_W_push (cT := cT) hty ho had
  rw [va_up_self, he] at ew
  refine ⟨by rw [ew]; exact hP1, by rw [ew]; exact hD1, ?_, ?_, ?_⟩
  · intro a ha hk j hj r hr
    have h64 : j < 64 := Nat.lt_of_lt_of_le hj (mm_nf_le _)
    rw [gR_nw] at hr
    by_cases hz : a = o
    · rw [if_pos (by omega)] at hr; cases hr
    · rw [if_neg (by omega)] at hr
      rcases List.mem_append.mp ha with h | h
      · obtain ⟨g1, g2⟩ := hty a h hk j hj r hr
        exact ⟨List.mem_append_left _ g1, g2⟩
      · exact absurd (List.mem_singleton.mp h) hz
  · intro a ha
    have hne : a ≠ o := fun z => h5 (z ▸ ha)
    exact ⟨by rw [had a hne]; exact (hst a ha).1, by rw [gB_nw, if_neg hne]; exact (hst a ha).2⟩
  · intro a ha
    rcases List.mem_append.mp ha with h | h
    · exact hn5 a h
    · rw [List.mem_singleton.mp h]; exact h5
theorem mm_ok.more {ids : List Nat} {o t x : Nat} (h : mm_ok ids o t x) (nw : List Nat) : mm_ok (ids ++ nw) o t x := ⟨List.mem_append_left _ h.1, h.2⟩
end MN
/-- locals and stack don't name the new things -/
theorem kw_tr_eq {ad ad' : Nat → Nat} {nw : List Nat} (had : ∀ q, q ∉ nw → ad' q = ad q) {v : Value} (h : ∀ r, v = .ref r → r ∉ nw) : kw_tr ad' v = kw_tr ad v := by
  cases v <;> first | rfl | (rename_i r; show Value.ref (ad' r) = Value.ref (ad r); rw [had r (h r rfl)])
theorem kw_as_eq {ad ad' : Nat → Nat} {nw : List Nat} (had : ∀ q, q ∉ nw → ad' q = ad q) {L : List (Option Value)} (h : ∀ r, some (Value.ref r) ∈ L → r ∉ nw) {ls : Array Slot} {nL : Nat} (hL : lv_has ls nL (kw_as ad L)) : lv_has ls nL (kw_as ad' L) := by
  refine ⟨hL.1, hL.2.1, fun q hq => ?_⟩
  obtain ⟨v, hv, e⟩ := kw_as_mem.mp hq
  exact hL.2.2 q (kw_as_mem.mpr ⟨v, hv, by rw [e, kw_tr_eq had (fun r hr => h r (by rw [← hr]; exact List.mem_of_getElem? hv))]⟩)
theorem kw_st_eq {ad ad' : Nat → Nat} {nw : List Nat} (had : ∀ q, q ∉ nw → ad' q = ad q) {st : List Value} (h : ∀ r, Value.ref r ∈ st → r ∉ nw) : st.map (kw_tr ad') = st.map (kw_tr ad) :=
  List.map_congr_left fun v hv => kw_tr_eq had (fun r hr => h r (by rw [← hr]; exact hv))
/-- the pool entry idx of own is the kind of object ci, which can be made -/
def kw_nj (own : String) (idx ci : Nat) : Prop := ∃ (Cn : String) (T : u_T) (N : Nat), mm_cl[ci]? = some (Cn, T, N) ∧ mm_nf ci = N ∧ (∀ w ∈ u_ws Cn T N, w ∈ kw_Ts) ∧ (∀ k, k < N → parseFieldDescriptor (T k).2.2.1 = some (mm_fty ci k)) ∧ (∀ k, k < N → mm_okty (mm_fty ci k) = true) ∧ Cond.classLink own idx Cn ∈ kw_Ts ∧ Cond.instantiable Cn N ∈ kw_Ts ∧ Cond.initialized Cn ∈ kw_Ts
section KWI
variable {Γ : kw_G} {l0 : Launch} {own : String} {cc : ByteArray} {ret : Option FieldType} {nm : String} {tb : List ExceptionTableEntry} {nL0 : Nat} {rm : Room} {X : Type} {outc : X → (Option Value ⊕ String) × Mm} {ids : List Nat} {ad : Nat → Nat} {cl sl pc : Nat} {f : Option X} {g : Mm → Option X} {L : List (Option Value)} {st stk : List Value} {σ : Mm}
theorem kw_objI (C : kw_Cx Γ l0 own cc ret nm tb nL0 rm) {o idx : Nat} (h1 : Cond.methodLink own idx Lib.objectInit ∈ kw_Ts) (h2 : Cond.instanceMethod Lib.objectInit ∈ kw_Ts) (h3 : Cond.code Lib.objectInit ⟨#[0xb1]⟩ 1 none ∈ kw_Ts) (hfr : 1 ≤ rm.frames) (hlo : (st.map fun v => v.category).sum + 12 ≤ rm.locals) (d : decode cc pc = .ok (.invokespecial idx, 3)) (k : KW Γ outc ids ad cl sl f (pc + 3) L st σ) : KW Γ outc ids ad cl sl f pc L (.ref o :: st) σ := by
  obtain ⟨p, l, e, R, s, m, args, below, meth, c, D, cT, base, sa, nL, Qf⟩ := Γ
  intro x0 hf H locs ls hR hS hL
  obtain ⟨hx, hb, hml, hown, hts, hSt, hl, hlk, htb, hret, hname, e0, e1, e2⟩ := id C
  subst e2
  exact W.objInit hx hb hown (hts _ h1) (hts _ h2) (hts _ h3) rfl (hL.1.trans hml.symm) rfl d hfr (by show 2 * 0 + ((st.map (kw_tr ad)).map fun v => v.category).sum + 12 ≤ _; rw [kw_trs]; omega) (k x0 hf H locs ls hR hS hL)
theorem kw_new (C : kw_Cx Γ l0 own cc ret nm tb nL0 rm) {o ci idx : Nat} (ni : kw_nj own idx ci) (ho : o ∉ ids) (hk : (mm_kd o).1 = 1) (hk2 : (mm_kd o).2.1 = ci) (hLo : ∀ r, some (Value.ref r) ∈ L → r ∉ [o]) (hso : ∀ r, Value.ref r ∈ st → r ∉ [o]) {cl' sl' : Nat} (he : cl + 1 = cl' ∧ sl + mm_nf ci = sl') (hcl : cl' ≤ rm.cells ∧ sl' ≤ rm.slots) (d : decode cc pc = .ok (.new idx, 3))
    (k : ∀ ad' σ1, (∀ q, q ∉ [o] → ad' q = ad q) → KW Γ outc (ids ++ [o]) ad' cl' sl' (g σ1) (pc + 3) L (.ref o :: st) σ1) : KW Γ outc ids ad cl sl (kf_let (mm_nw σ o) g) pc L st σ := by
  obtain ⟨p, l, e, R, s, m, args, below, meth, c, D, cT, base, sa, nL, Qf⟩ := Γ
  intro x0 hf H locs ls hR hS hL
  obtain ⟨hx, hb, hml, hown, hts, hSt, hl, hlk, htb, hret, hname, e0, e1, e2⟩ := id C
  subst e2
  obtain ⟨rfl, rfl⟩ := he
  obtain ⟨Cn, T, N, hc, hN, hin, hty, hok, w1, w2, w3⟩ := ni
  subst hN
  refine va_new (ci := ci) (fs := mm_fs ad (mm_nw σ o) o ci) hx hb hts hin (mm_fty ci) hty hown (hts _ w1) (hts _ w2) (hts _ w3) hSt.2.2.1 hR.1 hR.2.1 hS (fun q h => Nat.le_trans hSt.1 h) hc (fun j hj => ?_) hcl.1 hcl.2 d (fun q H1 hP1 hD1 hS1 => ?_)
  · rw [vp_V, List.getD_eq_getElem?_getD, mm_fs_at hj]
    exact mm_def (hok j hj) (by have := Nat.lt_of_lt_of_le hj (mm_nf_le ci); omega)
  · have had : ∀ z, z ∉ [o] → va_up ad o q z = ad z := fun z hz => va_up_ne ad q (fun e9 => hz (by rw [e9]; exact List.mem_singleton_self o))
    have hfs : mm_fs (va_up ad o q) (mm_nw σ o) o ci = mm_fs ad (mm_nw σ o) o ci := by
      unfold mm_fs
      refine List.map_congr_left fun i hi => ?_
      have h64 : i < 64 := Nat.lt_of_lt_of_le (List.mem_range.mp hi) (mm_nf_le _)
      unfold mm_fv
      rw [gR_nw, if_pos (show (64 * o + i) / 64 = o by omega)]
      rfl
    have hR1 := mm_Rel_new (o := o) (q := q) hR ho (by rw [hk]; decide) (by rw [mm_E_obj hk hk2, hfs]) hP1 hD1
    have kk := k (va_up ad o q) (mm_nw σ o) had x0 hf H1 locs ls hR1 hS1 (kw_as_eq had hLo hL)
    have es : (Value.ref o :: st).map (kw_tr (va_up ad o q)) = .ref q :: st.map (kw_tr ad) := by
      rw [List.map_cons, kw_st_eq had hso]
      show Value.ref (va_up ad o q o) :: _ = _
      rw [va_up_self]
    rw [es] at kk
    exact kk
theorem kw_newI (C : kw_Cx Γ l0 own cc ret nm tb nL0 rm) {o N : Nat} {n : Int32} (w1 : Cond.arrayClass .int ∈ kw_Ts) (ho : o ∉ ids) (hk : (mm_kd o).1 = 2) (hk2 : (mm_kd o).2.2 = N) (hn : ¬ n < 0) (hN : n.toNatClampNeg = N) (hb4 : N * componentBytes .int ≤ 536870912) (hLo : ∀ r, some (Value.ref r) ∈ L → r ∉ [o]) (hso : ∀ r, Value.ref r ∈ st → r ∉ [o]) {cl' sl' : Nat} (he : cl + 1 = cl' ∧ sl + N = sl') (hcl : cl' ≤ rm.cells ∧ sl' ≤ rm.slots) (d : decode cc pc = .ok (.newarray .int, 2))
    (k : ∀ ad' σ1, (∀ q, q ∉ [o] → ad' q = ad q) → KW Γ outc (ids ++ [o]) ad' cl' sl' (g σ1) (pc + 2) L (.ref o :: st) σ1) : KW Γ outc ids ad cl sl (kf_let (mm_nw σ o) g) pc L (.int n :: st) σ := by
  obtain ⟨p, l, e, R, s, m, args, below, meth, c, D, cT, base, sa, nL, Qf⟩ := Γ
  intro x0 hf H locs ls hR hS hL
  obtain ⟨hx, hb, hml, hown, hts, hSt, hl, hlk, htb, hret, hname, e0, e1, e2⟩ := id C
  subst e2
  obtain ⟨rfl, rfl⟩ := he
  refine va_newa (atype := .int) (ty := .int) (a0 := (N, .inl (fun _ => 0))) hx hb (hts _ w1) rfl hSt.2.2.1 hR.1 hR.2.1 hS (fun q h => Nat.le_trans hSt.1 h) (fun _ => rfl) hn hN hb4 hcl.1 hcl.2 d (fun q cA H1 hK1 hP1 hD1 hS1 => ?_)
  have ec : cA = cT 2 := by
    have a1 : s.vm.findClass ("[" ++ FieldType.int.toString) = some cA := (hK1.2 3 (cA, .int) rfl).2
    have a2 : s.vm.findClass ("[" ++ FieldType.int.toString) = some (cT 2) := (hSt.2.2.1.2 0 (cT 2, .int) rfl).2
    exact Option.some.inj (a1.symm.trans a2)
  subst ec
  have had : ∀ z, z ∉ [o] → va_up ad o q z = ad z := fun z hz => va_up_ne ad q (fun e9 => hz (by rw [e9]; exact List.mem_singleton_self o))
  have hR1 := mm_Rel_new (o := o) (q := q) hR ho (by rw [hk]; decide) (by rw [mm_E_arr (by rw [hk]; decide) (by rw [hk]; decide), hk, hk2, gB_nw, if_pos rfl]) hP1 hD1
  have kk := k (va_up ad o q) (mm_nw σ o) had x0 hf H1 locs ls hR1 hS1 (kw_as_eq had hLo hL)
  have es : (Value.ref o :: st).map (kw_tr (va_up ad o q)) = .ref q :: st.map (kw_tr ad) := by
    rw [List.map_cons, kw_st_eq had hso]
    show Value.ref (va_up ad o q o) :: _ = _
    rw [va_up_self]
  rw [es] at kk
  exact kk
theorem kw_newB (C : kw_Cx Γ l0 own cc ret nm tb nL0 rm) {o N : Nat} {n : Int32} (w1 : Cond.arrayClass .byte ∈ kw_Ts) (ho : o ∉ ids) (hk : (mm_kd o).1 = 3) (hk2 : (mm_kd o).2.2 = N) (hn : ¬ n < 0) (hN : n.toNatClampNeg = N) (hb4 : N * componentBytes .byte ≤ 536870912) (hLo : ∀ r, some (Value.ref r) ∈ L → r ∉ [o]) (hso : ∀ r, Value.ref r ∈ st → r ∉ [o]) {cl' sl' : Nat} (he : cl + 1 = cl' ∧ sl + N = sl') (hcl : cl' ≤ rm.cells ∧ sl' ≤ rm.slots) (d : decode cc pc = .ok (.newarray .byte, 2))
    (k : ∀ ad' σ1, (∀ q, q ∉ [o] → ad' q = ad q) → KW Γ outc (ids ++ [o]) ad' cl' sl' (g σ1) (pc + 2) L (.ref o :: st) σ1) : KW Γ outc ids ad cl sl (kf_let (mm_nw σ o) g) pc L (.int n :: st) σ := by
  obtain ⟨p, l, e, R, s, m, args, below, meth, c, D, cT, base, sa, nL, Qf⟩ := Γ
  intro x0 hf H locs ls hR hS hL
  obtain ⟨hx, hb, hml, hown, hts, hSt, hl, hlk, htb, hret, hname, e0, e1, e2⟩ := id C
  subst e2
  obtain ⟨rfl, rfl⟩ := he
  refine va_newa (atype := .byte) (ty := .byte) (a0 := (N, .inl (fun _ => 0))) hx hb (hts _ w1) rfl hSt.2.2.1 hR.1 hR.2.1 hS (fun q h => Nat.le_trans hSt.1 h) (fun _ => rfl) hn hN hb4 hcl.1 hcl.2 d (fun q cA H1 hK1 hP1 hD1 hS1 => ?_)
  have ec : cA = cT 3 := by
    have a1 : s.vm.findClass ("[" ++ FieldType.byte.toString) = some cA := (hK1.2 3 (cA, .byte) rfl).2
    have a2 : s.vm.findClass ("[" ++ FieldType.byte.toString) = some (cT 3) := (hSt.2.2.1.2 1 (cT 3, .byte) rfl).2
    exact Option.some.inj (a1.symm.trans a2)
  subst ec
  have had : ∀ z, z ∉ [o] → va_up ad o q z = ad z := fun z hz => va_up_ne ad q (fun e9 => hz (by rw [e9]; exact List.mem_singleton_self o))
  have hR1 := mm_Rel_new (o := o) (q := q) hR ho (by rw [hk]; decide) (by rw [mm_E_arr (by rw [hk]; decide) (by rw [hk]; decide), hk, hk2, gB_nw, if_pos rfl]) hP1 hD1
  have kk := k (va_up ad o q) (mm_nw σ o) had x0 hf H1 locs ls hR1 hS1 (kw_as_eq had hLo hL)
  have es : (Value.ref o :: st).map (kw_tr (va_up ad o q)) = .ref q :: st.map (kw_tr ad) := by
    rw [List.map_cons, kw_st_eq had hso]
    show Value.ref (va_up ad o q o) :: _ = _
    rw [va_up_self]
  rw [es] at kk
  exact kk
theorem kw_newJ (C : kw_Cx Γ l0 own cc ret nm tb nL0 rm) {o N : Nat} {n : Int32} (w1 : Cond.arrayClass .long ∈ kw_Ts) (ho : o ∉ ids) (hk : (mm_kd o).1 = 4) (hk2 : (mm_kd o).2.2 = N) (hn : ¬ n < 0) (hN : n.toNatClampNeg = N) (hb4 : N * componentBytes .long ≤ 536870912) (hLo : ∀ r, some (Value.ref r) ∈ L → r ∉ [o]) (hso : ∀ r, Value.ref r ∈ st → r ∉ [o]) {cl' sl' : Nat} (he : cl + 1 = cl' ∧ sl + N = sl') (hcl : cl' ≤ rm.cells ∧ sl' ≤ rm.slots) (d : decode cc pc = .ok (.newarray .long, 2))
    (k : ∀ ad' σ1, (∀ q, q ∉ [o] → ad' q = ad q) → KW Γ outc (ids ++ [o]) ad' cl' sl' (g σ1) (pc + 2) L (.ref o :: st) σ1) : KW Γ outc ids ad cl sl (kf_let (mm_nw σ o) g) pc L (.int n :: st) σ := by
  obtain ⟨p, l, e, R, s, m, args, below, meth, c, D, cT, base, sa, nL, Qf⟩ := Γ
  intro x0 hf H locs ls hR hS hL
  obtain ⟨hx, hb, hml, hown, hts, hSt, hl, hlk, htb, hret, hname, e0, e1, e2⟩ := id C
  subst e2
  obtain ⟨rfl, rfl⟩ := he
  refine va_newa (atype := .long) (ty := .long) (a0 := (N, .inr (.inl (fun _ => 0)))) hx hb (hts _ w1) rfl hSt.2.2.1 hR.1 hR.2.1 hS (fun q h => Nat.le_trans hSt.1 h) (fun _ => rfl) hn hN hb4 hcl.1 hcl.2 d (fun q cA H1 hK1 hP1 hD1 hS1 => ?_)
  have ec : cA = cT 4 := by
    have a1 : s.vm.findClass ("[" ++ FieldType.long.toString) = some cA := (hK1.2 3 (cA, .long) rfl).2
    have a2 : s.vm.findClass ("[" ++ FieldType.long.toString) = some (cT 4) := (hSt.2.2.1.2 2 (cT 4, .long) rfl).2
    exact Option.some.inj (a1.symm.trans a2)
  subst ec
  have had : ∀ z, z ∉ [o] → va_up ad o q z = ad z := fun z hz => va_up_ne ad q (fun e9 => hz (by rw [e9]; exact List.mem_singleton_self o))
  have hR1 := mm_Rel_new (o := o) (q := q) hR ho (by rw [hk]; decide) (by rw [mm_E_long hk, hk2, gK_nw, if_pos rfl]) hP1 hD1
  have kk := k (va_up ad o q) (mm_nw σ o) had x0 hf H1 locs ls hR1 hS1 (kw_as_eq had hLo hL)
  have es : (Value.ref o :: st).map (kw_tr (va_up ad o q)) = .ref q :: st.map (kw_tr ad) := by
    rw [List.map_cons, kw_st_eq had hso]
    show Value.ref (va_up ad o q o) :: _ = _
    rw [va_up_self]
  rw [es] at kk
  exact kk
/-- a constructor is called: nw' are the things that it makes -/
theorem kw_callI (C : kw_Cx Γ l0 own cc ret nm tb nL0 rm) {y : MethodName} {bytes : ByteArray} {maxL idx : Nat} {rm' : Room} {As : List Value} {t cl' sl' : Nat} {nw' : List Nat} {f' : Option Mm} (hM : kw_C l0 y (Cond.code y bytes maxL none :: kw_Ts) rm' kw_ov ids nw' (.ref t :: As) σ f') (hlk : Cond.methodLink own idx y ∈ kw_Ts ∨ ∃ host, Cond.methodLinkNest own idx y host ∈ mm_nest) (m2 : Cond.code y bytes maxL none ∈ kw_Ts) (m3 : Cond.initialized y.cls ∈ kw_Ts) (m5 : Cond.instanceMethod y ∈ kw_Ts) (hy1 : y.name = "<init>") (m4 : y.cls ≠ "java/lang/invoke/MethodHandle" ∧ y.cls ≠ "java/lang/invoke/VarHandle" ∧ (parseMethodDescriptor y.desc).map (fun d => d.parameters.length) = some As.length) (hrm : rm'.frames + 1 ≤ rm.frames ∧ 8 + (maxL + 11) + rm'.locals ≤ rm.locals) (hst : (st.map fun v => v.category).sum ≤ 8) (hcl : cl + rm'.cells ≤ rm.cells ∧ sl + rm'.slots ≤ rm.slots) (he : cl + rm'.cells = cl' ∧ sl + rm'.slots = sl') (hs : stk = As.reverse ++ .ref t :: st) (hLo : ∀ r, some (Value.ref r) ∈ L → r ∉ nw') (hso : ∀ r, Value.ref r ∈ st → r ∉ nw') (d : decode cc pc = .ok (.invokespecial idx, 3))
    (kk : ∀ ad' σ1, (∀ q, q ∉ nw' → ad' q = ad q) → KW Γ outc (ids ++ nw') ad' cl' sl' (g σ1) (pc + 3) L st σ1) : KW Γ outc ids ad cl sl (Option.bind f' g) pc L stk σ := by
  obtain ⟨p, l, e, R, s, m, args, below, meth, c, D, cT, base, sa, nL, Qf⟩ := Γ
  intro x0 hf H locs ls hR hS hL
  obtain ⟨hx, hb, hml, hown, hts, hSt, hl, hlk9, htb, hret, hname, e0, e1, e2⟩ := id C
  subst e0; subst e1; subst e2; subst hb; subst hs
  obtain ⟨rfl, rfl⟩ := he
  cases hf' : f' with
  | none => rw [hf'] at hf; cases hf
  | some x' =>
    rw [hf'] at hf
    intro T hT X
    subst hT
    have hpl : e.platform.magicAccessors = ({} : Platform).magicAccessors := by rw [X.admits.platform]
    have hlen : ∀ sig, parseMethodDescriptor y.desc = some sig → (As.map (kw_tr ad)).length = sig.parameters.length := fun sig h9 => by
      have := m4.2.2; rw [h9] at this; simpa using (Option.some.inj this).symm
    have hstk : (F0 m pc ls ((As.reverse ++ .ref t :: st).map (kw_tr ad))).stack = (As.map (kw_tr ad)).reverse ++ .ref (ad t) :: st.map (kw_tr ad) := by
      show List.map (kw_tr ad) (As.reverse ++ .ref t :: st) = _
      rw [List.map_append, List.map_reverse]; rfl
    have hgo : ∃ (mk : MethodId) (methM : Method) (cM : Code) (vm₁ : Vm), s.methodNamed? y = some mk ∧ s.vm.method? mk = some methM ∧ methM.code = some cM ∧ cM.maxLocals = maxL ∧ s.WarmedH vm₁ ∧ ∀ target, Steps p.tables e below (doInvoke e ((T.setVm vm₁).setTop (F0 m pc ls (st.map (kw_tr ad)))) [] mk (Value.ref (ad t) :: As.map (kw_tr ad)).toArray).1 target → Steps p.tables e below (T.setTop (F0 m pc ls ((As.reverse ++ .ref t :: st).map (kw_tr ad)))) target := by
      rcases hlk with hk | ⟨host, hk⟩
      · obtain ⟨mk, methM, cM, kP, vm₁, a1, a2, a3, -, a5, -, -, -, a9, a10⟩ := Steps.initColdArgs (e := e) X.here hx X.warmed hpl hown hy1 ⟨m4.1, m4.2.1⟩ (hts _ hk) (hts _ m5) (hts _ m2) (f := F0 m pc ls ((As.reverse ++ .ref t :: st).map (kw_tr ad))) rfl hlen hstk d
        exact ⟨mk, methM, cM, vm₁, a1, a2, a3, a5, a9, fun target h9 => a10 _ fun acts => by rw [doInvoke_state]; exact h9⟩
      · obtain ⟨mk, methM, cM, kP, vm₁, a1, a2, a3, -, a5, -, -, -, a9, a10⟩ := Steps.initColdArgsNest (e := e) X.here hx X.warmed hpl hown hy1 ⟨m4.1, m4.2.1⟩ (va_Nw.use rfl (hSt.2.1 _ hk)) (hts _ m5) (hts _ m2) (f := F0 m pc ls ((As.reverse ++ .ref t :: st).map (kw_tr ad))) rfl hlen hstk d
        exact ⟨mk, methM, cM, vm₁, a1, a2, a3, a5, a9, fun target h9 => a10 _ fun acts => by rw [doInvoke_state]; exact h9⟩
    obtain ⟨mk, methM, cM, vm₁, hnamed, hmethM, hcM, hkL, hW₁, hstep₁⟩ := hgo
    have X₁ := X.noted hW₁
    have hG := kw_goodc m2
    have hpay := pay_in hts hG
    have h9 : ((st.map (kw_tr ad)).map fun v => v.category).sum ≤ 8 := by rw [kw_trs]; exact hst
    have hlo9 : 2 * (F0 m pc ls (st.map (kw_tr ad))).monitorRoom + ((F0 m pc ls (st.map (kw_tr ad))).stack.map fun v => v.category).sum + (cM.maxLocals + 11) + rm'.locals ≤ R.locals := by
      have h8 := hrm.2
      rw [hkL]
      show 2 * 0 + ((st.map (kw_tr ad)).map fun v => v.category).sum + (maxL + 11) + rm'.locals ≤ R.locals
      omega
    have hmid := kw_enter X₁ (g := F0 m pc ls (st.map (kw_tr ad))) rfl (hL.1.trans hml.symm) d (a := (Value.ref (ad t) :: As.map (kw_tr ad)).toArray) (X₁.named hnamed) (hM x' hf' D cT base sa ad) (fun w hw9 => hpay w hw9 _ _ X₁.warmed) (by rw [X₁.warmed.alike.method?]; exact hmethM) hcM (word_at X₁.warmed (good_of_word (List.mem_filter.mp m3).2) (hts _ m3)) hrm.1 hlo9 hcl.1 hcl.2
      ⟨rfl, (hSt.moved (U := T.setVm vm₁) hS rfl X₁.warmed).calling, hR⟩
    obtain ⟨oc, t9, h1, h2, h3⟩ := hmid
    refine kw_back X₁ (g := F0 m pc ls (st.map (kw_tr ad))) rfl d hS h2 h3 (hstep₁ _ h1) ?_ ?_
    · intro v ad' H1 locs1 hv' had hR1 hS1
      cases hv'
      have k := kk ad' x' had x0 hf H1 locs1 ls hR1 hS1 (kw_as_eq had hLo hL)
      rw [kw_st_eq had hso] at k
      exact k
    · intro E ce q9 ad' T' locs1 hE had hR1 hS1 hce hcv hcl9 X'
      cases hE
end KWI
