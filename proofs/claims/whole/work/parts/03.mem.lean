/-! THE MEMORY OF THE SYSTEM, FLAT. A thing (object or array) has a NUMBER; 'ad' gives its address. Field j of thing o stands at place 64*o+j. -/
/-- ints (and booleans), longs, references, cells of int and byte arrays, cells of long arrays -/
abbrev Mm : Type := (Nat → Int32) × (Nat → Int64) × (Nat → Option Nat) × (Nat → Nat → Int32) × (Nat → Nat → Int64)
def gS (σ : Mm) (k : Nat) : Int32 := σ.1 k
def gJ (σ : Mm) (k : Nat) : Int64 := σ.2.1 k
def gR (σ : Mm) (k : Nat) : Option Nat := σ.2.2.1 k
def gB (σ : Mm) (a : Nat) : Nat → Int32 := σ.2.2.2.1 a
def gK (σ : Mm) (a : Nat) : Nat → Int64 := σ.2.2.2.2 a
def pS (σ : Mm) (k : Nat) (v : Int32) : Mm := (va_up σ.1 k v, σ.2)
def pJ (σ : Mm) (k : Nat) (v : Int64) : Mm := (σ.1, va_up σ.2.1 k v, σ.2.2)
def pR (σ : Mm) (k : Nat) (v : Option Nat) : Mm := (σ.1, σ.2.1, va_up σ.2.2.1 k v, σ.2.2.2)
def pB (σ : Mm) (a i : Nat) (v : Int32) : Mm := (σ.1, σ.2.1, σ.2.2.1, va_up σ.2.2.2.1 a (upd (σ.2.2.2.1 a) i v), σ.2.2.2.2)
def pK (σ : Mm) (a i : Nat) (v : Int64) : Mm := (σ.1, σ.2.1, σ.2.2.1, σ.2.2.2.1, va_up σ.2.2.2.2 a (vp_updL (σ.2.2.2.2 a) i v))
/-- a reference of the flat world, by its address -/
def kw_tr (ad : Nat → Nat) (v : Value) : Value := match v with
  | .ref a => .ref (ad a)
  | .int x => .int x
  | .long x => .long x
  | .float x => .float x
  | .double x => .double x
  | .null => .null
  | .retAddr x => .retAddr x
theorem kw_trc (ad : Nat → Nat) (v : Value) : (kw_tr ad v).category = v.category := by cases v <;> rfl
theorem kw_trs (ad : Nat → Nat) (st : List Value) : ((st.map (kw_tr ad)).map fun v => v.category) = st.map fun v => v.category := by
  rw [List.map_map]
  exact List.map_congr_left fun v _ => kw_trc ad v
/-- what a field of a type holds -/
def mm_fv (ad : Nat → Nat) (σ : Mm) (k : Nat) (ty : FieldType) : Value := match ty with
  | .long => .long (gJ σ k)
  | .object _ => va_rf ((gR σ k).map ad)
  | .array _ => va_rf ((gR σ k).map ad)
  | _ => .int (gS σ k)
def mm_fs (ad : Nat → Nat) (σ : Mm) (o ci : Nat) : List Value := (List.range (mm_nf ci)).map (fun j => mm_fv ad σ (64 * o + j) (mm_fty ci j))
/-- the thing o as a cell: by its kind (1 object of a class, 2 int array, 3 byte array, 4 long array) -/
def mm_E (cT : Nat → ClassId) (ad : Nat → Nat) (σ : Mm) (o : Nat) : va_E :=
  if (mm_kd o).1 = 1 then .inr ((mm_kd o).2.1, mm_fs ad σ o (mm_kd o).2.1)
  else if (mm_kd o).1 = 4 then .inl (cT 4, (mm_kd o).2.2, .inr (.inl (gK σ o)))
  else .inl (cT (mm_kd o).1, (mm_kd o).2.2, .inl (gB σ o))
def mm_W (cT : Nat → ClassId) (ids : List Nat) (ad : Nat → Nat) (σ : Mm) : va_W := ids.map (fun o => (ad o, mm_E cT ad σ o))
/-- the thing o is there, of kind t (an object: of class x) -/
def mm_ok (ids : List Nat) (o t x : Nat) : Prop := o ∈ ids ∧ (mm_kd o).1 = t ∧ (mm_kd o).2.1 = x
/-- every reference leads to a thing of its field's kind -/
def mm_ty (ids : List Nat) (σ : Mm) : Prop := ∀ o, o ∈ ids → (mm_kd o).1 = 1 → ∀ j, j < mm_nf (mm_kd o).2.1 → ∀ o', gR σ (64 * o + j) = some o' → mm_ok ids o' (mm_frt (mm_kd o).2.1 j).1 (mm_frt (mm_kd o).2.1 j).2
/-- the flat memory is what lies in the heap -/
def mm_Rel (D : va_G) (cT : Nat → ClassId) (base : Nat) (sa : Nat → Nat) (ids : List Nat) (ad : Nat → Nat) (σ : Mm) (H : Heap) : Prop :=
  va_P D mm_cl (mm_W cT ids ad σ) H ∧ va_D (fun q => base ≤ q) (mm_W cT ids ad σ) ∧ mm_ty ids σ ∧ (∀ o, (mm_kd o).1 = 5 → ad o = sa o ∧ gB σ o = mm_sc o) ∧ (∀ o, o ∈ ids → (mm_kd o).1 ≠ 5)
section MM
variable {D : va_G} {cT : Nat → ClassId} {base : Nat} {sa : Nat → Nat} {ids : List Nat} {ad : Nat → Nat} {σ : Mm} {H : Heap}
theorem mm_W_at {o : Nat} (h : o ∈ ids) : ∃ q0 : Nat, ids[q0]? = some o ∧ (mm_W cT ids ad σ)[q0]? = some (ad o, mm_E cT ad σ o) := by
  obtain ⟨q0, h0⟩ := List.getElem?_of_mem h
  exact ⟨q0, h0, by unfold mm_W; rw [List.getElem?_map, h0]; rfl⟩
theorem mm_inj (hD : va_D (fun q => base ≤ q) (mm_W cT ids ad σ)) {i j o : Nat} (hi : ids[i]? = some o) (hj : ids[j]? = some o) : i = j := by
  have e1 : (mm_W cT ids ad σ)[i]? = some (ad o, mm_E cT ad σ o) := by unfold mm_W; rw [List.getElem?_map, hi]; rfl
  have e2 : (mm_W cT ids ad σ)[j]? = some (ad o, mm_E cT ad σ o) := by unfold mm_W; rw [List.getElem?_map, hj]; rfl
  exact hD.1 i j _ _ e1 e2 rfl
/-- one thing changes -/
theorem mm_W_set {σ' : Mm} {o q0 : Nat} {e : va_E} (hD : va_D (fun q => base ≤ q) (mm_W cT ids ad σ)) (h0 : ids[q0]? = some o) (he : mm_E cT ad σ' o = e) (hn : ∀ o', o' ∈ ids → o' ≠ o → mm_E cT ad σ' o' = mm_E cT ad σ o') : (mm_W cT ids ad σ).set q0 (ad o, e) = mm_W cT ids ad σ' := by
  subst he
  apply List.ext_getElem?
  intro i
  have hl : q0 < (mm_W cT ids ad σ).length := by
    unfold mm_W; rw [List.length_map]; exact (List.getElem?_eq_some_iff.mp h0).1
  by_cases hi : i = q0
  · subst hi
    rw [List.getElem?_set_self hl]
    unfold mm_W
    rw [List.getElem?_map, h0]
    rfl
  · rw [List.getElem?_set_ne (Ne.symm hi)]
    unfold mm_W
    rw [List.getElem?_map, List.getElem?_map]
    cases hx : ids[i]? with
    | none => rfl
    | some o' =>
      have hne : o' ≠ o := fun z => hi (mm_inj hD (z ▸ hx) h0)
      simp only [Option.map_some]
      rw [hn o' (List.mem_of_getElem? hx) hne]
theorem mm_E_obj {o ci : Nat} (h1 : (mm_kd o).1 = 1) (h2 : (mm_kd o).2.1 = ci) : mm_E cT ad σ o = .inr (ci, mm_fs ad σ o ci) := by
  unfold mm_E; rw [if_pos h1, h2]
theorem mm_E_arr {o : Nat} (h1 : (mm_kd o).1 ≠ 1) (h4 : (mm_kd o).1 ≠ 4) : mm_E cT ad σ o = .inl (cT (mm_kd o).1, (mm_kd o).2.2, .inl (gB σ o)) := by
  unfold mm_E; rw [if_neg h1, if_neg h4]
theorem mm_E_long {o : Nat} (h4 : (mm_kd o).1 = 4) : mm_E cT ad σ o = .inl (cT 4, (mm_kd o).2.2, .inr (.inl (gK σ o))) := by
  unfold mm_E; rw [if_neg (by rw [h4]; decide), if_pos h4]
theorem mm_fs_at {o ci j : Nat} (hj : j < mm_nf ci) : (mm_fs ad σ o ci)[j]? = some (mm_fv ad σ (64 * o + j) (mm_fty ci j)) := by
  unfold mm_fs
  rw [List.getElem?_map, List.getElem?_range hj]
  rfl
theorem mm_fs_len {o ci : Nat} : (mm_fs ad σ o ci).length = mm_nf ci := by unfold mm_fs; simp
/-- a field's place belongs to one thing alone -/
theorem mm_pl {o o' j j' : Nat} (hj : j < 64) (hj' : j' < 64) (h : 64 * o' + j' = 64 * o + j) : o' = o ∧ j' = j := by omega
/-- the fields of o when one of its places is put anew -/
theorem mm_fs_put {σ' : Mm} {o ci j : Nat} {v : Value} (hj : j < mm_nf ci) (hv : mm_fv ad σ' (64 * o + j) (mm_fty ci j) = v) (hn : ∀ i, i < mm_nf ci → i ≠ j → mm_fv ad σ' (64 * o + i) (mm_fty ci i) = mm_fv ad σ (64 * o + i) (mm_fty ci i)) : (mm_fs ad σ o ci).set j v = mm_fs ad σ' o ci := by
  subst hv
  apply List.ext_getElem?
  intro i
  by_cases hi : i = j
  · subst hi
    rw [List.getElem?_set_self (by rw [mm_fs_len]; exact hj), mm_fs_at hj]
  · rw [List.getElem?_set_ne (Ne.symm hi)]
    by_cases hl : i < mm_nf ci
    · rw [mm_fs_at hl, mm_fs_at hl, hn i hl hi]
    · rw [List.getElem?_eq_none (by rw [mm_fs_len]; omega), List.getElem?_eq_none (by rw [mm_fs_len]; omega)]
theorem mm_fs_eq {σ' : Mm} {o ci : Nat} (hn : ∀ i, i < mm_nf ci → mm_fv ad σ' (64 * o + i) (mm_fty ci i) = mm_fv ad σ (64 * o + i) (mm_fty ci i)) : mm_fs ad σ' o ci = mm_fs ad σ o ci := by
  unfold mm_fs
  exact List.map_congr_left fun i hi => hn i (List.mem_range.mp hi)
theorem mm_fv_eq {σ' : Mm} {k : Nat} {ty : FieldType} (h1 : gS σ' k = gS σ k) (h2 : gJ σ' k = gJ σ k) (h3 : gR σ' k = gR σ k) : mm_fv ad σ' k ty = mm_fv ad σ k ty := by
  unfold mm_fv; rw [h1, h2, h3]
theorem mm_E_eq {σ' : Mm} {o : Nat} (hk : mm_nf (mm_kd o).2.1 ≤ 64) (h1 : ∀ i, i < 64 → gS σ' (64 * o + i) = gS σ (64 * o + i)) (h2 : ∀ i, i < 64 → gJ σ' (64 * o + i) = gJ σ (64 * o + i)) (h3 : ∀ i, i < 64 → gR σ' (64 * o + i) = gR σ (64 * o + i)) (h4 : gB σ' o = gB σ o) (h5 : gK σ' o = gK σ o) : mm_E cT ad σ' o = mm_E cT ad σ o := by
  unfold mm_E
  rw [h4, h5]
  by_cases z : (mm_kd o).1 = 1
  · rw [if_pos z, if_pos z, mm_fs_eq (fun i hi => mm_fv_eq (h1 i (by omega)) (h2 i (by omega)) (h3 i (by omega)))]
  · rw [if_neg z, if_neg z]
end MM
/-- reads behind writes -/
theorem gS_pS {σ : Mm} {k j : Nat} {v : Int32} : gS (pS σ k v) j = if j = k then v else gS σ j := rfl
theorem gS_pJ {σ : Mm} {k j : Nat} {v : Int64} : gS (pJ σ k v) j = gS σ j := rfl
theorem gS_pR {σ : Mm} {k j : Nat} {v : Option Nat} : gS (pR σ k v) j = gS σ j := rfl
theorem gS_pB {σ : Mm} {a i j : Nat} {v : Int32} : gS (pB σ a i v) j = gS σ j := rfl
theorem gS_pK {σ : Mm} {a i j : Nat} {v : Int64} : gS (pK σ a i v) j = gS σ j := rfl
theorem gJ_pS {σ : Mm} {k j : Nat} {v : Int32} : gJ (pS σ k v) j = gJ σ j := rfl
theorem gJ_pJ {σ : Mm} {k j : Nat} {v : Int64} : gJ (pJ σ k v) j = if j = k then v else gJ σ j := rfl
theorem gJ_pR {σ : Mm} {k j : Nat} {v : Option Nat} : gJ (pR σ k v) j = gJ σ j := rfl
theorem gJ_pB {σ : Mm} {a i j : Nat} {v : Int32} : gJ (pB σ a i v) j = gJ σ j := rfl
theorem gJ_pK {σ : Mm} {a i j : Nat} {v : Int64} : gJ (pK σ a i v) j = gJ σ j := rfl
theorem gR_pS {σ : Mm} {k j : Nat} {v : Int32} : gR (pS σ k v) j = gR σ j := rfl
theorem gR_pJ {σ : Mm} {k j : Nat} {v : Int64} : gR (pJ σ k v) j = gR σ j := rfl
theorem gR_pR {σ : Mm} {k j : Nat} {v : Option Nat} : gR (pR σ k v) j = if j = k then v else gR σ j := rfl
theorem gR_pB {σ : Mm} {a i j : Nat} {v : Int32} : gR (pB σ a i v) j = gR σ j := rfl
theorem gR_pK {σ : Mm} {a i j : Nat} {v : Int64} : gR (pK σ a i v) j = gR σ j := rfl
theorem gB_pS {σ : Mm} {k a : Nat} {v : Int32} : gB (pS σ k v) a = gB σ a := rfl
theorem gB_pJ {σ : Mm} {k a : Nat} {v : Int64} : gB (pJ σ k v) a = gB σ a := rfl
theorem gB_pR {σ : Mm} {k a : Nat} {v : Option Nat} : gB (pR σ k v) a = gB σ a := rfl
theorem gB_pB {σ : Mm} {a b i : Nat} {v : Int32} : gB (pB σ a i v) b = if b = a then upd (gB σ a) i v else gB σ b := rfl
theorem gB_pK {σ : Mm} {a b i : Nat} {v : Int64} : gB (pK σ a i v) b = gB σ b := rfl
theorem gK_pS {σ : Mm} {k a : Nat} {v : Int32} : gK (pS σ k v) a = gK σ a := rfl
theorem gK_pJ {σ : Mm} {k a : Nat} {v : Int64} : gK (pJ σ k v) a = gK σ a := rfl
theorem gK_pR {σ : Mm} {k a : Nat} {v : Option Nat} : gK (pR σ k v) a = gK σ a := rfl
theorem gK_pB {σ : Mm} {a b i : Nat} {v : Int32} : gK (pB σ a i v) b = gK σ b := rfl
theorem gK_pK {σ : Mm} {a b i : Nat} {v : Int64} : gK (pK σ a i v) b = if b = a then vp_updL (gK σ a) i v else gK σ b := rfl
section MR
variable {D : va_G} {cT : Nat → ClassId} {base : Nat} {sa : Nat → Nat} {ids : List Nat} {ad : Nat → Nat} {σ : Mm} {H H1 : Heap}
/-- the flat memory behind a field's or an array's store: the cells as the store left them -/
theorem mm_Rel_set {σ' : Mm} {o q0 : Nat} {e : va_E} (hR : mm_Rel D cT base sa ids ad σ H) (h0 : ids[q0]? = some o) (he : mm_E cT ad σ' o = e) (hn : ∀ o', o' ∈ ids → o' ≠ o → mm_E cT ad σ' o' = mm_E cT ad σ o') (hty : mm_ty ids σ') (hst : ∀ a, (mm_kd a).1 = 5 → gB σ' a = gB σ a)
    (hP1 : va_P D mm_cl ((mm_W cT ids ad σ).set q0 (ad o, e)) H1) (hD1 : va_D (fun q => base ≤ q) ((mm_W cT ids ad σ).set q0 (ad o, e))) : mm_Rel D cT base sa ids ad σ' H1 := by
  rw [mm_W_set hR.2.1 h0 he hn] at hP1 hD1
  exact ⟨hP1, hD1, hty, fun a ha => ⟨(hR.2.2.2.1 a ha).1, (hst a ha).trans (hR.2.2.2.1 a ha).2⟩, hR.2.2.2.2⟩
end MR
