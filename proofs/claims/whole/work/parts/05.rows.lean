/-! FIELDS, ARRAYS, CALLS, ENDS over the flat memory -/
/-- the pool entry idx of own is field j of the kind of object ci -/
def kw_fi (own : String) (idx ci j : Nat) (fin : Bool) : Prop := ∃ (Cn : String) (T : u_T) (N : Nat), mm_cl[ci]? = some (Cn, T, N) ∧ mm_nf ci = N ∧ j < N ∧ (∀ w ∈ u_ws Cn T N, w ∈ kw_Ts) ∧ (∀ k, k < N → parseFieldDescriptor (T k).2.2.1 = some (mm_fty ci k)) ∧ (∀ a, a < N → ∀ b, b < N → a ≠ b → (T a).2.1 ≠ (T b).2.1) ∧ (T j).2.2.2 = fin ∧ Cond.fieldLink own idx (T j).1 (T j).2.1 (T j).2.2.1 ∈ kw_Ts
/-- an int array that may be read -/
def mm_ai (ids : List Nat) (o : Nat) : Prop := (o ∈ ids ∧ (mm_kd o).1 = 2) ∨ (mm_kd o).1 = 5
section KWM
variable {p : Program} {l : Launch} {e : Env} {R : Room} {s : State} {m : MethodId} {args : Array Value} {below : List Frame} {meth : Method} {c : Code} {D : va_G} {cT : Nat → ClassId} {base : Nat} {sa : Nat → Nat} {nL : Nat} {Qf : (Option Value ⊕ String) × Mm → State → Prop}
variable {l0 : Launch} {own : String} {cc : ByteArray} {ret : Option FieldType} {nm : String} {tb : List ExceptionTableEntry} {nL0 : Nat} {rm : Room} {ids1 nw1 : List Nat} {ad1 : Nat → Nat} {ids : List Nat} {ad : Nat → Nat} {cl sl pc : Nat} {σ : Mm} {H : Heap} {locs : List Loc} {ls : Array Slot} {rest : List Value} {Q : State → Prop}
theorem kw_getW (C : kw_Cx (p, l, e, R, s, m, args, below, meth, c, D, cT, base, sa, nL, Qf) l0 own cc ret nm tb nL0 rm) {o ci j idx : Nat} {fin : Bool} (fi : kw_fi own idx ci j fin) (ho : mm_ok ids o 1 ci) (hR : mm_Rel D cT base sa ids ad σ H) (d : decode cc pc = .ok (.getfield idx, 3)) (k : W p l e R s m args below meth c H locs cl sl Q (F0 m (pc + 3) ls (mm_fv ad σ (64 * o + j) (mm_fty ci j) :: rest))) : W p l e R s m args below meth c H locs cl sl Q (F0 m pc ls (.ref (ad o) :: rest)) := by
  obtain ⟨Cn, T, N, hc, hN, hj, hin, hty, hnm, hf, hlk⟩ := fi
  obtain ⟨hx, hb, hml, hown, hts, hSt, -⟩ := C
  obtain ⟨q0, h0, hw⟩ := mm_W_at (cT := cT) (ad := ad) (σ := σ) ho.1
  rw [mm_E_obj ho.2.1 ho.2.2] at hw
  have h := hlk
  exact va_get hx hb hts hin hown hSt.2.2.1 hR.1 q0 hw hc j hj (hts _ h) (fun _ z => z) (mm_fs_at (by rw [hN]; exact hj)) d k
theorem kw_putR {σ' : Mm} {o ci j : Nat} (hR : mm_Rel D cT base sa ids ad σ H) {q0 : Nat} {v : Value} {H1 : Heap} (ho : mm_ok ids o 1 ci) (h0 : ids[q0]? = some o) (hj : j < mm_nf ci) (he : mm_fv ad σ' (64 * o + j) (mm_fty ci j) = v) (hoth : ∀ k, k ≠ 64 * o + j → gS σ' k = gS σ k ∧ gJ σ' k = gJ σ k ∧ gR σ' k = gR σ k) (hB : ∀ a, gB σ' a = gB σ a) (hKk : ∀ a, gK σ' a = gK σ a) (hty : mm_ty ids σ')
    (hP1 : va_P D mm_cl ((mm_W cT ids ad σ).set q0 (ad o, .inr (ci, (mm_fs ad σ o ci).set j v))) H1) (hD1 : va_D (fun q => base ≤ q) ((mm_W cT ids ad σ).set q0 (ad o, .inr (ci, (mm_fs ad σ o ci).set j v)))) : mm_Rel D cT base sa ids ad σ' H1 := by
  have hj64 : j < 64 := Nat.lt_of_lt_of_le hj (mm_nf_le ci)
  refine mm_Rel_set hR h0 ?_ (fun o' _ hne => ?_) hty (fun a _ => hB a) hP1 hD1
  · rw [mm_E_obj ho.2.1 ho.2.2, mm_fs_put hj he]
    intro i hi hne
    have hp : 64 * o + i ≠ 64 * o + j := by omega
    exact mm_fv_eq (hoth _ hp).1 (hoth _ hp).2.1 (hoth _ hp).2.2
  · have hp : ∀ i, i < 64 → 64 * o' + i ≠ 64 * o + j := fun i hi z => hne (mm_pl hj64 hi z).1
    exact mm_E_eq (mm_nf_le _) (fun i hi => (hoth _ (hp i hi)).1) (fun i hi => (hoth _ (hp i hi)).2.1) (fun i hi => (hoth _ (hp i hi)).2.2) (hB o') (hKk o')
theorem kw_putW (C : kw_Cx (p, l, e, R, s, m, args, below, meth, c, D, cT, base, sa, nL, Qf) l0 own cc ret nm tb nL0 rm) {σ' : Mm} {o ci j idx : Nat} {v : Value} (fi : kw_fi own idx ci j false) (ho : mm_ok ids o 1 ci) (hn : narrow (mm_fty ci j) v = v) (hfit : fits (mm_fty ci j) v = true) (hR : mm_Rel D cT base sa ids ad σ H) (hS : va_S (fun q => base ≤ q) s.heap H locs) (he : mm_fv ad σ' (64 * o + j) (mm_fty ci j) = v) (hoth : ∀ k, k ≠ 64 * o + j → gS σ' k = gS σ k ∧ gJ σ' k = gJ σ k ∧ gR σ' k = gR σ k) (hB : ∀ a, gB σ' a = gB σ a) (hKk : ∀ a, gK σ' a = gK σ a) (hty : mm_ty ids σ') (d : decode cc pc = .ok (.putfield idx, 3))
    (kk : ∀ (H1 : Heap) (locs1 : List Loc), mm_Rel D cT base sa ids ad σ' H1 → va_S (fun q => base ≤ q) s.heap H1 locs1 → W p l e R s m args below meth c H1 locs1 cl sl Q (F0 m (pc + 3) ls rest)) : W p l e R s m args below meth c H locs cl sl Q (F0 m pc ls (v :: .ref (ad o) :: rest)) := by
  obtain ⟨Cn, T, N, hc, hN, hj, hin, hty0, hnm, hf, hlk⟩ := fi
  obtain ⟨hx, hb, hml, hown, hts, hSt, -⟩ := C
  obtain ⟨q0, h0, hw⟩ := mm_W_at (cT := cT) (ad := ad) (σ := σ) ho.1
  rw [mm_E_obj ho.2.1 ho.2.2] at hw
  have hjn : j < mm_nf ci := by rw [hN]; exact hj
  have hlen : j < (mm_fs ad σ o ci).length := by rw [mm_fs_len]; exact hjn
  have h := hlk
  exact va_put hx hb hts hin (mm_fty ci) hty0 hnm hown hSt.2.2.1 hR.1 hR.2.1 hS q0 hw hc j hj (hts _ h) (fun _ z => z) hf (hty0 j hj) hn hfit hlen d (fun H1 locs1 hP1 hD1 hS1 => kk H1 locs1 (kw_putR hR ho h0 hjn he hoth hB hKk hty hP1 hD1) hS1)
theorem kw_putWF (C : kw_Cx (p, l, e, R, s, m, args, below, meth, c, D, cT, base, sa, nL, Qf) l0 own cc ret nm tb nL0 rm) {σ' : Mm} {o ci j idx : Nat} {v : Value} (hini : nm = "<init>") (hd2 : ∀ Cn T N, mm_cl[ci]? = some (Cn, T, N) → (T j).1 = own) (fi : kw_fi own idx ci j true) (ho : mm_ok ids o 1 ci) (hn : narrow (mm_fty ci j) v = v) (hfit : fits (mm_fty ci j) v = true) (hR : mm_Rel D cT base sa ids ad σ H) (hS : va_S (fun q => base ≤ q) s.heap H locs) (he : mm_fv ad σ' (64 * o + j) (mm_fty ci j) = v) (hoth : ∀ k, k ≠ 64 * o + j → gS σ' k = gS σ k ∧ gJ σ' k = gJ σ k ∧ gR σ' k = gR σ k) (hB : ∀ a, gB σ' a = gB σ a) (hKk : ∀ a, gK σ' a = gK σ a) (hty : mm_ty ids σ') (d : decode cc pc = .ok (.putfield idx, 3))
    (kk : ∀ (H1 : Heap) (locs1 : List Loc), mm_Rel D cT base sa ids ad σ' H1 → va_S (fun q => base ≤ q) s.heap H1 locs1 → W p l e R s m args below meth c H1 locs1 cl sl Q (F0 m (pc + 3) ls rest)) : W p l e R s m args below meth c H locs cl sl Q (F0 m pc ls (v :: .ref (ad o) :: rest)) := by
  obtain ⟨Cn, T, N, hc, hN, hj, hin, hty0, hnm, hf, hlk⟩ := fi
  obtain ⟨hx, hb, hml, hown, hts, hSt, -, -, -, -, hname, -⟩ := C
  obtain ⟨q0, h0, hw⟩ := mm_W_at (cT := cT) (ad := ad) (σ := σ) ho.1
  rw [mm_E_obj ho.2.1 ho.2.2] at hw
  have hjn : j < mm_nf ci := by rw [hN]; exact hj
  have hlen : j < (mm_fs ad σ o ci).length := by rw [mm_fs_len]; exact hjn
  have h := hlk
  exact va_putF hx hb hts hin (mm_fty ci) hty0 hnm hown hSt.2.2.1 hR.1 hR.2.1 hS q0 hw hc j hj (hts _ h) (fun _ z => z) hf (hname.trans hini) (hd2 _ _ _ hc) (hty0 j hj) hn hfit hlen d (fun H1 locs1 hP1 hD1 hS1 => kk H1 locs1 (kw_putR hR ho h0 hjn he hoth hB hKk hty hP1 hD1) hS1)
end KWM
theorem kw_mono {p : Program} {l : Launch} {e : Env} {R : Room} {s : State} {m : MethodId} {args : Array Value} {below : List Frame} {meth : Method} {c : Code} {H : Heap} {locs : List Loc} {cl sl : Nat} {Q Q' : State → Prop} {g : JFrame} (h : ∀ t, Q t → Q' t) (k : W p l e R s m args below meth c H locs cl sl Q g) : W p l e R s m args below meth c H locs cl sl Q' g := fun T hT X => by
  obtain ⟨t, a, b⟩ := k T hT X
  exact ⟨t, a, h t b⟩
/-- the kit's end of a method gives ours -/
theorem kw_ofMQ {D : va_G} {cT : Nat → ClassId} {base : Nat} {sa : Nat → Nat} {ids nw : List Nat} {ad : Nat → Nat} {mc ms : Nat} {below : List Frame} {s : State} {args : Array Value} {o : (Option Value ⊕ String) × Mm} (t : State) (h : MQ below (fun _ st oc t => kw_Oc o.1 st oc t ∧ kw_Rs ids nw ad D cT base sa o.2 st t) args s mc ms (fun q => base ≤ q) t) : kw_End D cT base sa ids nw ad mc ms below s o t := by
  obtain ⟨oc, h1, h2, ⟨h3, h4⟩, L, ⟨-, h6, h7⟩, h8⟩ := h
  exact ⟨oc, h1, h2, ⟨L, h6, h7, h8⟩, h3, h4⟩
section KWN
variable {Γ : kw_G} {l0 : Launch} {own : String} {cc : ByteArray} {ret : Option FieldType} {nm : String} {tb : List ExceptionTableEntry} {nL0 : Nat} {rm : Room} {ids1 nw1 : List Nat} {ad1 : Nat → Nat} {X : Type} {outc : X → (Option Value ⊕ String) × Mm} {ids : List Nat} {ad : Nat → Nat} {cl sl pc : Nat} {f : Option X} {L L' : List (Option Value)} {st : List Value} {σ : Mm}
theorem kw_getI (C : kw_Cx Γ l0 own cc ret nm tb nL0 rm) {o ci j idx : Nat} {fin : Bool} (fi : kw_fi own idx ci j fin) (ht : mm_fty ci j = .int ∨ mm_fty ci j = .boolean) (ho : mm_ok ids o 1 ci) (d : decode cc pc = .ok (.getfield idx, 3)) (k : KW Γ outc ids ad cl sl f (pc + 3) L (.int (gS σ (64 * o + j)) :: st) σ) : KW Γ outc ids ad cl sl f pc L (.ref o :: st) σ := by
  obtain ⟨p, l, e, R, s, m, args, below, meth, c, D, cT, base, sa, nL, Qf⟩ := Γ
  intro x0 hf H locs ls hR hS hL
  refine kw_getW C fi ho hR d ?_
  rw [show mm_fv ad σ (64 * o + j) (mm_fty ci j) = .int (gS σ (64 * o + j)) by rcases ht with h | h <;> rw [h] <;> rfl]
  exact (k x0 hf H locs ls hR hS hL)
theorem kw_getJ (C : kw_Cx Γ l0 own cc ret nm tb nL0 rm) {o ci j idx : Nat} {fin : Bool} (fi : kw_fi own idx ci j fin) (ht : mm_fty ci j = .long) (ho : mm_ok ids o 1 ci) (d : decode cc pc = .ok (.getfield idx, 3)) (k : KW Γ outc ids ad cl sl f (pc + 3) L (.long (gJ σ (64 * o + j)) :: st) σ) : KW Γ outc ids ad cl sl f pc L (.ref o :: st) σ := by
  obtain ⟨p, l, e, R, s, m, args, below, meth, c, D, cT, base, sa, nL, Qf⟩ := Γ
  intro x0 hf H locs ls hR hS hL
  refine kw_getW C fi ho hR d ?_
  rw [show mm_fv ad σ (64 * o + j) (mm_fty ci j) = .long (gJ σ (64 * o + j)) by rw [ht]; rfl]
  exact (k x0 hf H locs ls hR hS hL)
def mm_isR : FieldType → Bool
  | .object _ => true
  | .array _ => true
  | _ => false
theorem mm_fv_R {k : Nat} {ty : FieldType} (h : mm_isR ty = true) : mm_fv ad σ k ty = va_rf ((gR σ k).map ad) := by
  cases ty <;> first | rfl | cases h
theorem kw_getR (C : kw_Cx Γ l0 own cc ret nm tb nL0 rm) {o ci j idx t x : Nat} {fin : Bool} {g : Nat → Option X} (fi : kw_fi own idx ci j fin) (ht : mm_isR (mm_fty ci j) = true) (hr : mm_frt ci j = (t, x)) (ho : mm_ok ids o 1 ci) (d : decode cc pc = .ok (.getfield idx, 3)) (k : ∀ o1, mm_ok ids o1 t x → KW Γ outc ids ad cl sl (g o1) (pc + 3) L (.ref o1 :: st) σ) : KW Γ outc ids ad cl sl ((gR σ (64 * o + j)).bind g) pc L (.ref o :: st) σ := by
  obtain ⟨p, l, e, R, s, m, args, below, meth, c, D, cT, base, sa, nL, Qf⟩ := Γ
  intro x0 hf H locs ls hR hS hL
  refine kw_getW C fi ho hR d ?_
  rw [mm_fv_R ht]
  cases hg : gR σ (64 * o + j) with
  | none => rw [hg] at hf; cases hf
  | some o1 =>
    rw [hg] at hf
    obtain ⟨Cn, T, N, hc, hN, hj, -⟩ := id fi
    have h1 := hR.2.2.1 o ho.1 ho.2.1 j (by rw [ho.2.2, hN]; exact hj) o1 hg
    rw [ho.2.2, hr] at h1
    exact k o1 h1 x0 hf H locs ls hR hS hL
theorem kw_putI (C : kw_Cx Γ l0 own cc ret nm tb nL0 rm) {o ci j idx : Nat} {x : Int32} {g : Mm → Option X} (fi : kw_fi own idx ci j false) (ht : mm_fty ci j = .int) (ho : mm_ok ids o 1 ci) (d : decode cc pc = .ok (.putfield idx, 3)) (k : ∀ σ1, KW Γ outc ids ad cl sl (g σ1) (pc + 3) L st σ1) : KW Γ outc ids ad cl sl (kf_let (pS σ (64 * o + j) x) g) pc L (.int x :: .ref o :: st) σ := by
  obtain ⟨p, l, e, R, s, m, args, below, meth, c, D, cT, base, sa, nL, Qf⟩ := Γ
  intro x0 hf H locs ls hR hS hL
  exact kw_putW C fi ho (σ' := pS σ (64 * o + j) x) (v := .int x) (by rw [ht]; rfl) (by rw [ht]; rfl) hR hS (by rw [ht]; show Value.int (gS (pS σ (64 * o + j) x) (64 * o + j)) = _; rw [gS_pS, if_pos rfl]) (fun k0 hk0 => ⟨by rw [gS_pS, if_neg hk0], rfl, rfl⟩) (fun _ => rfl) (fun _ => rfl) hR.2.2.1 d (fun H1 locs1 hR1 hS1 => k _ x0 hf H1 locs1 ls hR1 hS1 hL)
theorem kw_putZ (C : kw_Cx Γ l0 own cc ret nm tb nL0 rm) {o ci j idx : Nat} {x : Int32} {g : Mm → Option X} (fi : kw_fi own idx ci j false) (ht : mm_fty ci j = .boolean) (ho : mm_ok ids o 1 ci) (d : decode cc pc = .ok (.putfield idx, 3)) (k : ∀ σ1, KW Γ outc ids ad cl sl (g σ1) (pc + 3) L st σ1) : KW Γ outc ids ad cl sl (kf_z x (kf_let (pS σ (64 * o + j) x) g)) pc L (.int x :: .ref o :: st) σ := by
  obtain ⟨p, l, e, R, s, m, args, below, meth, c, D, cT, base, sa, nL, Qf⟩ := Γ
  intro x0 hf H locs ls hR hS hL
  unfold kf_z at hf
  by_cases hz : x = 0 ∨ x = 1
  · rw [if_pos hz] at hf
    exact kw_putW C fi ho (σ' := pS σ (64 * o + j) x) (v := .int x) (by rw [ht]; rcases hz with h | h <;> rw [h] <;> rfl) (by rw [ht]; rcases hz with h | h <;> rw [h] <;> rfl) hR hS (by rw [ht]; show Value.int (gS (pS σ (64 * o + j) x) (64 * o + j)) = _; rw [gS_pS, if_pos rfl]) (fun k0 hk0 => ⟨by rw [gS_pS, if_neg hk0], rfl, rfl⟩) (fun _ => rfl) (fun _ => rfl) hR.2.2.1 d (fun H1 locs1 hR1 hS1 => k _ x0 hf H1 locs1 ls hR1 hS1 hL)
  · rw [if_neg hz] at hf; cases hf
theorem kw_putJ (C : kw_Cx Γ l0 own cc ret nm tb nL0 rm) {o ci j idx : Nat} {x : Int64} {g : Mm → Option X} (fi : kw_fi own idx ci j false) (ht : mm_fty ci j = .long) (ho : mm_ok ids o 1 ci) (d : decode cc pc = .ok (.putfield idx, 3)) (k : ∀ σ1, KW Γ outc ids ad cl sl (g σ1) (pc + 3) L st σ1) : KW Γ outc ids ad cl sl (kf_let (pJ σ (64 * o + j) x) g) pc L (.long x :: .ref o :: st) σ := by
  obtain ⟨p, l, e, R, s, m, args, below, meth, c, D, cT, base, sa, nL, Qf⟩ := Γ
  intro x0 hf H locs ls hR hS hL
  exact kw_putW C fi ho (σ' := pJ σ (64 * o + j) x) (v := .long x) (by rw [ht]; rfl) (by rw [ht]; rfl) hR hS (by rw [ht]; show Value.long (gJ (pJ σ (64 * o + j) x) (64 * o + j)) = _; rw [gJ_pJ, if_pos rfl]) (fun k0 hk0 => ⟨rfl, by rw [gJ_pJ, if_neg hk0], rfl⟩) (fun _ => rfl) (fun _ => rfl) hR.2.2.1 d (fun H1 locs1 hR1 hS1 => k _ x0 hf H1 locs1 ls hR1 hS1 hL)
theorem kw_putO (C : kw_Cx Γ l0 own cc ret nm tb nL0 rm) {o ci j idx o1 t x : Nat} {g : Mm → Option X} (fi : kw_fi own idx ci j false) (ht : mm_isR (mm_fty ci j) = true) (hr : mm_frt ci j = (t, x)) (ho : mm_ok ids o 1 ci) (ho1 : mm_ok ids o1 t x) (d : decode cc pc = .ok (.putfield idx, 3)) (k : ∀ σ1, KW Γ outc ids ad cl sl (g σ1) (pc + 3) L st σ1) : KW Γ outc ids ad cl sl (kf_let (pR σ (64 * o + j) (some o1)) g) pc L (.ref o1 :: .ref o :: st) σ := by
  obtain ⟨p, l, e, R, s, m, args, below, meth, c, D, cT, base, sa, nL, Qf⟩ := Γ
  intro x0 hf H locs ls hR hS hL
  obtain ⟨Cn, T, N, hc, hN, hj, -⟩ := id fi
  have hj64 : j < 64 := Nat.lt_of_lt_of_le (by rw [hN]; exact hj) (mm_nf_le ci)
  refine kw_putW C fi ho (σ' := pR σ (64 * o + j) (some o1)) (v := .ref (ad o1)) (by cases hty : mm_fty ci j <;> first | rfl | (rw [hty] at ht; cases ht)) (by cases hty : mm_fty ci j <;> first | rfl | (rw [hty] at ht; cases ht)) hR hS (by rw [mm_fv_R ht, gR_pR, if_pos rfl]; rfl) (fun k0 hk0 => ⟨rfl, rfl, by rw [gR_pR, if_neg hk0]⟩) (fun _ => rfl) (fun _ => rfl) ?_ d (fun H1 locs1 hR1 hS1 => k _ x0 hf H1 locs1 ls hR1 hS1 hL)
  intro o2 ho2 hk2 j2 hj2 o3 he
  rw [gR_pR] at he
  by_cases hz : 64 * o2 + j2 = 64 * o + j
  · rw [if_pos hz] at he
    obtain ⟨e1, e2⟩ := mm_pl hj64 (Nat.lt_of_lt_of_le hj2 (mm_nf_le _)) hz
    cases he
    rw [e1, e2, ho.2.2, hr]
    exact ho1
  · rw [if_neg hz] at he
    exact hR.2.2.1 o2 ho2 hk2 j2 hj2 o3 he
theorem kw_putIF (C : kw_Cx Γ l0 own cc ret nm tb nL0 rm) (hini : nm = "<init>") {o ci j idx : Nat} {x : Int32} {g : Mm → Option X} (hd2 : ∀ Cn T N, mm_cl[ci]? = some (Cn, T, N) → (T j).1 = own) (fi : kw_fi own idx ci j true) (ht : mm_fty ci j = .int) (ho : mm_ok ids o 1 ci) (d : decode cc pc = .ok (.putfield idx, 3)) (k : ∀ σ1, KW Γ outc ids ad cl sl (g σ1) (pc + 3) L st σ1) : KW Γ outc ids ad cl sl (kf_let (pS σ (64 * o + j) x) g) pc L (.int x :: .ref o :: st) σ := by
  obtain ⟨p, l, e, R, s, m, args, below, meth, c, D, cT, base, sa, nL, Qf⟩ := Γ
  intro x0 hf H locs ls hR hS hL
  exact kw_putWF C hini hd2 fi ho (σ' := pS σ (64 * o + j) x) (v := .int x) (by rw [ht]; rfl) (by rw [ht]; rfl) hR hS (by rw [ht]; show Value.int (gS (pS σ (64 * o + j) x) (64 * o + j)) = _; rw [gS_pS, if_pos rfl]) (fun k0 hk0 => ⟨by rw [gS_pS, if_neg hk0], rfl, rfl⟩) (fun _ => rfl) (fun _ => rfl) hR.2.2.1 d (fun H1 locs1 hR1 hS1 => k _ x0 hf H1 locs1 ls hR1 hS1 hL)
theorem kw_putZF (C : kw_Cx Γ l0 own cc ret nm tb nL0 rm) (hini : nm = "<init>") {o ci j idx : Nat} {x : Int32} {g : Mm → Option X} (hd2 : ∀ Cn T N, mm_cl[ci]? = some (Cn, T, N) → (T j).1 = own) (fi : kw_fi own idx ci j true) (ht : mm_fty ci j = .boolean) (ho : mm_ok ids o 1 ci) (d : decode cc pc = .ok (.putfield idx, 3)) (k : ∀ σ1, KW Γ outc ids ad cl sl (g σ1) (pc + 3) L st σ1) : KW Γ outc ids ad cl sl (kf_z x (kf_let (pS σ (64 * o + j) x) g)) pc L (.int x :: .ref o :: st) σ := by
  obtain ⟨p, l, e, R, s, m, args, below, meth, c, D, cT, base, sa, nL, Qf⟩ := Γ
  intro x0 hf H locs ls hR hS hL
  unfold kf_z at hf
  by_cases hz : x = 0 ∨ x = 1
  · rw [if_pos hz] at hf
    exact kw_putWF C hini hd2 fi ho (σ' := pS σ (64 * o + j) x) (v := .int x) (by rw [ht]; rcases hz with h | h <;> rw [h] <;> rfl) (by rw [ht]; rcases hz with h | h <;> rw [h] <;> rfl) hR hS (by rw [ht]; show Value.int (gS (pS σ (64 * o + j) x) (64 * o + j)) = _; rw [gS_pS, if_pos rfl]) (fun k0 hk0 => ⟨by rw [gS_pS, if_neg hk0], rfl, rfl⟩) (fun _ => rfl) (fun _ => rfl) hR.2.2.1 d (fun H1 locs1 hR1 hS1 => k _ x0 hf H1 locs1 ls hR1 hS1 hL)
  · rw [if_neg hz] at hf; cases hf
theorem kw_putJF (C : kw_Cx Γ l0 own cc ret nm tb nL0 rm) (hini : nm = "<init>") {o ci j idx : Nat} {x : Int64} {g : Mm → Option X} (hd2 : ∀ Cn T N, mm_cl[ci]? = some (Cn, T, N) → (T j).1 = own) (fi : kw_fi own idx ci j true) (ht : mm_fty ci j = .long) (ho : mm_ok ids o 1 ci) (d : decode cc pc = .ok (.putfield idx, 3)) (k : ∀ σ1, KW Γ outc ids ad cl sl (g σ1) (pc + 3) L st σ1) : KW Γ outc ids ad cl sl (kf_let (pJ σ (64 * o + j) x) g) pc L (.long x :: .ref o :: st) σ := by
  obtain ⟨p, l, e, R, s, m, args, below, meth, c, D, cT, base, sa, nL, Qf⟩ := Γ
  intro x0 hf H locs ls hR hS hL
  exact kw_putWF C hini hd2 fi ho (σ' := pJ σ (64 * o + j) x) (v := .long x) (by rw [ht]; rfl) (by rw [ht]; rfl) hR hS (by rw [ht]; show Value.long (gJ (pJ σ (64 * o + j) x) (64 * o + j)) = _; rw [gJ_pJ, if_pos rfl]) (fun k0 hk0 => ⟨rfl, by rw [gJ_pJ, if_neg hk0], rfl⟩) (fun _ => rfl) (fun _ => rfl) hR.2.2.1 d (fun H1 locs1 hR1 hS1 => k _ x0 hf H1 locs1 ls hR1 hS1 hL)
theorem kw_putOF (C : kw_Cx Γ l0 own cc ret nm tb nL0 rm) (hini : nm = "<init>") {o ci j idx o1 t x : Nat} {g : Mm → Option X} (hd2 : ∀ Cn T N, mm_cl[ci]? = some (Cn, T, N) → (T j).1 = own) (fi : kw_fi own idx ci j true) (ht : mm_isR (mm_fty ci j) = true) (hr : mm_frt ci j = (t, x)) (ho : mm_ok ids o 1 ci) (ho1 : mm_ok ids o1 t x) (d : decode cc pc = .ok (.putfield idx, 3)) (k : ∀ σ1, KW Γ outc ids ad cl sl (g σ1) (pc + 3) L st σ1) : KW Γ outc ids ad cl sl (kf_let (pR σ (64 * o + j) (some o1)) g) pc L (.ref o1 :: .ref o :: st) σ := by
  obtain ⟨p, l, e, R, s, m, args, below, meth, c, D, cT, base, sa, nL, Qf⟩ := Γ
  intro x0 hf H locs ls hR hS hL
  obtain ⟨Cn, T, N, hc, hN, hj, -⟩ := id fi
  have hj64 : j < 64 := Nat.lt_of_lt_of_le (by rw [hN]; exact hj) (mm_nf_le ci)
  refine kw_putWF C hini hd2 fi ho (σ' := pR σ (64 * o + j) (some o1)) (v := .ref (ad o1)) (by cases hty : mm_fty ci j <;> first | rfl | (rw [hty] at ht; cases ht)) (by cases hty : mm_fty ci j <;> first | rfl | (rw [hty] at ht; cases ht)) hR hS (by rw [mm_fv_R ht, gR_pR, if_pos rfl]; rfl) (fun k0 hk0 => ⟨rfl, rfl, by rw [gR_pR, if_neg hk0]⟩) (fun _ => rfl) (fun _ => rfl) ?_ d (fun H1 locs1 hR1 hS1 => k _ x0 hf H1 locs1 ls hR1 hS1 hL)
  intro o2 ho2 hk2 j2 hj2 o3 he
  rw [gR_pR] at he
  by_cases hz : 64 * o2 + j2 = 64 * o + j
  · rw [if_pos hz] at he
    obtain ⟨e1, e2⟩ := mm_pl hj64 (Nat.lt_of_lt_of_le hj2 (mm_nf_le _)) hz
    cases he
    rw [e1, e2, ho.2.2, hr]
    exact ho1
  · rw [if_neg hz] at he
    exact hR.2.2.1 o2 ho2 hk2 j2 hj2 o3 he
theorem kw_iald (C : kw_Cx Γ l0 own cc ret nm tb nL0 rm) {o : Nat} {i : Int32} (ho : mm_ai ids o) (d : decode cc pc = .ok (.iaload, 1)) (k : KW Γ outc ids ad cl sl f (pc + 1) L (.int (gB σ o i.toNatClampNeg) :: st) σ) : KW Γ outc ids ad cl sl (kf_in i (mm_kd o).2.2 f) pc L (.int i :: .ref o :: st) σ := by
  obtain ⟨p, l, e, R, s, m, args, below, meth, c, D, cT, base, sa, nL, Qf⟩ := Γ
  intro x0 hf H locs ls hR hS hL
  unfold kf_in at hf
  by_cases hin : i < 0 ∨ (mm_kd o).2.2 ≤ i.toNatClampNeg
  · rw [if_pos hin] at hf; cases hf
  · rw [if_neg hin] at hf
    obtain ⟨hx, hb, hml, hown, hts, hSt, -⟩ := id C
    rcases ho with ⟨h1, h2⟩ | h5
    · obtain ⟨q0, h0, hw⟩ := mm_W_at (cT := cT) (ad := ad) (σ := σ) h1
      rw [mm_E_arr (by rw [h2]; decide) (by rw [h2]; decide), h2] at hw
      exact va_iald hx hb hSt.2.2.1 hR.1 q0 0 hw rfl hin d (k x0 hf H locs ls hR hS hL)
    · obtain ⟨e1, e2⟩ := hR.2.2.2.1 o h5
      show W p l e R s m args below meth c H locs cl sl _ (F0 m pc ls (.int i :: .ref (ad o) :: st.map (kw_tr ad)))
      rw [e1]
      exact va_ti (v := .int (gB σ o i.toNatClampNeg)) hx hb (hSt.2.2.2.2.1 o h5) hS hin (by show Value.int (mm_sc o _) = _; rw [← e2]) d (k x0 hf H locs ls hR hS hL)
theorem kw_bald (C : kw_Cx Γ l0 own cc ret nm tb nL0 rm) {o x : Nat} {i : Int32} (ho : mm_ok ids o 3 x) (d : decode cc pc = .ok (.baload, 1)) (k : KW Γ outc ids ad cl sl f (pc + 1) L (.int (gB σ o i.toNatClampNeg) :: st) σ) : KW Γ outc ids ad cl sl (kf_in i (mm_kd o).2.2 f) pc L (.int i :: .ref o :: st) σ := by
  obtain ⟨p, l, e, R, s, m, args, below, meth, c, D, cT, base, sa, nL, Qf⟩ := Γ
  intro x0 hf H locs ls hR hS hL
  unfold kf_in at hf
  by_cases hin : i < 0 ∨ (mm_kd o).2.2 ≤ i.toNatClampNeg
  · rw [if_pos hin] at hf; cases hf
  · rw [if_neg hin] at hf
    obtain ⟨hx, hb, hml, hown, hts, hSt, -⟩ := id C
    obtain ⟨h1, h2, -⟩ := ho
    obtain ⟨q0, h0, hw⟩ := mm_W_at (cT := cT) (ad := ad) (σ := σ) h1
    rw [mm_E_arr (by rw [h2]; decide) (by rw [h2]; decide), h2] at hw
    exact va_bald hx hb hSt.2.2.1 hR.1 q0 1 hw rfl hin d (k x0 hf H locs ls hR hS hL)
theorem kw_lald (C : kw_Cx Γ l0 own cc ret nm tb nL0 rm) {o x : Nat} {i : Int32} (ho : mm_ok ids o 4 x) (d : decode cc pc = .ok (.laload, 1)) (k : KW Γ outc ids ad cl sl f (pc + 1) L (.long (gK σ o i.toNatClampNeg) :: st) σ) : KW Γ outc ids ad cl sl (kf_in i (mm_kd o).2.2 f) pc L (.int i :: .ref o :: st) σ := by
  obtain ⟨p, l, e, R, s, m, args, below, meth, c, D, cT, base, sa, nL, Qf⟩ := Γ
  intro x0 hf H locs ls hR hS hL
  unfold kf_in at hf
  by_cases hin : i < 0 ∨ (mm_kd o).2.2 ≤ i.toNatClampNeg
  · rw [if_pos hin] at hf; cases hf
  · rw [if_neg hin] at hf
    obtain ⟨hx, hb, hml, hown, hts, hSt, -⟩ := id C
    obtain ⟨h1, h2, -⟩ := ho
    obtain ⟨q0, h0, hw⟩ := mm_W_at (cT := cT) (ad := ad) (σ := σ) h1
    rw [mm_E_long h2] at hw
    exact va_lald hx hb hSt.2.2.1 hR.1 q0 2 hw rfl hin d (k x0 hf H locs ls hR hS hL)
theorem kw_iast (C : kw_Cx Γ l0 own cc ret nm tb nL0 rm) {o y : Nat} {i x : Int32} {g : Mm → Option X} (ho : mm_ok ids o 2 y) (d : decode cc pc = .ok (.iastore, 1)) (k : ∀ σ1, KW Γ outc ids ad cl sl (g σ1) (pc + 1) L st σ1) : KW Γ outc ids ad cl sl (kf_in i (mm_kd o).2.2 (kf_let (pB σ o i.toNatClampNeg x) g)) pc L (.int x :: .int i :: .ref o :: st) σ := by
  obtain ⟨p, l, e, R, s, m, args, below, meth, c, D, cT, base, sa, nL, Qf⟩ := Γ
  intro x0 hf H locs ls hR hS hL
  unfold kf_in at hf
  by_cases hin : i < 0 ∨ (mm_kd o).2.2 ≤ i.toNatClampNeg
  · rw [if_pos hin] at hf; cases hf
  · rw [if_neg hin] at hf
    obtain ⟨hx, hb, hml, hown, hts, hSt, -⟩ := id C
    obtain ⟨h1, h2, -⟩ := ho
    obtain ⟨q0, h0, hw⟩ := mm_W_at (cT := cT) (ad := ad) (σ := σ) h1
    have n1 : (mm_kd o).1 ≠ 1 := by rw [h2]; decide
    have n4 : (mm_kd o).1 ≠ 4 := by rw [h2]; decide
    rw [mm_E_arr n1 n4, h2] at hw
    refine va_iast hx hb hSt.2.2.1 hR.1 hR.2.1 hS q0 0 hw rfl hin d (fun H1 locs1 hP1 hD1 hS1 => k _ x0 hf H1 locs1 ls (mm_Rel_set hR h0 (σ' := pB σ o i.toNatClampNeg x) ?_ (fun o' _ hne => ?_) hR.2.2.1 (fun a ha => ?_) hP1 hD1) hS1 hL)
    · rw [mm_E_arr n1 n4, h2, gB_pB, if_pos rfl]
    · exact mm_E_eq (mm_nf_le _) (fun _ _ => rfl) (fun _ _ => rfl) (fun _ _ => rfl) (by rw [gB_pB, if_neg hne]) rfl
    · rw [gB_pB, if_neg (fun z => by rw [z, h2] at ha; cases ha)]
theorem kw_bast (C : kw_Cx Γ l0 own cc ret nm tb nL0 rm) {o y : Nat} {i x : Int32} {g : Mm → Option X} (ho : mm_ok ids o 3 y) (d : decode cc pc = .ok (.bastore, 1)) (k : ∀ σ1, KW Γ outc ids ad cl sl (g σ1) (pc + 1) L st σ1) : KW Γ outc ids ad cl sl (kf_in i (mm_kd o).2.2 (kf_let (pB σ o i.toNatClampNeg (vp_nar .byte x)) g)) pc L (.int x :: .int i :: .ref o :: st) σ := by
  obtain ⟨p, l, e, R, s, m, args, below, meth, c, D, cT, base, sa, nL, Qf⟩ := Γ
  intro x0 hf H locs ls hR hS hL
  unfold kf_in at hf
  by_cases hin : i < 0 ∨ (mm_kd o).2.2 ≤ i.toNatClampNeg
  · rw [if_pos hin] at hf; cases hf
  · rw [if_neg hin] at hf
    obtain ⟨hx, hb, hml, hown, hts, hSt, -⟩ := id C
    obtain ⟨h1, h2, -⟩ := ho
    obtain ⟨q0, h0, hw⟩ := mm_W_at (cT := cT) (ad := ad) (σ := σ) h1
    have n1 : (mm_kd o).1 ≠ 1 := by rw [h2]; decide
    have n4 : (mm_kd o).1 ≠ 4 := by rw [h2]; decide
    rw [mm_E_arr n1 n4, h2] at hw
    refine va_bast hx hb hSt.2.2.1 hR.1 hR.2.1 hS q0 1 hw rfl hin d (fun H1 locs1 hP1 hD1 hS1 => k _ x0 hf H1 locs1 ls (mm_Rel_set hR h0 (σ' := pB σ o i.toNatClampNeg (vp_nar .byte x)) ?_ (fun o' _ hne => ?_) hR.2.2.1 (fun a ha => ?_) hP1 hD1) hS1 hL)
    · rw [mm_E_arr n1 n4, h2, gB_pB, if_pos rfl]
    · exact mm_E_eq (mm_nf_le _) (fun _ _ => rfl) (fun _ _ => rfl) (fun _ _ => rfl) (by rw [gB_pB, if_neg hne]) rfl
    · rw [gB_pB, if_neg (fun z => by rw [z, h2] at ha; cases ha)]
theorem kw_last (C : kw_Cx Γ l0 own cc ret nm tb nL0 rm) {o y : Nat} {i : Int32} {x : Int64} {g : Mm → Option X} (ho : mm_ok ids o 4 y) (d : decode cc pc = .ok (.lastore, 1)) (k : ∀ σ1, KW Γ outc ids ad cl sl (g σ1) (pc + 1) L st σ1) : KW Γ outc ids ad cl sl (kf_in i (mm_kd o).2.2 (kf_let (pK σ o i.toNatClampNeg x) g)) pc L (.long x :: .int i :: .ref o :: st) σ := by
  obtain ⟨p, l, e, R, s, m, args, below, meth, c, D, cT, base, sa, nL, Qf⟩ := Γ
  intro x0 hf H locs ls hR hS hL
  unfold kf_in at hf
  by_cases hin : i < 0 ∨ (mm_kd o).2.2 ≤ i.toNatClampNeg
  · rw [if_pos hin] at hf; cases hf
  · rw [if_neg hin] at hf
    obtain ⟨hx, hb, hml, hown, hts, hSt, -⟩ := id C
    obtain ⟨h1, h2, -⟩ := ho
    obtain ⟨q0, h0, hw⟩ := mm_W_at (cT := cT) (ad := ad) (σ := σ) h1
    rw [mm_E_long h2] at hw
    refine va_last hx hb hSt.2.2.1 hR.1 hR.2.1 hS q0 2 hw rfl hin d (fun H1 locs1 hP1 hD1 hS1 => k _ x0 hf H1 locs1 ls (mm_Rel_set hR h0 (σ' := pK σ o i.toNatClampNeg x) ?_ (fun o' _ hne => ?_) hR.2.2.1 (fun a _ => rfl) hP1 hD1) hS1 hL)
    · rw [mm_E_long h2, gK_pK, if_pos rfl]
    · exact mm_E_eq (mm_nf_le _) (fun _ _ => rfl) (fun _ _ => rfl) (fun _ _ => rfl) rfl (by rw [gK_pK, if_neg hne])
theorem kw_alen (C : kw_Cx Γ l0 own cc ret nm tb nL0 rm) {o : Nat} (ho : mm_ai ids o) (d : decode cc pc = .ok (.arraylength, 1)) (k : KW Γ outc ids ad cl sl f (pc + 1) L (.int (Int32.ofNat (mm_kd o).2.2) :: st) σ) : KW Γ outc ids ad cl sl f pc L (.ref o :: st) σ := by
  obtain ⟨p, l, e, R, s, m, args, below, meth, c, D, cT, base, sa, nL, Qf⟩ := Γ
  intro x0 hf H locs ls hR hS hL
  obtain ⟨hx, hb, hml, hown, hts, hSt, -⟩ := id C
  rcases ho with ⟨h1, h2⟩ | h5
  · obtain ⟨q0, h0, hw⟩ := mm_W_at (cT := cT) (ad := ad) (σ := σ) h1
    rw [mm_E_arr (by rw [h2]; decide) (by rw [h2]; decide), h2] at hw
    exact va_alen hx hb hSt.2.2.1 hR.1 q0 0 hw (ty := .int) rfl rfl d (k x0 hf H locs ls hR hS hL)
  · obtain ⟨e1, e2⟩ := hR.2.2.2.1 o h5
    show W p l e R s m args below meth c H locs cl sl _ (F0 m pc ls (.ref (ad o) :: st.map (kw_tr ad)))
    rw [e1]
    exact va_tlen hx hb (hSt.2.2.2.2.1 o h5) hS rfl d (k x0 hf H locs ls hR hS hL)
theorem kw_gets (C : kw_Cx Γ l0 own cc ret nm tb nL0 rm) {Cn n dd : String} {o idx : Nat} (hq : (Cn, n, dd, o) ∈ mm_stat) (h5 : (mm_kd o).1 = 5) (hl : Cond.fieldLink own idx Cn n dd ∈ kw_Ts) (d : decode cc pc = .ok (.getstatic idx, 3)) (k : KW Γ outc ids ad cl sl f (pc + 3) L (.ref o :: st) σ) : KW Γ outc ids ad cl sl f pc L st σ := by
  obtain ⟨p, l, e, R, s, m, args, below, meth, c, D, cT, base, sa, nL, Qf⟩ := Γ
  intro x0 hf H locs ls hR hS hL
  obtain ⟨hx, hb, hml, hown, hts, hSt, -⟩ := id C
  have e1 := (hR.2.2.2.1 o h5).1
  refine va_gets hx hb (hSt.2.2.2.1 _ hq) hS hown (hts _ hl) (fun _ z => z) d ?_
  show W p l e R s m args below meth c H locs cl sl _ (F0 m (pc + 3) ls (.ref (sa o) :: st.map (kw_tr ad)))
  rw [← e1]
  exact (k x0 hf H locs ls hR hS hL)
/-- the ends of a method -/
theorem kw_iret (C : kw_Cx Γ l0 own cc ret nm tb nL0 rm) (Ce : kw_Ce Γ rm ids1 nw1 ad1) {v : Int32} {x1 : X} (hr : ret = some .int) (E : ids = ids1 ++ nw1) (Aq : ∀ q, q ∉ nw1 → ad q = ad1 q) (hc : cl ≤ rm.cells) (hs : sl ≤ rm.slots) (ho : outc x1 = (.inl (some (.int v)), σ)) (d : decode cc pc = .ok (.ireturn, 1)) : KW Γ outc ids ad cl sl (some x1) pc L [.int v] σ := by
  obtain ⟨p, l, e, R, s, m, args, below, meth, c, D, cT, base, sa, nL, Qf⟩ := Γ
  intro x0 hf H locs ls hR hS hL
  cases hf
  obtain ⟨hx, hb, hml, hown, hts, hSt, hl, hlk, htb, hret, hname, e0, e1, e2⟩ := id C
  have Ce : Qf = _ := Ce
  subst Ce
  refine kw_mono (kw_ofMQ (args := args) (o := outc x1)) (W.widen hc hs ?_)
  exact W.iret hx hb (hret.trans hr) (fun t ht hW => ⟨Or.inl ⟨_, by rw [ho], rfl⟩, ⟨ad, Aq, by rw [ho, ht, ← E]; exact hR⟩, hS.F ht⟩) hS.2.2 d hlk
theorem kw_zret (C : kw_Cx Γ l0 own cc ret nm tb nL0 rm) (Ce : kw_Ce Γ rm ids1 nw1 ad1) {v : Int32} {x1 : X} (hr : ret = some .boolean) (E : ids = ids1 ++ nw1) (Aq : ∀ q, q ∉ nw1 → ad q = ad1 q) (hc : cl ≤ rm.cells) (hs : sl ≤ rm.slots) (ho : outc x1 = (.inl (some (.int v)), σ)) (d : decode cc pc = .ok (.ireturn, 1)) : KW Γ outc ids ad cl sl (kf_z v (some x1)) pc L [.int v] σ := by
  obtain ⟨p, l, e, R, s, m, args, below, meth, c, D, cT, base, sa, nL, Qf⟩ := Γ
  intro x0 hf H locs ls hR hS hL
  unfold kf_z at hf
  by_cases hz : v = 0 ∨ v = 1
  · rw [if_pos hz] at hf
    cases hf
    obtain ⟨hx, hb, hml, hown, hts, hSt, hl, hlk, htb, hret, hname, e0, e1, e2⟩ := id C
    have Ce : Qf = _ := Ce
    subst Ce
    refine kw_mono (kw_ofMQ (args := args) (o := outc x1)) (W.widen hc hs ?_)
    exact W.zret hx hb (hret.trans hr) (by rcases hz with h | h <;> rw [h] <;> rfl) (fun t ht hW => ⟨Or.inl ⟨_, by rw [ho], rfl⟩, ⟨ad, Aq, by rw [ho, ht, ← E]; exact hR⟩, hS.F ht⟩) hS.2.2 d hlk
  · rw [if_neg hz] at hf; cases hf
theorem kw_lret (C : kw_Cx Γ l0 own cc ret nm tb nL0 rm) (Ce : kw_Ce Γ rm ids1 nw1 ad1) {v : Int64} {x1 : X} (hr : ret = some .long) (E : ids = ids1 ++ nw1) (Aq : ∀ q, q ∉ nw1 → ad q = ad1 q) (hc : cl ≤ rm.cells) (hs : sl ≤ rm.slots) (ho : outc x1 = (.inl (some (.long v)), σ)) (d : decode cc pc = .ok (.lreturn, 1)) : KW Γ outc ids ad cl sl (some x1) pc L [.long v] σ := by
  obtain ⟨p, l, e, R, s, m, args, below, meth, c, D, cT, base, sa, nL, Qf⟩ := Γ
  intro x0 hf H locs ls hR hS hL
  cases hf
  obtain ⟨hx, hb, hml, hown, hts, hSt, hl, hlk, htb, hret, hname, e0, e1, e2⟩ := id C
  have Ce : Qf = _ := Ce
  subst Ce
  refine kw_mono (kw_ofMQ (args := args) (o := outc x1)) (W.widen hc hs ?_)
  exact W.lret hx hb (hret.trans hr) (fun t ht hW => ⟨Or.inl ⟨_, by rw [ho], rfl⟩, ⟨ad, Aq, by rw [ho, ht, ← E]; exact hR⟩, hS.F ht⟩) hS.2.2 d hlk
theorem kw_vret (C : kw_Cx Γ l0 own cc ret nm tb nL0 rm) (Ce : kw_Ce Γ rm ids1 nw1 ad1) {x1 : X} (hr : ret = none) (E : ids = ids1 ++ nw1) (Aq : ∀ q, q ∉ nw1 → ad q = ad1 q) (hc : cl ≤ rm.cells) (hs : sl ≤ rm.slots) (ho : outc x1 = (.inl none, σ)) (d : decode cc pc = .ok (.return_, 1)) : KW Γ outc ids ad cl sl (some x1) pc L [] σ := by
  obtain ⟨p, l, e, R, s, m, args, below, meth, c, D, cT, base, sa, nL, Qf⟩ := Γ
  intro x0 hf H locs ls hR hS hL
  cases hf
  obtain ⟨hx, hb, hml, hown, hts, hSt, hl, hlk, htb, hret, hname, e0, e1, e2⟩ := id C
  have Ce : Qf = _ := Ce
  subst Ce
  refine kw_mono (kw_ofMQ (args := args) (o := outc x1)) (W.widen hc hs ?_)
  exact W.vret hx hb (hret.trans hr) (fun t ht hW => ⟨Or.inl ⟨_, by rw [ho], rfl⟩, ⟨ad, Aq, by rw [ho, ht, ← E]; exact hR⟩, hS.F ht⟩) hS.2.2 d hlk
end KWN
