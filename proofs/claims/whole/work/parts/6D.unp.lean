/-! UNPACKING, BOTH SIDES BESIDE EACH OTHER -/
theorem Ok.c22 {A B X Y : Type} {f : Option (A × Mm)} {g : Option (B × Mm)} {fk : A → Mm → Option X} {gk : B → Mm → Option Y} {R : A × Mm → B × Mm → Prop} {Q : X → Y → Prop} (h : Ok f (fun x => Ok g (fun y => R x y))) (k : ∀ x y, R x y → Ok (fk x.1 x.2) (fun a => Ok (gk y.1 y.2) (fun b => Q a b))) : Ok (kf_c2 f fk) (fun a => Ok (kf_c2 g gk) (fun b => Q a b)) := by
  obtain ⟨x, e, y, e2, h⟩ := h
  unfold kf_c2
  rw [e, e2]
  exact k x y h
theorem isCode_ok {n m ck pos cnt base : Nat} {T wh ls : Nat → Nat} {x y : Int32} {s : Mm} (e1 : x = N base) (e2 : y = N cnt) (hn : 1000 < n) (h : VM T m wh ck pos s) (hT : ∀ i, T i < 256) (hb : base + cnt ≤ 320) (hcnt : cnt ≤ 288) (hls : ∀ k, k < cnt → ls k ≤ 15) (hL : ∀ k, k < cnt → gB s 79 (base + k) = N (ls k)) (hcd : CdOk ls cnt) : Ok (F_Md_isCode n 63 x y s) (fun r => (∃ i v, DA T wh ls cnt m pos i ∧ DV T wh ls cnt pos i v ∧ r.1 = 1 ∧ gS r.2 4081 = N v ∧ VM T m wh ck (pos + i) r.2) ∨ (DB T wh ls cnt m pos ∧ r.1 = 0 ∧ FV 25 (plc m wh ck pos) r.2) ∨ (∃ i, DC T wh ls cnt m pos i ∧ r.1 = 0 ∧ FV 20 ck r.2)) := by
  unfold F_Md_isCode
  refine s_let (fun x9 hx9 => ?_)
  rw [h.2.1] at hx9
  subst hx9
  refine (M_code (ls := ls) e1 e2 hn h hT hb hcnt hls hL hcd).c2 ?_
  rintro r s1 (⟨i, v, h1, h2, h3, h4, h5⟩ | ⟨h1, h2, h3, h4⟩ | ⟨i, h1, h2, h3, h4⟩)
  · dsimp only at h3 h4 h5
    subst h3
    refine s_neg (by decide) ?_
    exact s_z (Or.inr rfl) (Ok.some (Or.inl ⟨i, v, h1, h2, rfl, h4, h5⟩))
  · dsimp only at h2 h3 h4
    subst h2
    have hm := h.1.2.1
    have hpm := h.2.2.1
    refine s_pos rfl ?_
    refine s_ji ?_
    refine s_ji ?_
    refine s_neg (by rw [h3]; decide) ?_
    refine s_c (M_plc (i := pos) rfl h4 (by omega)) ?_
    refine (M_flaw (c := 25) rfl rfl).c2 ?_
    rintro r s2 ⟨h5, h6⟩
    dsimp only at h5 h6
    refine s_pos h5 ?_
    exact s_z (Or.inl rfl) (Ok.some (Or.inr (Or.inl ⟨h1, rfl, h6⟩)))
  · dsimp only at h2 h3 h4
    subst h2
    refine s_pos rfl ?_
    refine s_ji ?_
    refine s_ji ?_
    refine s_pos h3 ?_
    exact s_z (Or.inl rfl) (Ok.some (Or.inr (Or.inr ⟨i, h1, rfl, h4⟩)))
/-- a code read on both sides -/
theorem L_code {n q c len m ck pos cnt base : Nat} {T wh ls : Nat → Nat} {x y : Int32} {s t : Mm} (e1 : x = N base) (e2 : y = N cnt) (hn : 1000 < n) (hc : isK c) (hU : UC q T len m wh ck pos s) (hcod : CodC c ls cnt s) (hcnt : cnt ≤ 288) (hV : VM T m wh ck pos t) (hb : base + cnt ≤ 320) (hls : ∀ k, k < cnt → ls k ≤ 15) (hL : ∀ k, k < cnt → gB t 79 (base + k) = N (ls k)) (hcd : CdOk ls cnt) : Ok (F_PackedBits_meaning n 9 c s) (fun a => Ok (F_Md_isCode n 63 x y t) (fun b => ((∃ i v, 1 ≤ i ∧ v < cnt ∧ a.1 = N v ∧ b.1 = 1 ∧ gS b.2 4081 = N v ∧ UC q T len m wh ck (pos + i) a.2 ∧ VM T m wh ck (pos + i) b.2) ∨ (a.1 = -1 ∧ b.1 = 0 ∧ ∃ cd pl, FC cd pl a.2 ∧ FV cd pl b.2)) ∧ FI [320, 321, 581] [] q s a.2 ∧ FM [4035, 4036, 4075, 4081, 4083] [81] t b.2)) := by
  obtain ⟨a, ea, ha⟩ := C_mean hn hc hU hcod hcnt
  obtain ⟨b, eb, hB, hF⟩ := (isCode_ok (ls := ls) e1 e2 hn hV hU.1.2.1.2.2.1 hb hcnt hls hL hcd).and (fr_Md_isCode_63 hV.1.1)
  refine ⟨a, ea, b, eb, ?_⟩
  rcases ha with ⟨i, v, h1, h2, h3, h4, h5⟩ | ⟨h1, h2, h3, h5⟩ | ⟨i, h1, h2, h3, h5⟩
  · refine ⟨Or.inl ?_, h5, hF⟩
    rcases hB with ⟨j, u, g1, g2, g3, g4, g5⟩ | ⟨g1, -⟩ | ⟨j, g1, -⟩
    · have hij := DA_DA h1 g1
      subst hij
      have hvu : v = u := DV_inj (ls := ls) (by rw [h2.2.1, g2.2.1]) (by rw [h2.2.1, h2.2.2, g2.2.2])
      subst hvu
      exact ⟨i, v, h1.1, h2.1, h3, g3, g4, h4, g5⟩
    · exact (DA_DB h1 g1).elim
    · exact (DA_DC h1 g1).elim
  · refine ⟨Or.inr ?_, h5, hF⟩
    rcases hB with ⟨j, u, g1, g2, g3, g4, g5⟩ | ⟨g1, g2, g3⟩ | ⟨j, g1, -⟩
    · exact (DA_DB g1 h1).elim
    · exact ⟨h2, g2, _, _, h3, g3⟩
    · exact (DB_DC h1 g1).elim
  · refine ⟨Or.inr ?_, h5, hF⟩
    rcases hB with ⟨j, u, g1, g2, g3, g4, g5⟩ | ⟨g1, -⟩ | ⟨j, g1, g2, g3⟩
    · exact (DA_DC g1 h1).elim
    · exact (DB_DC g1 h1).elim
    · exact ⟨h2, g2, _, _, h3, g3⟩
/-- numbers of bits, by cases -/
theorem C_n1 {n q len m ck pos k : Nat} {T wh : Nat → Nat} {x : Int32} {s : Mm} (e : x = N k) (hn : 100 < n) (h : UC q T len m wh ck pos s) (hk : k ≤ 16) (hh : pos + k ≤ 8 * m) : Ok (F_PackedBits_number n 9 x s) (fun r => r.1 = N (nb' T wh pos k) ∧ UC q T len m wh ck (pos + k) r.2 ∧ FI [320, 321, 581] [] q s r.2) := (C_num e hn h hk).mono (fun r hr => by rw [if_pos hh] at hr; exact ⟨hr.1.1, hr.1.2, hr.2⟩)
theorem C_n0 {n q len m ck pos k : Nat} {T wh : Nat → Nat} {x : Int32} {s : Mm} (e : x = N k) (hn : 100 < n) (h : UC q T len m wh ck pos s) (hk : k ≤ 16) (hh : ¬ pos + k ≤ 8 * m) : Ok (F_PackedBits_number n 9 x s) (fun r => r.1 = -1 ∧ FC 20 ck r.2) := (C_num e hn h hk).mono (fun r hr => by rw [if_neg hh] at hr; exact hr.1)
theorem M_h1 {n m ck pos k : Nat} {T wh : Nat → Nat} {x : Int32} {s : Mm} (e : x = N k) (h : VM T m wh ck pos s) (hk : k ≤ 32) (hh : pos + k ≤ 8 * m) : F_Md_hasBits n 63 x s = some (1, s) := by
  obtain ⟨r, e, h⟩ := M_has (n := n) e h hk
  rw [if_pos hh] at h
  rw [e, h]
theorem M_h0 {n m ck pos k : Nat} {T wh : Nat → Nat} {x : Int32} {s : Mm} (e : x = N k) (h : VM T m wh ck pos s) (hk : k ≤ 32) (hh : ¬ pos + k ≤ 8 * m) : Ok (F_Md_hasBits n 63 x s) (fun r => r.1 = 0 ∧ FV 20 ck r.2) := (M_has e h hk).mono (fun r hr => by rw [if_neg hh] at hr; exact hr)
theorem nb_m1 {T wh : Nat → Nat} {p k : Nat} (hk : k ≤ 16) : ¬ N (nb' T wh p k) = -1 := by
  have h1 := nb'_lt (T := T) (wh := wh) (p := p) k
  have h2 : (2 : Nat) ^ k ≤ 2 ^ 16 := Nat.pow_le_pow_right (by decide) hk
  exact N_ne (b := 4294967295) (by omega) (by decide) (by omega)
theorem N_m1' {v : Nat} (h : v < 4294967295) : ¬ N v = -1 := N_ne (b := 4294967295) (by omega) (by decide) (by omega)
/-- what unpacking holds: the class -/
def SC (q : Nat) (T : Nat → Nat) (len m : Nat) (wh : Nat → Nat) (ck tot win pos dn : Nat) (R : Nat → Nat) (s : Mm) : Prop := UC q T len m wh ck pos s ∧ gS s 778 = N tot ∧ gS s 779 = N dn ∧ gS s 780 = N win ∧ (dn ≤ tot ∧ tot ≤ 32888 ∧ win ≤ 32768) ∧ (∀ i, R i < 256) ∧ (∀ i, i < dn → gB s 7 i = N (R i)) ∧ CodC 13 fixL 288 s ∧ CodC 17 (fun _ => 5) 32 s ∧ Stat s
/-- and the reference -/
def SM (T : Nat → Nat) (m : Nat) (wh : Nat → Nat) (ck tot win pos dn : Nat) (R : Nat → Nat) (s : Mm) : Prop := VM T m wh ck pos s ∧ gS s 4064 = N tot ∧ gS s 4063 = N dn ∧ gS s 4076 = N win ∧ ∀ i, i < dn → gB s 73 i &&& N 255 = N (R i)
def RR (q : Nat) (T : Nat → Nat) (len m : Nat) (wh : Nat → Nat) (ck tot win p0 : Nat) (x y : Int32 × Mm) : Prop := (x.1 = 1 ∧ y.1 = 1 ∧ ∃ pos dn R, p0 ≤ pos ∧ SC q T len m wh ck tot win pos dn R x.2 ∧ SM T m wh ck tot win pos dn R y.2) ∨ (x.1 = 0 ∧ y.1 = 0 ∧ ∃ cd pl, FC cd pl x.2 ∧ FV cd pl y.2)
theorem SC.fr {q len m ck tot win pos pos' dn : Nat} {T wh R : Nat → Nat} {lp la : List Nat} {s s' : Mm} (h : SC q T len m wh ck tot win pos dn R s) (f : FI lp la q s s') (hU : UC q T len m wh ck pos' s') (hp : ∀ k ∈ [778, 779, 780, 835, 836, 1091, 1092], ¬ k ∈ lp) (ha : ∀ a ∈ [7, 14, 15, 18, 19], ¬ a ∈ la) (hs : ∀ a ∈ la, a < 100) : SC q T len m wh ck tot win pos' dn R s' := by
  obtain ⟨h1, h2, h3, h4, h5, h6, h7, h8, h9, h10⟩ := h
  have F := f.2.2
  refine ⟨hU, (F.S (hp _ (by decide))).trans h2, (F.S (hp _ (by decide))).trans h3, (F.S (hp _ (by decide))).trans h4, h5, h6, fun i hi => ?_, h8.frI f (hp _ (by decide)) (hp _ (by decide)) (ha _ (by decide)) (ha _ (by decide)), h9.frI f (hp _ (by decide)) (hp _ (by decide)) (ha _ (by decide)) (ha _ (by decide)), h10.fr F hs⟩
  rw [F.B (ha _ (by decide))]
  exact h7 i hi
theorem SM.fr {m ck tot win pos pos' dn : Nat} {T wh R : Nat → Nat} {lp la : List Nat} {s s' : Mm} (h : SM T m wh ck tot win pos dn R s) (f : FM lp la s s') (hV : VM T m wh ck pos' s') (hp : ∀ k ∈ [4064, 4063, 4076], ¬ k ∈ lp) (ha : ¬ 73 ∈ la) : SM T m wh ck tot win pos' dn R s' := by
  obtain ⟨h1, h2, h3, h4, h5⟩ := h
  have F := f.2
  refine ⟨hV, (F.S (hp _ (by decide))).trans h2, (F.S (hp _ (by decide))).trans h3, (F.S (hp _ (by decide))).trans h4, fun i hi => ?_⟩
  rw [F.B ha]
  exact h5 i hi
theorem UC.fr {q len m ck pos : Nat} {T wh : Nat → Nat} {lp la : List Nat} {s s' : Mm} (h : UC q T len m wh ck pos s) (f : FI lp la q s s') (hp : ∀ k ∈ [579, 580, 129, 581, 320], ¬ k ∈ lp) (ha : ∀ a ∈ [10, 3], ¬ a ∈ la) : UC q T len m wh ck pos s' :=
  ⟨h.1.fr f (fun k hk => hp k (by revert k; decide)) ha, (f.2.2.S (hp _ (by decide))).trans h.2.1, h.2.2.1, (f.2.2.S (hp _ (by decide))).trans h.2.2.2⟩
theorem VM.fr {m ck pos : Nat} {T wh : Nat → Nat} {lp la : List Nat} {s s' : Mm} (h : VM T m wh ck pos s) (f : FM lp la s s') (hp : ∀ k ∈ [4060, 4061, 4075, 4035], ¬ k ∈ lp) (ha : ∀ a ∈ [72, 71], ¬ a ∈ la) : VM T m wh ck pos s' :=
  ⟨h.1.fr f (fun k hk => hp k (by revert k; decide)) ha, (f.2.J (hp _ (by decide))).trans h.2.1, h.2.2.1, (f.2.S (hp _ (by decide))).trans h.2.2.2⟩
/-- a byte put -/
theorem SC.put {q len m ck tot win pos dn v : Nat} {T wh R : Nat → Nat} {s : Mm} (h : SC q T len m wh ck tot win pos dn R s) (hv : v < 256) (hd : dn < tot) : SC q T len m wh ck tot win pos (dn + 1) (updN R dn v) (pS (pB s 7 dn (N v)) 779 (N (dn + 1))) := by
  have f : FI [779] [7] q s (pS (pB s 7 dn (N v)) 779 (N (dn + 1))) := ((FI.rfl h.1.1.1).wB (by decide) _ _).wS (by decide) _
  have hU := h.1.fr f (by decide) (by decide)
  obtain ⟨h1, h2, h3, h4, h5, h6, h7, h8, h9, h10⟩ := h
  have F := f.2.2
  refine ⟨hU, (F.S (by decide)).trans h2, gS_eq rfl, (F.S (by decide)).trans h4, by omega, updN_lt h6 hv, fun i hi => ?_, h8.frI f (by decide) (by decide) (by decide) (by decide), h9.frI f (by decide) (by decide) (by decide) (by decide), h10.fr F (by decide)⟩
  show upd (gB s 7) dn (N v) i = _
  exact N_upd (fun hne => h7 i (by omega))
theorem SM.put {m ck tot win pos dn v : Nat} {T wh R : Nat → Nat} {s : Mm} {x : Int32} (h : SM T m wh ck tot win pos dn R s) (hx : x &&& N 255 = N v) : SM T m wh ck tot win pos (dn + 1) (updN R dn v) (pS (pB s 73 dn x) 4063 (N (dn + 1))) := by
  have f : FM [4063] [73] s (pS (pB s 73 dn x) 4063 (N (dn + 1))) := ((FM.rfl h.1.1.1).wB (by decide) _ _).wS (by decide) _
  have hV := h.1.fr f (by decide) (by decide)
  obtain ⟨h1, h2, h3, h4, h5⟩ := h
  have F := f.2
  refine ⟨hV, (F.S (by decide)).trans h2, gS_eq rfl, (F.S (by decide)).trans h4, fun i hi => ?_⟩
  show upd (gB s 73) dn x i &&& N 255 = _
  unfold upd updN
  by_cases hid : i = dn
  · rw [if_pos hid, if_pos hid]; exact hx
  · rw [if_neg hid, if_neg hid]; exact h5 i (by omega)
theorem C_put1 {n q len m ck tot win pos dn v : Nat} {T wh R : Nat → Nat} {x y : Int32} {s : Mm} (e : x = N v) (h : SC q T len m wh ck tot win pos dn R s) (hv : v < 256) (hd : dn < tot) : Ok (F_Unpacker_putByte n 12 x y s) (fun r => r.1 = 1 ∧ SC q T len m wh ck tot win pos (dn + 1) (updN R dn v) r.2) := by
  subst e
  have hP := h.put hv hd
  obtain ⟨h1, h2, h3, h4, h5, -⟩ := id h
  unfold F_Unpacker_putByte
  refine s_pos (by rw [h2, h3, N_lt (by omega) (by omega)]; exact hd) ?_
  refine s_R h1.1.1.1.1.Unp_raw ?_
  refine s_in (m := dn) h3 (show dn < 32888 by omega) (by omega) ?_
  refine s_let (fun s1 e1 => ?_)
  rw [h3, N_nat (by omega)] at e1
  refine s_let (fun s2 e2 => ?_)
  have e3 : gS s1 779 = N dn := by rw [e1]; exact h3
  rw [e3, show (1 : Int32) = N 1 from rfl, N_add, e1] at e2
  refine s_z (Or.inr rfl) (Ok.some ⟨rfl, ?_⟩)
  rw [e2]
  exact hP
theorem C_put0 {n q len m ck tot win pos dn at' : Nat} {T wh R : Nat → Nat} {x y : Int32} {s : Mm} (e : y = N at') (h : SC q T len m wh ck tot win pos dn R s) (hat : at' < 1000000) (hd : ¬ dn < tot) : Ok (F_Unpacker_putByte n 12 x y s) (fun r => r.1 = 0 ∧ FC 26 (plc m wh ck at') r.2) := by
  subst e
  obtain ⟨h1, h2, h3, h4, h5, -⟩ := id h
  unfold F_Unpacker_putByte
  refine s_neg (by rw [h2, h3, N_lt (by omega) (by omega)]; exact hd) ?_
  refine s_R h1.1.1.1.1.Unp_fault ?_
  refine s_R h1.1.1.1.1.Unp_packed ?_
  refine s_c (C_plc rfl h1.1 hat) ?_
  refine (C_ref (c := 26) rfl rfl).c2 ?_
  rintro r s2 ⟨g1, g2⟩
  dsimp only at g1 g2
  subst g1
  exact s_z (Or.inl rfl) (Ok.some ⟨rfl, g2⟩)
