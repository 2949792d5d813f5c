/-! UNPACKING FROM ITS HEAD TO ITS SUM, BOTH SIDES -/


/-- the two results of unpacking -/
def RU (q : Nat) (T : Nat → Nat) (len m : Nat) (wh : Nat → Nat) (ck tot : Nat) (x y : Int32 × Mm) : Prop := (x.1 = 1 ∧ y.1 = 1 ∧ ∃ win pos R, SC q T len m wh ck tot win pos tot R x.2 ∧ SM T m wh ck tot win pos tot R y.2) ∨ (x.1 = 0 ∧ y.1 = 0 ∧ ∃ cd pl, FC cd pl x.2 ∧ FV cd pl y.2)
theorem RU.no {q len m ck tot cd pl : Nat} {T wh : Nat → Nat} {a b : Int32} {s t : Mm} (ha : a = 0) (hb : b = 0) (h1 : FC cd pl s) (h2 : FV cd pl t) : RU q T len m wh ck tot (a, s) (b, t) := Or.inr ⟨ha, hb, cd, pl, h1, h2⟩
theorem RF.u {q len m ck tot win : Nat} {T wh : Nat → Nat} {x y : Int32 × Mm} (h : RF q T len m wh ck tot win x y) : RU q T len m wh ck tot x y := by
  rcases h with ⟨h1, h2, pos, R, h3, h4⟩ | h
  · exact Or.inl ⟨h1, h2, win, pos, R, h3, h4⟩
  · exact Or.inr h
/-- the class's blocks, to the end -/
def ClLoop (n : Nat) (σ4 : Mm) : Option (Int32 × Mm) :=
kf_l (α := Int32 × Int32) n (fun k5 x6 σ7 =>
kf_j (α := Unit) (fun x9 σ10 =>
kf_c2 (F_Unpacker_takeSum n 12 σ10) fun x11 σ12 =>
kf_z x11 (some (x11, σ12))) fun k8 =>
if 524288 ≤ x6.2 then (
k8 () σ7) else (
if x6.1 = 0 then (
Option.bind (gR σ7 (64 * 12 + 0)) fun o13 =>
kf_c2 (F_PackedBits_number n o13 1 σ7) fun x14 σ15 =>
kf_j (α := Unit) (fun x17 σ18 =>
kf_z 0 (some (0, σ18))) fun k16 =>
if x14 = (-1) then (
k16 () σ15) else (
kf_c2 (F_Unpacker_takeBlock n 12 σ15) fun x19 σ20 =>
if x19 = 0 then (
k16 () σ20) else (
kf_let (x6.2 + Int32.ofInt 1) fun x21 =>
k5 (x14, x21) σ20))) else (
k8 () σ7))) (0, 0) σ4
def MdBlocks (n : Nat) (σ18 : Mm) : Option (Int32 × Mm) :=
kf_l (α := Int32) n (fun k26 x27 σ28 =>
if x27 = 0 then (
kf_c2 (F_Md_hasBits n 63 1 σ28) fun x31 σ32 =>
if x31 = 0 then (
kf_z 0 (some (0, σ32))) else (
kf_c2 (F_Md_bits n 63 1 σ32) fun x33 σ34 =>
kf_j (α := Int32) (fun x36 σ37 =>
kf_c2 (F_Md_hasBits n 63 2 σ37) fun x38 σ39 =>
if x38 = 0 then (
kf_z 0 (some (0, σ39))) else (
kf_let (gJ σ39 (64 * 63 + 43) : Int64) fun x40 =>
kf_c2 (F_Md_bits n 63 2 σ39) fun x41 σ42 =>
if x41 = 3 then (
kf_c2 (F_Md_placeOf n 63 x40 σ42) fun x56 σ57 =>
kf_c2 (F_Md_flaw n 63 22 x56 σ57) fun x58 σ59 =>
kf_z x58 (some (x58, σ59))) else (
kf_j (α := Unit) (fun x44 σ45 =>
k26 x36 σ45) fun k43 =>
kf_j (α := Unit) (fun x47 σ48 =>
kf_z 0 (some (0, σ48))) fun k46 =>
if x41 = 0 then (
kf_c2 (F_Md_readPlain n 63 σ42) fun x54 σ55 =>
if x54 = 0 then (
k46 () σ55) else (
k43 () σ55)) else (
kf_j (α := Int32) (fun x50 σ51 =>
kf_c2 (F_Md_readBlock n 63 x50 σ51) fun x52 σ53 =>
if x52 = 0 then (
k46 () σ53) else (
k43 () σ53)) fun k49 =>
if x41 = 1 then (
k49 1 σ42) else (
k49 0 σ42))))) fun k35 =>
if x33 = 1 then (
k35 1 σ34) else (
k35 0 σ34))) else (
kf_c2 (F_Md_readSum n 63 σ28) fun x29 σ30 =>
kf_z x29 (some (x29, σ30)))) 0 σ18
set_option maxHeartbeats 2000000 in
theorem L_blocks {n q len m ck tot win pos dn : Nat} {T wh R : Nat → Nat} {s t : Mm} (hn : 600000 < n) (hp0 : 1 ≤ pos) (hC : SC q T len m wh ck tot win pos dn R s) (hM : SM T m wh ck tot win pos dn R t) : Ok (ClLoop n s) (fun x => Ok (MdBlocks n t) (fun y => RU q T len m wh ck tot x y)) := by
  unfold ClLoop MdBlocks
  have hT := hC.1.1.2.1.2.2.1
  have hpm := hC.pm
  refine ok_l2 (fun mm a1 s1 a2 s2 => ∃ la k pos' dn R, mm = 8 * m - pos' ∧ a1 = (N la, N k) ∧ a2 = N la ∧ la < 2 ∧ k + pos ≤ pos' ∧ SC q T len m wh ck tot win pos' dn R s1 ∧ SM T m wh ck tot win pos' dn R s2) ?_ n n (8 * m - pos) _ _ _ _ (by omega) (by omega) ⟨0, 0, pos, dn, R, rfl, rfl, rfl, by omega, by omega, hC, hM⟩
  clear hC hM hpm
  rintro mm k1 k2 a1 s a2 t ⟨la, k, p1, dn, R, rfl, rfl, rfl, hla, hk, hC, hM⟩ ih
  have hp1 := hC.pm
  refine s_ji ?_
  refine s_neg (by rw [show (524288 : Int32) = N 524288 from rfl, N_le (by omega) (by omega)]; omega) ?_
  by_cases hl0 : la = 0
  · subst hl0
    refine s_pos rfl ?_
    refine s_R hC.1.1.1.1.1.Unp_packed ?_
    refine Ok.sw ?_
    refine s_pos rfl ?_
    by_cases h1 : p1 + 1 ≤ 8 * m
    · refine s_c (M_h1 (k := 1) rfl hM.1 (by decide) h1) ?_
      refine s_neg (by decide) ?_
      refine (SM_n1 (k := 1) rfl (by omega) hM hT (by decide) h1).c2 ?_
      rintro r t1 ⟨e1, g1, -⟩
      dsimp only at e1 g1 ⊢
      subst e1
      have hlb := nb'_lt (T := T) (wh := wh) (p := p1) 1
      have hm1 : ¬ N (nb' T wh p1 1) = -1 := nb_m1 (by decide)
      refine Ok.sw ?_
      refine (SC_n1 (k := 1) rfl (by omega) hC (by decide) h1).c2 ?_
      rintro r s1 ⟨e1, h2, -⟩
      dsimp only at e1 h2 ⊢
      subst e1
      generalize nb' T wh p1 1 = lb at hlb hm1 ⊢
      refine s_ji ?_
      refine s_neg hm1 ?_
      refine Ok.sw ?_
      refine s_j (fun k35 hk35 => ?_)
      have st : ∀ QQ : Int32 × Mm → Prop, Ok (k35 (N lb) t1) QQ → Ok (if N lb = 1 then k35 1 t1 else k35 0 t1) QQ := fun QQ h => by
        by_cases c : lb = 1
        · rw [c] at h ⊢
          exact s_pos rfl h
        · rw [show lb = 0 by omega] at h ⊢
          exact s_neg (by decide) h
      refine st _ ?_
      subst hk35
      dsimp only
      clear st
      refine Ok.sw ?_
      unfold F_Unpacker_takeBlock
      refine Ok.c2' ?_
      refine Ok.inn ?_
      have hp2 := h2.pm
      refine s_R h2.1.1.1.1.1.Unp_packed ?_
      refine s_let (fun x9 hx9 => ?_)
      rw [h2.1.2.1] at hx9
      subst hx9
      refine s_R h2.1.1.1.1.1.Unp_packed ?_
      by_cases h3 : p1 + 1 + 2 ≤ 8 * m
      · refine (SC_n1 (k := 2) rfl (by omega) h2 (by decide) h3).c2 ?_
        rintro r s3 ⟨e3, h4, -⟩
        dsimp only at e3 h4 ⊢
        subst e3
        refine s_neg (nb_m1 (by decide)) ?_
        refine Ok.sw ?_
        refine s_c (M_h1 (k := 2) rfl g1.1 (by decide) h3) ?_
        refine s_neg (by decide) ?_
        refine s_let (fun x9 hx9 => ?_)
        rw [g1.1.2.1] at hx9
        subst hx9
        refine (SM_n1 (k := 2) rfl (by omega) g1 hT (by decide) h3).c2 ?_
        rintro r t4 ⟨e4, g4, -⟩
        dsimp only at e4 g4 ⊢
        subst e4
        have hkb := nb'_lt (T := T) (wh := wh) (p := p1 + 1) 2
        generalize nb' T wh (p1 + 1) 2 = kb at hkb ⊢
        clear hC hM h2
        have NEXT : ∀ p' dn' R' s' t', p1 + 1 + 2 ≤ p' → SC q T len m wh ck tot win p' dn' R' s' → SM T m wh ck tot win p' dn' R' t' → Ok (k1 (N lb, N (k + 1)) s') (fun a => Ok (k2 (N lb) t') (fun b => RU q T len m wh ck tot a b)) := fun p' dn' R' s' t' hp hs ht => by
          have := hs.pm
          exact ih (8 * m - p') _ _ _ _ (by omega) ⟨lb, k + 1, p', dn', R', rfl, rfl, rfl, hlb, by omega, hs, ht⟩
        have hkb4 : kb = 0 ∨ kb = 1 ∨ kb = 2 ∨ kb = 3 := by omega
        rcases hkb4 with rfl | rfl | rfl | rfl
        · refine s_neg (by decide) ?_
          refine s_ji ?_
          refine s_ji ?_
          refine s_pos rfl ?_
          refine Ok.sw ?_
          refine s_pos rfl ?_
          refine Ok.c22 (L_plain (by omega) h4 g4) ?_
          rintro ⟨a, s5⟩ ⟨b, t5⟩ h5
          dsimp only
          rcases h5 with ⟨e1, e2, p5, dn5, R5, h5, h6, h7⟩ | ⟨e1, e2, cd, pl, h5, h6⟩
          · dsimp only at e1 e2 h6 h7
            subst e1 e2
            refine s_z (Or.inr rfl) (Ok.some ?_)
            refine s_neg (by decide) ?_
            refine Ok.sw ?_
            dsimp only
            refine s_neg (by decide) ?_
            refine s_let (fun x9 hx9 => ?_)
            rw [N_one, N_add] at hx9
            subst hx9
            exact NEXT p5 dn5 R5 _ _ h5 h6 h7
          · dsimp only at e1 e2 h5 h6
            subst e1 e2
            refine s_z (Or.inl rfl) (Ok.some ?_)
            refine s_pos rfl (s_z (Or.inl rfl) (Ok.some ?_))
            dsimp only
            exact s_pos rfl (s_z (Or.inl rfl) (Ok.some (RU.no rfl rfl h5 h6)))
        · refine s_neg (by decide) ?_
          refine s_ji ?_
          refine s_ji ?_
          refine s_neg (by decide) ?_
          refine s_ji ?_
          refine s_pos rfl ?_
          refine Ok.sw ?_
          refine s_neg (by decide) ?_
          refine s_pos rfl ?_
          refine s_R h4.1.1.1.1.1.Unp_fixedSigns ?_
          refine s_R h4.1.1.1.1.1.Unp_fixedDistances ?_
          refine Ok.c22 (L_rb1 hn (by omega) h4 g4) ?_
          rintro ⟨a, s5⟩ ⟨b, t5⟩ h5
          dsimp only
          rcases h5 with ⟨e1, e2, p5, dn5, R5, h5, h6, h7⟩ | ⟨e1, e2, cd, pl, h5, h6⟩
          · dsimp only at e1 e2 h6 h7
            subst e1 e2
            refine s_z (Or.inr rfl) (Ok.some ?_)
            refine s_neg (by decide) ?_
            refine Ok.sw ?_
            dsimp only
            refine s_neg (by decide) ?_
            refine s_let (fun x9 hx9 => ?_)
            rw [N_one, N_add] at hx9
            subst hx9
            exact NEXT p5 dn5 R5 _ _ h5 h6 h7
          · dsimp only at e1 e2 h5 h6
            subst e1 e2
            refine s_z (Or.inl rfl) (Ok.some ?_)
            refine s_pos rfl (s_z (Or.inl rfl) (Ok.some ?_))
            dsimp only
            exact s_pos rfl (s_z (Or.inl rfl) (Ok.some (RU.no rfl rfl h5 h6)))
        · refine s_neg (by decide) ?_
          refine s_ji ?_
          refine s_ji ?_
          refine s_neg (by decide) ?_
          refine s_ji ?_
          refine s_neg (by decide) ?_
          refine Ok.sw ?_
          refine s_neg (by decide) ?_
          refine s_neg (by decide) ?_
          refine s_pos rfl ?_
          refine L_rb0 (fk := fun x18 σ19 => kf_z x18 (some (x18, σ19))) hn (by omega) h4 g4 ?_ ?_
          · intro p5 dn5 R5 s5 t5 h5 h6 h7
            refine s_z (Or.inr rfl) (Ok.some ?_)
            refine s_neg (by decide) ?_
            refine Ok.sw ?_
            dsimp only
            refine s_neg (by decide) ?_
            refine s_let (fun x9 hx9 => ?_)
            rw [N_one, N_add] at hx9
            subst hx9
            exact NEXT p5 dn5 R5 _ _ h5 h6 h7
          · intro cd pl s5 t5 h5 h6
            refine s_z (Or.inl rfl) (Ok.some ?_)
            refine s_pos rfl (s_z (Or.inl rfl) (Ok.some ?_))
            dsimp only
            exact s_pos rfl (s_z (Or.inl rfl) (Ok.some (RU.no rfl rfl h5 h6)))
        · refine s_pos rfl ?_
          refine s_c (M_plc (i := p1 + 1) rfl g4.1.1 (by omega)) ?_
          refine (M_flaw (c := 22) rfl rfl).c2 ?_
          rintro r t8 ⟨e8, g8⟩
          dsimp only at e8 g8 ⊢
          subst e8
          refine s_z (Or.inl rfl) (Ok.some ?_)
          refine s_neg (by decide) ?_
          refine s_neg (by decide) ?_
          refine s_neg (by decide) ?_
          refine s_R h4.1.1.1.1.1.Unp_fault ?_
          refine s_R h4.1.1.1.1.1.Unp_packed ?_
          refine s_c (C_plc (i := p1 + 1) rfl h4.1.1 (by omega)) ?_
          refine (C_ref (c := 22) rfl rfl).c2 ?_
          rintro r s8 ⟨e8, h8⟩
          dsimp only at e8 h8 ⊢
          subst e8
          refine s_z (Or.inl rfl) (Ok.some ?_)
          dsimp only
          exact s_pos rfl (s_z (Or.inl rfl) (Ok.some (RU.no rfl rfl h8 g8)))
      · refine (C_n0 (k := 2) rfl (by omega) h2.1 (by decide) h3).c2 ?_
        rintro r s3 ⟨e3, h4⟩
        dsimp only at e3 h4 ⊢
        subst e3
        refine s_pos rfl (s_z (Or.inl rfl) (Ok.some ?_))
        refine (M_h0 (k := 2) rfl g1.1 (by decide) h3).c2 ?_
        rintro r t8 ⟨e8, g8⟩
        dsimp only at e8 g8 ⊢
        subst e8
        refine s_pos rfl (s_z (Or.inl rfl) (Ok.some ?_))
        exact s_pos rfl (s_z (Or.inl rfl) (Ok.some (RU.no rfl rfl h4 g8)))
    · refine (M_h0 (k := 1) rfl hM.1 (by decide) h1).c2 ?_
      rintro r t8 ⟨e8, g8⟩
      dsimp only at e8 g8 ⊢
      subst e8
      refine s_pos rfl (s_z (Or.inl rfl) (Ok.some ?_))
      refine (C_n0 (k := 1) rfl (by omega) hC.1 (by decide) h1).c2 ?_
      rintro r s3 ⟨e3, h4⟩
      dsimp only at e3 h4 ⊢
      subst e3
      refine s_ji ?_
      exact s_pos rfl (s_z (Or.inl rfl) (Ok.some (RU.no rfl rfl h4 g8)))
  · have hl1 : la = 1 := by omega
    subst hl1
    refine s_neg (show ¬ N 1 = 0 by decide) ?_
    refine Ok.sw ?_
    refine s_neg (by decide) ?_
    refine Ok.sw ?_
    refine Ok.c22 (L_sum (by omega) hC hM) ?_
    rintro ⟨a, s5⟩ ⟨b, t5⟩ h5
    dsimp only
    have h6 := h5.u
    rcases h5 with ⟨e1, e2, -⟩ | ⟨e1, e2, -⟩
    · dsimp only at e1 e2
      subst e1 e2
      exact s_z (Or.inr rfl) (Ok.some (s_z (Or.inr rfl) (Ok.some h6)))
    · dsimp only at e1 e2
      subst e1 e2
      exact s_z (Or.inl rfl) (Ok.some (s_z (Or.inl rfl) (Ok.some h6)))

set_option maxHeartbeats 1000000 in
theorem L_unpack {n q len m ck tot : Nat} {T wh : Nat → Nat} {s t : Mm} {x : Int32} (ex : x = N tot) (hn : 600000 < n) (ht : tot ≤ 32888) (hU : UC q T len m wh ck 0 s) (h13 : CodC 13 fixL 288 s) (h17 : CodC 17 (fun _ => 5) 32 s) (hS : Stat s) (hV : VS T m wh ck t) (hfc : gS t 4035 = N 0) (hra : gS t 4064 = N tot) : Ok (F_Unpacker_unpack n 12 x s) (fun x => Ok (F_Md_unpack n 63 t) (fun y => RU q T len m wh ck tot x y)) := by
  subst ex
  have hT := hU.1.2.1.2.2.1
  have hmm := hU.1.2.2.1
  unfold F_Unpacker_unpack F_Md_unpack
  refine s_let (fun s1 e1 => ?_)
  refine s_let (fun s2 e2 => ?_)
  have f2 : FI [778, 779] [] q s s2 := by rw [e2, e1]; exact ((FI.rfl hU.1.1).wS (by decide) _).wS (by decide) _
  have a2 : gS s2 778 = N tot := by rw [e2, gS_ne (by decide), e1]; exact gS_eq rfl
  have b2 : gS s2 779 = N 0 := by rw [e2]; exact gS_eq rfl
  have hU2 := hU.fr f2 (by decide) (by decide)
  have k13 := h13.frI f2 (by decide) (by decide) (by decide) (by decide)
  have k17 := h17.frI f2 (by decide) (by decide) (by decide) (by decide)
  have hS2 := hS.fr f2.2.2 (by decide)
  clear e1 e2 f2 hU h13 h17 hS
  refine Ok.sw ?_
  refine s_let (fun t1 e1 => ?_)
  refine s_let (fun t2 e2 => ?_)
  have g2 : FM [4075, 4063] [] t t2 := by rw [e2, e1]; exact ((FM.rfl hV.1).wJ (by decide) _).wS (by decide) _
  have hV2 : VM T m wh ck 0 t2 := ⟨hV.fr g2 (by decide) (by decide), by rw [e2, e1]; exact gJ_eq rfl, by omega, (g2.2.S (by decide)).trans hfc⟩
  have c2 : gS t2 4064 = N tot := (g2.2.S (by decide)).trans hra
  have d2 : gS t2 4063 = N 0 := by rw [e2]; exact gS_eq rfl
  clear e1 e2 g2 hV hfc hra
  refine Ok.sw ?_
  unfold F_Unpacker_takeHead
  refine Ok.c2' ?_
  refine Ok.inn ?_
  refine s_R hU2.1.1.1.1.Unp_packed ?_
  by_cases h8 : 0 + 8 ≤ 8 * m
  · refine (C_n1 (k := 8) rfl (by omega) hU2 (by decide) h8).c2 ?_
    rintro r s3 ⟨e3, hU3, f3⟩
    dsimp only at e3 hU3 f3 ⊢
    subst e3
    refine s_neg (nb_m1 (by decide)) ?_
    refine Ok.sw ?_
    refine s_c (M_h1 (k := 8) rfl hV2 (by decide) h8) ?_
    refine s_neg (by decide) ?_
    refine (M_bits (k := 8) rfl (by omega) hV2 hT (by decide) h8).c2 ?_
    rintro r t3 ⟨e3, hV3, gf3⟩
    dsimp only at e3 hV3 gf3 ⊢
    subst e3
    have hfl := nb'_lt (T := T) (wh := wh) (p := 0) 8
    generalize nb' T wh 0 8 = f at hfl ⊢
    have BAD : ∀ {s' t' : Mm} {cd pl : Nat}, FC cd pl s' → FV cd pl t' → RU q T len m wh ck tot (0, s') (0, t') := fun h1 h2 => RU.no rfl rfl h1 h2
    have fault1 : ∀ QQ : Int32 × Mm → Prop, (∀ t', FV 21 (plc m wh ck 0) t' → QQ (0, t')) → Ok (kf_c2 (F_Md_placeOf n 63 0 t3) fun x10 σ11 =>
kf_c2 (F_Md_flaw n 63 21 x10 σ11) fun x12 σ13 =>
kf_z x12 (some (x12, σ13))) QQ := fun QQ h => by
      refine s_c (M_plc (i := 0) rfl hV3.1 (by omega)) ?_
      refine (M_flaw (c := 21) rfl rfl).c2 ?_
      rintro r t8 ⟨e8, g8⟩
      dsimp only at e8 g8 ⊢
      subst e8
      exact s_z (Or.inl rfl) (Ok.some (h _ g8))
    have fault2 : ∀ QQ : Int32 × Mm → Prop, (∀ s', FC 21 (plc m wh ck 0) s' → QQ (0, s')) → Ok (Option.bind (gR s3 (64 * 12 + 1)) fun o7 =>
Option.bind (gR s3 (64 * 12 + 0)) fun o8 =>
kf_c2 (F_PackedBits_placeOf n o8 0 s3) fun x9 σ10 =>
kf_c2 (F_Fault_refuse n o7 21 x9 σ10) fun x11 σ12 =>
kf_z x11 (some (x11, σ12))) QQ := fun QQ h => by
      refine s_R hU3.1.1.1.1.Unp_fault ?_
      refine s_R hU3.1.1.1.1.Unp_packed ?_
      refine s_c (C_plc (i := 0) rfl hU3.1 (by omega)) ?_
      refine (C_ref (c := 21) rfl rfl).c2 ?_
      rintro r t8 ⟨e8, g8⟩
      dsimp only at e8 g8 ⊢
      subst e8
      exact s_z (Or.inl rfl) (Ok.some (h _ g8))
    refine s_ji ?_
    by_cases cA : N f &&& 15 = 8
    · refine s_pos cA ?_
      have e4 : N f >>> (4 &&& 31) = N (f >>> 4) := N_shr (a := f) (k := 4) (by omega) (by decide)
      have hf4 : f >>> 4 < 16 := by rw [Nat.shiftRight_eq_div_pow]; omega
      rw [e4, show (7 : Int32) = N 7 from rfl]
      by_cases cB : f >>> 4 ≤ 7
      · refine s_pos (by rw [N_le (by omega) (by omega)]; exact cB) ?_
        obtain ⟨win, hwin⟩ : ∃ win, win = 1 <<< (f >>> 4 + 8) := ⟨_, rfl⟩
        have hwb : win ≤ 32768 := by
          rw [hwin, Nat.shiftLeft_eq, Nat.one_mul]
          exact Nat.pow_le_pow_right (n := 2) (j := 15) (by decide) (by omega)
        have ew : (1 : Int32) <<< ((N (f >>> 4) + 8) &&& 31) = N win := by
          rw [show (8 : Int32) = N 8 from rfl, N_add, show (31 : Int32) = N 31 from rfl, show (1 : Int32) = N 1 from rfl, N_shl (by omega), hwin]
        rw [ew]
        refine s_let (fun t4 e4' => ?_)
        have gf4 : FM [4076] [] t3 t4 := by rw [e4']; exact (FM.rfl hV3.1.1).wS (by decide) _
        have hV4 := hV3.fr gf4 (by decide) (by decide)
        have w4 : gS t4 4076 = N win := by rw [e4']; exact gS_eq rfl
        have c4 : gS t4 4064 = N tot := (gf4.2.S (by decide)).trans ((gf3.2.S (by decide)).trans c2)
        have d4 : gS t4 4063 = N 0 := (gf4.2.S (by decide)).trans ((gf3.2.S (by decide)).trans d2)
        refine Ok.sw ?_
        refine s_ji ?_
        refine s_pos cA ?_
        refine s_pos (by rw [N_le (by omega) (by omega)]; exact cB) ?_
        refine s_let (fun s4 e5 => ?_)
        have f4 : FI [780] [] q s3 s4 := by rw [e5]; exact (FI.rfl hU3.1.1).wS (by decide) _
        have hU4 := hU3.fr f4 (by decide) (by decide)
        have w5 : gS s4 780 = N win := by rw [e5]; exact gS_eq rfl
        have hC4 : SC q T len m wh ck tot win (0 + 8) 0 (fun _ => 0) s4 := ⟨hU4, (f4.2.2.S (by decide)).trans ((f3.2.2.S (by decide)).trans a2), (f4.2.2.S (by decide)).trans ((f3.2.2.S (by decide)).trans b2), w5, by omega, fun _ => (by decide : 0 < 256), fun i hi => by omega, (k13.frI f3 (by decide) (by decide) (by decide) (by decide)).frI f4 (by decide) (by decide) (by decide) (by decide), (k17.frI f3 (by decide) (by decide) (by decide) (by decide)).frI f4 (by decide) (by decide) (by decide) (by decide), (hS2.fr f3.2.2 (by decide)).fr f4.2.2 (by decide)⟩
        have hM4 : SM T m wh ck tot win (0 + 8) 0 (fun _ => 0) t4 := ⟨hV4, c4, d4, w4, fun i hi => by omega⟩
        clear e4' e5 hU4 hV4 w4 w5 c4 d4 f4 gf4 fault1 fault2 hV2 hU2 k13 k17 hS2 hV3 hU3 f3 gf3
        refine s_R hC4.1.1.1.1.1.Unp_packed ?_
        by_cases h16 : 0 + 8 + 8 ≤ 8 * m
        · refine (SC_n1 (k := 8) rfl (by omega) hC4 (by decide) h16).c2 ?_
          rintro r s5 ⟨e5, hC5, -⟩
          dsimp only at e5 hC5 ⊢
          subst e5
          refine s_neg (nb_m1 (by decide)) ?_
          refine s_nz (by decide) ?_
          refine Ok.sw ?_
          refine s_c (M_h1 (k := 8) rfl hM4.1 (by decide) h16) ?_
          refine s_neg (by decide) ?_
          refine (SM_n1 (k := 8) rfl (by omega) hM4 hT (by decide) h16).c2 ?_
          rintro r t5 ⟨e5, hM5, -⟩
          dsimp only at e5 hM5 ⊢
          subst e5
          have hgl := nb'_lt (T := T) (wh := wh) (p := 0 + 8) 8
          generalize nb' T wh (0 + 8) 8 = g at hgl ⊢
          refine s_nz (by decide) ?_
          refine s_ji ?_
          have eA : N f <<< (8 &&& 31) ||| N g = N (256 * f + g) := N_256 (a := f) hgl
          have eB : (256 : Int32) * N f + N g = N (256 * f + g) := by rw [show (256 : Int32) = N 256 from rfl, N_mul, N_add]
          rw [eA, eB]
          have bad : Ok (kf_c2 (F_Md_placeOf n 63 8 t5) fun x22 σ23 =>
kf_c2 (F_Md_flaw n 63 21 x22 σ23) fun x24 σ25 =>
kf_z x24 (some (x24, σ25))) (fun z => z.1 = 0 ∧ FV 21 (plc m wh ck 8) z.2) := by
            refine s_c (M_plc (i := 8) rfl hM5.1.1 (by omega)) ?_
            refine (M_flaw (c := 21) rfl rfl).c2 ?_
            rintro r t8 ⟨e8, g8⟩
            dsimp only at e8 g8 ⊢
            subst e8
            exact s_z (Or.inl rfl) (Ok.some ⟨rfl, g8⟩)
          have badC : ∀ QQ : Int32 × Mm → Prop, (∀ s', FC 21 (plc m wh ck 8) s' → QQ (0, s')) → Ok (kf_j (α := Int32) (fun x21 σ22 =>
kf_z x21 (some (x21, σ22))) fun k20 =>
kf_j (α := Unit) (fun x24 σ25 =>
k20 1 σ25) fun k23 =>
if (0 : Int32) = 0 then (
Option.bind (gR s5 (64 * 12 + 1)) fun o26 =>
Option.bind (gR s5 (64 * 12 + 0)) fun o27 =>
kf_c2 (F_PackedBits_placeOf n o27 8 s5) fun x28 σ29 =>
kf_c2 (F_Fault_refuse n o26 21 x28 σ29) fun x30 σ31 =>
if x30 = 0 then (
k20 0 σ31) else (
k23 () σ31)) else (
k23 () s5)) QQ := fun QQ h => by
            refine s_ji ?_
            refine s_ji ?_
            refine s_pos rfl ?_
            refine s_R hC5.1.1.1.1.1.Unp_fault ?_
            refine s_R hC5.1.1.1.1.1.Unp_packed ?_
            refine s_c (C_plc (i := 8) rfl hC5.1.1 (by omega)) ?_
            refine (C_ref (c := 21) rfl rfl).c2 ?_
            rintro r t8 ⟨e8, g8⟩
            dsimp only at e8 g8 ⊢
            refine s_pos e8 ?_
            exact s_z (Or.inl rfl) (Ok.some (h _ g8))
          by_cases cC : N (256 * f + g) - N (256 * f + g) / 31 * 31 = 0
          · refine s_pos cC ?_
            by_cases cD : N g &&& 32 = 0
            · refine s_pos cD ?_
              refine Ok.sw ?_
              refine s_ji ?_
              refine s_ji ?_
              refine s_pos cC ?_
              refine s_pos cD ?_
              refine s_ji ?_
              refine s_ji ?_
              refine s_neg (by decide) ?_
              refine s_z (Or.inr rfl) (Ok.some ?_)
              refine Ok.sw ?_
              dsimp only
              refine s_neg (by decide) ?_
              exact L_blocks hn (by omega) hC5 hM5
            · refine s_neg cD ?_
              refine bad.mono ?_
              rintro ⟨b, t6⟩ ⟨e6, g6⟩
              dsimp only at e6 g6
              subst e6
              refine s_ji ?_
              refine s_ji ?_
              refine s_pos cC ?_
              refine s_neg cD ?_
              refine badC _ (fun s' hs' => ?_)
              dsimp only
              exact s_pos rfl (s_z (Or.inl rfl) (Ok.some (BAD hs' g6)))
          · refine s_neg cC ?_
            refine bad.mono ?_
            rintro ⟨b, t6⟩ ⟨e6, g6⟩
            dsimp only at e6 g6
            subst e6
            refine s_ji ?_
            refine s_ji ?_
            refine s_neg cC ?_
            refine badC _ (fun s' hs' => ?_)
            dsimp only
            exact s_pos rfl (s_z (Or.inl rfl) (Ok.some (BAD hs' g6)))
        · refine (C_n0 (k := 8) rfl (by omega) hC4.1 (by decide) h16).c2 ?_
          rintro r s5 ⟨e5, hC5⟩
          dsimp only at e5 hC5 ⊢
          subst e5
          refine s_pos rfl (s_z (Or.inl rfl) (Ok.some ?_))
          refine (M_h0 (k := 8) rfl hM4.1 (by decide) h16).c2 ?_
          rintro r t8 ⟨e8, g8⟩
          dsimp only at e8 g8 ⊢
          subst e8
          refine s_pos rfl (s_z (Or.inl rfl) (Ok.some ?_))
          exact s_pos rfl (s_z (Or.inl rfl) (Ok.some (BAD hC5 g8)))
      · refine s_neg (by rw [N_le (by omega) (by omega)]; exact cB) ?_
        refine fault1 _ (fun t' ht' => ?_)
        refine s_ji ?_
        refine s_pos cA ?_
        refine s_neg (by rw [N_le (by omega) (by omega)]; exact cB) ?_
        refine fault2 _ (fun s' hs' => ?_)
        dsimp only
        exact s_pos rfl (s_z (Or.inl rfl) (Ok.some (BAD hs' ht')))
    · refine s_neg cA ?_
      refine fault1 _ (fun t' ht' => ?_)
      refine s_ji ?_
      refine s_neg cA ?_
      refine fault2 _ (fun s' hs' => ?_)
      dsimp only
      exact s_pos rfl (s_z (Or.inl rfl) (Ok.some (BAD hs' ht')))
  · refine (C_n0 (k := 8) rfl (by omega) hU2 (by decide) h8).c2 ?_
    rintro r s5 ⟨e5, hC5⟩
    dsimp only at e5 hC5 ⊢
    subst e5
    refine s_pos rfl (s_z (Or.inl rfl) (Ok.some ?_))
    refine (M_h0 (k := 8) rfl hV2 (by decide) h8).c2 ?_
    rintro r t8 ⟨e8, g8⟩
    dsimp only at e8 g8 ⊢
    subst e8
    refine s_pos rfl (s_z (Or.inl rfl) (Ok.some ?_))
    exact s_pos rfl (s_z (Or.inl rfl) (Ok.some (RU.no rfl rfl hC5 g8)))
