/-! THE CALL read, IN TWO MEMORIES -/
theorem Pr.and {X : Type} {f : Option X} {Q R : X → Prop} (h : Pr f Q) (h2 : Pr f R) : Pr f (fun x => Q x ∧ R x) := fun x e => ⟨h x e, h2 x e⟩
theorem FM.tr {lp la lp' la' lq lb : List Nat} {s s1 s2 : Mm} (h1 : FM lp la s s1) (h2 : FM lp' la' s1 s2) (a : ∀ k ∈ lp, k ∈ lq) (b : ∀ k ∈ la, k ∈ lb) (c : ∀ k ∈ lp', k ∈ lq) (d : ∀ k ∈ la', k ∈ lb) : FM lq lb s s2 := ⟨h2.1, (h1.2.mono a b).trans (h2.2.mono c d)⟩
/-- what reading gives: alike answers, faults alike, the pictures as they were or both anew -/
def RD (p q : Nat) (RP RA : List Nat) (σ τ : Mm) (x y : Int32 × Mm) : Prop := x.1 = y.1 ∧ gS x.2 320 = gS y.2 4035 ∧ PtX x.2 ∧ ((FL RP RA σ x.2 ∧ FM [4032, 4035, 4036, 4048, 4049, 4050, 4051, 4052, 4055, 4057, 4060, 4061, 4063, 4064, 4070, 4071, 4072, 4073, 4074, 4075, 4076, 4079, 4080, 4081, 4083, 4084, 4085] [68, 69, 70, 71, 72, 73, 74, 75, 76, 77, 78, 79, 80, 81] τ y.2) ∨ (gR x.2 70 = some q ∧ gR x.2 71 = some p ∧ gS x.2 72 = N 1 ∧ gS y.2 4037 = N 1 ∧ (∃ (w h kd dp lc cc tc : Nat) (sm co th : Nat → Nat), PicV w h kd dp lc cc tc sm co th ∧ PicC q w h kd dp lc cc tc sm co th x.2 ∧ PicM w h kd dp lc cc tc sm co th y.2) ∧ FL (70 :: 71 :: 72 :: RP) RA σ x.2))
def RP_38 : List Nat := [320, 321, 579, 580, 581, 707, 708, 709, 710, 711, 778, 779, 780, 1347, 1348, 1603, 1604, 1859, 1860, 2432, 2433, 2434, 2435, 2436, 2437, 2438, 2439, 2688, 2689, 2690]
def RA_38 : List Nat := [10, 7, 22, 23, 24, 26, 27, 28, 30, 31, 32, 33, 8, 39, 40, 41, 43, 44, 45, 46, 47, 48, 49]
set_option maxHeartbeats 4000000 in
theorem L_read_38 {n len : Nat} {T : Nat → Nat} {σ τ : Mm} (hn : 600000 < n) (hX : PtX σ) (hT : TapeC T len σ) (hTu : Turns σ) (hst : Stat σ) (h13 : CodC 13 fixL 288 σ) (h17 : CodC 17 (fun _ => 5) 32 σ) (r1 : gR σ 70 = some 50) (r2 : gR σ 71 = some 38) (hXM : PtX τ) (hTM : TapeM T len τ) (hrg : Rng τ) : Ok (F_PF_read n 1 σ) (fun x => Ok (F_Md_read n 63 τ) (fun y => RD 50 38 RP_38 RA_38 σ τ x y)) := by
  have hq : isP 38 := Or.inl rfl
  unfold F_PF_read F_Md_read
  refine s_R hX.1.PF_firstFault ?_
  unfold F_Fault_clear
  refine Ok.bind' ?_
  refine s_let (fun s1 e1 => ?_)
  refine s_let (fun s2 e2 => ?_)
  refine Ok.some ?_
  have F2 : FL RP_38 RA_38 σ s2 := by rw [e2, e1]; exact Fr.wS (Fr.wS Fr.rfl (by decide) _) (by decide) _
  have G2 : Fr (fun k => k ∈ [320, 321]) PN σ s2 := by rw [e2, e1]; exact Fr.wS (Fr.wS Fr.rfl (by decide) _) (by decide) _
  have X2 : PtX s2 := ⟨hX.1.fr' G2 (fun k hk => by simp at hk; rcases hk with rfl | rfl <;> decide), hX.2.frC G2 (fun k hk => by simp at hk; omega)⟩
  have c2 : gS s2 320 = N 0 := by rw [e2, gS_ne (by decide), e1]; exact gS_eq rfl
  clear e1 e2
  refine Ok.sw ?_
  refine s_let (fun t1 d1 => ?_)
  refine s_let (fun t2 d2 => ?_)
  refine s_let (fun t3 d3 => ?_)
  have M3 : FM [4032, 4035, 4036] [] τ t3 := by rw [d3, d2, d1]; exact (((FM.rfl hXM).wS (by decide) _).wS (by decide) _).wS (by decide) _
  have m3 : gS t3 4035 = N 0 := by rw [d3, gS_ne (by decide), d2]; exact gS_eq rfl
  have g3 : Rng t3 := hrg.fr M3.2 (by decide)
  have TM3 := hTM.frL M3 (by decide) (by decide)
  clear d1 d2 d3
  refine Ok.sw ?_
  refine s_R X2.1.PF_pieces ?_
  refine s_R ((G2.R (by decide)).trans r2) ?_
  have T2 : TapeC T len s2 := ⟨(G2.S (by decide)).trans hT.1, hT.2.1, hT.2.2.1, fun i hi => by rw [G2.B id]; exact hT.2.2.2 i hi⟩
  refine Ok.c22 ((L_walk hn hq X2 T2 (fun i hi => by rw [G2.B id]; exact hTu i hi) (hst.fr G2 (fun a h => h.elim)) (h13.fr G2 (by decide) (by decide) id id) (h17.fr G2 (by decide) (by decide) id id) c2 M3.1 TM3 m3).and2 (fr_walk_38 X2) ((fr_Md_readFile_63 M3.1).and (pr_Md_readFile (CM_IM t3) (IM_0 M3.1.2 g3)))) ?_
  rintro ⟨a, s4⟩ ⟨b, t4⟩ ⟨hr, f4, m4, im4⟩
  dsimp only at f4 m4 im4 ⊢
  have F4 : FL RP_38 RA_38 σ s4 := F2.trans (f4.2.2.mono (by decide) (by decide))
  have M4 : FM [4032, 4035, 4036, 4048, 4049, 4050, 4051, 4052, 4055, 4057, 4060, 4061, 4063, 4064, 4070, 4071, 4072, 4073, 4074, 4075, 4076, 4079, 4080, 4081, 4083, 4084, 4085] [68, 69, 70, 71, 72, 73, 74, 75, 76, 77, 78, 79, 80, 81] τ t4 := M3.tr m4 (by decide) (by decide) (by decide) (by decide)
  have g4 := im4.2.1
  clear im4
  have FAULT : ∀ {cd pl : Nat} {s' t' : Mm}, PtX s' → FL RP_38 RA_38 σ s' → FM [4032, 4035, 4036, 4048, 4049, 4050, 4051, 4052, 4055, 4057, 4060, 4061, 4063, 4064, 4070, 4071, 4072, 4073, 4074, 4075, 4076, 4079, 4080, 4081, 4083, 4084, 4085] [68, 69, 70, 71, 72, 73, 74, 75, 76, 77, 78, 79, 80, 81] τ t' → FC cd pl s' → FV cd pl t' → Ok (Option.bind (gR s' (64 * 1 + 1)) fun o15 => some (gS s' (64 * o15 + 1), s')) (fun a => RD 50 38 RP_38 RA_38 σ τ a (gS t' (64 * 63 + 4), t')) := fun hX' hF hM h1 h2 => by
    refine s_R hX'.1.PF_firstFault (Ok.some ⟨h1.2.trans h2.2.symm, h1.1.trans h2.1.symm, hX', Or.inl ⟨hF, hM⟩⟩)
  rcases hr with ⟨e1, e2, m, wh, ck, bf, hc, ht, hd, pc, hC, hM, hpc, hB⟩ | ⟨e1, e2, cd, pl, h1, h2⟩
  case inr =>
    dsimp only at e1 e2 h1 h2
    subst e1 e2
    refine s_ji ?_
    refine s_ji ?_
    refine s_pos rfl ?_
    refine s_pos rfl ?_
    refine Ok.sw ?_
    refine s_pos rfl (Ok.some ?_)
    exact FAULT f4.1 F4 M4 h1 h2
  case inl =>
  dsimp only at e1 e2 hC hM hB
  subst e1 e2
  obtain ⟨w, h, kd, dp, lc, cc, tc, co, th, hv, hPc, hN, -, -⟩ := hB
  have hT8 := bt_8 hv.1 (ch_mul hv.2.1).2
  have L4 := hPc.2.2.2.2.2.2.2.2.1
  refine s_ji ?_
  refine s_ji ?_
  refine s_neg (by decide) ?_
  refine s_R f4.1.1.PF_unpacker ?_
  have r4 : gR s4 71 = some 38 := (F4.R (by decide)).trans r2
  refine s_R r4 ?_
  refine s_R (f4.1.1.pic_layout hq) ?_
  refine Ok.sw ?_
  refine s_neg (by decide) ?_
  refine s_let (fun t5 d5 => ?_)
  have m5 : FM [4084, 4085] [] t4 t5 := by rw [d5]; exact (FM.rfl m4.1).wS (by decide) _
  refine s_let (fun t6 d6 => ?_)
  have m6 : FM [4084, 4085] [] t4 t6 := by rw [d6]; exact m5.wS (by decide) _
  have k6 : gS t6 4084 = N kd := by rw [d6, gS_ne (by decide), d5]; exact (gS_eq rfl).trans hN.2.2.1
  have p6 : gS t6 4085 = N dp := by rw [d6]; exact (gS_eq rfl).trans ((m5.2.S (by decide)).trans hN.2.2.2.1)
  clear d5 d6
  have N6 := hN.fr m6.2 (by decide) (by decide)
  rw [show gS t6 (64 * 63 + 16) = N w from N6.1, show gS t6 (64 * 63 + 17) = N h from N6.2.1, show gS t6 (64 * 63 + 18) = N kd from N6.2.2.1, show gS t6 (64 * 63 + 19) = N dp from N6.2.2.2.1, show gS t6 (64 * 63 + 20) = N lc from N6.2.2.2.2.1]
  refine ((Md_rows_ok (n := n) m6.1.2 hv.1 (by have := hv.2.1.b.1; omega) hv.2.1.b.2 (by omega)).and (fr_Md_rows_63 m6.1)).bind ?_
  rintro t7 ⟨⟨R7, -⟩, m7⟩
  refine s_let (fun t8 d8 => ?_)
  rw [show gS t7 (64 * 63 + 39) = N (bt w h lc (ch kd * dp) 8) from R7.2.1] at d8
  have m8 : FM [4064, 4070, 4071, 4084, 4085] [74, 75, 76, 77, 78] t4 t8 := by rw [d8]; exact (m6.tr m7 (by decide) (by decide) (by decide) (by decide)).wS (by decide) _
  have a8 : gS t8 4064 = N (bt w h lc (ch kd * dp) 8) := by rw [d8]; exact gS_eq rfl
  have n8 : FM [4064] [] t7 t8 := by rw [d8]; exact (FM.rfl m7.1).wS (by decide) _
  have R8 : RowsM w h lc (ch kd * dp) t8 := R7.fr n8.2 (by decide) (by decide) (fun a _ => by simp)
  have k8 : gS t8 4084 = N kd := (n8.2.S (by decide)).trans ((m7.2.S (by decide)).trans k6)
  have p8 : gS t8 4085 = N dp := (n8.2.S (by decide)).trans ((m7.2.S (by decide)).trans p6)
  have N8 := hN.fr m8.2 (by decide) (by decide)
  have g8 : Rng t8 := g4.fr m8.2 (by decide)
  have M8 : FM [4032, 4035, 4036, 4048, 4049, 4050, 4051, 4052, 4055, 4057, 4060, 4061, 4063, 4064, 4070, 4071, 4072, 4073, 4074, 4075, 4076, 4079, 4080, 4081, 4083, 4084, 4085] [68, 69, 70, 71, 72, 73, 74, 75, 76, 77, 78, 79, 80, 81] τ t8 := M4.tr m8 (by decide) (by decide) (by decide) (by decide)
  clear d8 m5 m6 m7 n8 R7 k6 p6 N6
  have hpm8 : gS t8 4035 = N 0 := (m8.2.S (by decide)).trans hM.2.2.2.2.2.2.1
  have V8 : VS T m wh ck t8 := by
    obtain ⟨x1, x2, x3, x4, x5, x6, -⟩ := hM
    exact ⟨m8.1, hC.1.2.2.1, (m8.2.S (by decide)).trans x3, (m8.2.S (by decide)).trans (x6 (by omega)), fun i hi => by rw [m8.2.B (by decide)]; exact x4 i hi, fun i hi => by rw [m8.2.B (by decide)]; exact x5 i hi⟩
  refine Ok.sw ?_
  have U4 : UC 38 T len m wh ck 0 s4 := ⟨hC.1, hC.2.1, by omega, hC.2.2.1⟩
  refine Ok.c22 ((L_unpack (tot := bt w h lc (ch kd * dp) 8) L4.2.1 hn hT8 U4 hC.2.2.2.2.2.2.2.2.2.1 hC.2.2.2.2.2.2.2.2.2.2 hC.2.2.2.2.2.2.2.2.1 V8 hpm8 a8).and2 (fr_Unpacker_unpack_12 hC.1.1) ((fr_Md_unpack_63 m8.1).and (pr_Md_unpack (CM_IM t8) (IM_0 m8.1.2 g8)))) ?_
  rintro ⟨a, s9⟩ ⟨b, t9⟩ ⟨hr, f9, m9, im9⟩
  dsimp only at f9 m9 im9 ⊢
  have F9 : FL RP_38 RA_38 σ s9 := F4.trans (f9.2.2.mono (by decide) (by decide))
  have M9 : FM [4032, 4035, 4036, 4048, 4049, 4050, 4051, 4052, 4055, 4057, 4060, 4061, 4063, 4064, 4070, 4071, 4072, 4073, 4074, 4075, 4076, 4079, 4080, 4081, 4083, 4084, 4085] [68, 69, 70, 71, 72, 73, 74, 75, 76, 77, 78, 79, 80, 81] τ t9 := M8.tr m9 (by decide) (by decide) (by decide) (by decide)
  have g9 := im9.2.1
  clear im9
  have r9 : gR s9 71 = some 38 := (F9.R (by decide)).trans r2
  rcases hr with ⟨e1, e2, win, pos, R, hC9, hM9⟩ | ⟨e1, e2, cd, pl, h1, h2⟩
  case inr =>
    dsimp only at e1 e2 h1 h2
    subst e1 e2
    refine s_pos rfl ?_
    refine s_pos rfl ?_
    refine Ok.sw ?_
    refine s_ji ?_
    refine s_pos rfl (Ok.some ?_)
    exact FAULT f9.1 F9 M9 h1 h2
  case inl =>
  dsimp only at e1 e2 hC9 hM9
  subst e1 e2
  have H9 : PicH 38 w h kd dp lc cc tc co th s9 := hPc.h.fr f9.2.2 (fun k hk z => by unfold UPc PLay at hk; simp at z; omega) (fun a ha _ z => by unfold UAc ALay at ha; simp at z; omega)
  have N9 := N8.fr m9.2 (by decide) (by decide)
  have R9 : RowsM w h lc (ch kd * dp) t9 := R8.fr m9.2 (by decide) (by decide) (fun a ha z => by unfold ARw at ha; simp at z; omega)
  have k9 : gS t9 4084 = N kd := (m9.2.S (by decide)).trans k8
  have p9 : gS t9 4085 = N dp := (m9.2.S (by decide)).trans p8
  have z9 : gS s9 320 = N 0 := hC9.1.2.2.2
  have y9 : gS t9 4035 = N 0 := hM9.1.2.2.2
  refine s_neg (by decide) ?_
  refine s_R f9.1.1.PF_rows ?_
  refine s_R r9 ?_
  refine s_R f9.1.1.PF_firstFault ?_
  refine Ok.sw ?_
  refine s_ji ?_
  refine s_neg (by decide) ?_
  refine Ok.sw ?_
  have LR := L_rows (n := n) (p := 38) (cc := cc) (tc := tc) (co := co) (th := th) (R := R) (s := s9) (t := t9) (Q := fun x y => (x.1 = 0 ∧ y.1 = 0 ∧ ∃ cd pl, FC cd pl x.2 ∧ FV cd pl y.2) ∨ (y.1 = 1 ∧ ∃ (Fl sm : Nat → Nat), PicV w h kd dp lc cc tc sm co th ∧ (∀ j, Fl j < 256) ∧ (∀ q l, q < 8 → l < ln w h lc q → ∀ i, i < rb w (ch kd * dp) q → gB y.2 73 (ro w h lc (ch kd * dp) q l + 1 + i) &&& N 255 = N (Fl (ro w h lc (ch kd * dp) q l + 1 + i))) ∧ (∀ q l, q < 8 → l < ln w h lc q → ∀ i c, i < pn w q → c < ch kd → sm (ix w kd q l i c) = sv Fl dp (ro w h lc (ch kd * dp) q l + 1) (i * ch kd + c)) ∧ Fr PN A73 t9 y.2 ∧ ((goodS w h kd cc sm ∧ x.1 = 1 ∧ PicC 38 w h kd dp lc cc tc sm co th x.2 ∧ gS x.2 320 = N 0) ∨ (∃ p0, badS w h kd cc sm p0 ∧ x.1 = 0 ∧ FC 31 p0 x.2)))) hn f9.1.1 m9.1.2 hq hv.1 hv.2.1 H9 hC9.2.2.2.2.2.1 hC9.2.2.2.2.2.2.1 R9 k9 p9 hM9.2.2.2.2 g9 (fun cd pl s' t' h1 h2 => Or.inl ⟨rfl, rfl, cd, pl, h1, h2⟩) (fun Fl s' t' hF hS hR f g => by
    have hwh := whc (kd := kd) hv.1
    have hpw := pw_le hv.2.1
    obtain ⟨sm, hsm⟩ : ∃ sm : Nat → Nat, sm = fun i => if i < w * h * ch kd then (gB s' (38 + 1) i).toNatClampNeg else 0 := ⟨_, rfl⟩
    have hval : ∀ q l, q < 8 → l < ln w h lc q → ∀ i c, i < pn w q → c < ch kd → sm (ix w kd q l i c) = sv Fl dp (ro w h lc (ch kd * dp) q l + 1) (i * ch kd + c) := fun q l hq hl i c hi hc => by
      have hlt := sv_lt (dp := dp) (first := ro w h lc (ch kd * dp) q l + 1) (m := i * ch kd + c) hF
      rw [hsm]
      dsimp only
      rw [if_pos (ix_lt hq hl hi hc), hS q l hq hl i c hi hc, N_nat (by omega)]
    have hsmb : ∀ i, sm i < 2 ^ dp := fun i => by
      by_cases c : i < w * h * ch kd
      · obtain ⟨q, l, i', c', hq, hl, hi, hc, e⟩ := ix_sur hv.1 c
        rw [e, hval q l hq hl i' c' hi hc]
        exact sv_lt hF
      · rw [hsm]
        dsimp only
        rw [if_neg c]
        exact Nat.pow_pos (by decide)
    have hV : PicV w h kd dp lc cc tc sm co th := ⟨hv.1, hv.2.1, hv.2.2.1, hv.2.2.2.1, hv.2.2.2.2.1, hsmb, hv.2.2.2.2.2.1, hv.2.2.2.2.2.2⟩
    have hP' : PtC s' := f9.1.1.fr' f PN_C
    have hH' : PicH 38 w h kd dp lc cc tc co th s' := H9.fr f (fun k _ => id) (fun a ha hne z => by unfold UAc ALay at ha; unfold ARes at z; omega)
    have hC' : PicC 38 w h kd dp lc cc tc sm co th s' := hH'.c (fun i hi => by
      obtain ⟨q, l, i', c', hq, hl, hi', hc, e⟩ := ix_sur hv.1 hi
      rw [e, hval q l hq hl i' c' hi' hc]
      exact hS q l hq hl i' c' hi' hc)
    refine (C_tail hn hP' hq hV hC').mono ?_
    rintro ⟨x1, x2⟩ hx
    refine Or.inr ⟨rfl, Fl, sm, hV, hF, hR, hval, g, ?_⟩
    rcases hx with ⟨a1, a2, a3⟩ | ⟨p0, a1, a2, a3⟩
    · dsimp only at a2 a3
      refine Or.inl ⟨a1, a2, ?_, ?_⟩
      · dsimp only; rw [a3]; exact hC'
      · dsimp only; rw [a3]; exact (f.S id).trans z9
    · exact Or.inr ⟨p0, a1, a2, a3⟩)
  refine Ok.c22 (LR.and2 (fr_Rows_restore_6_38_5 hC9.1.1.1) (fr_Md_isPlain_63 m9.1)) ?_
  clear LR
  rintro ⟨a, s10⟩ ⟨b, t10⟩ ⟨hr, f10, m10⟩
  dsimp only at f10 m10 hr ⊢
  have F10 : FL RP_38 RA_38 σ s10 := F9.trans (f10.2.2.mono (by decide) (by decide))
  have M10 : FM [4032, 4035, 4036, 4048, 4049, 4050, 4051, 4052, 4055, 4057, 4060, 4061, 4063, 4064, 4070, 4071, 4072, 4073, 4074, 4075, 4076, 4079, 4080, 4081, 4083, 4084, 4085] [68, 69, 70, 71, 72, 73, 74, 75, 76, 77, 78, 79, 80, 81] τ t10 := M9.tr m10 (by decide) (by decide) (by decide) (by decide)
  rcases hr with ⟨e1, e2, cd, pl, h1, h2⟩ | ⟨e2, Fl, sm, hV, hF, hR, hval, g, hor⟩
  · subst e1 e2
    refine s_pos rfl ?_
    refine s_pos rfl ?_
    refine Ok.sw ?_
    refine s_pos rfl (Ok.some ?_)
    exact FAULT f10.1 F10 M10 h1 h2
  · subst e2
    refine Ok.sw ?_
    refine s_neg (by decide) ?_
    have N10 := N9.fr m10.2 (by decide) (by decide)
    have R10 : RowsM w h lc (ch kd * dp) t10 := R9.fr m10.2 (by decide) (by decide) (fun a ha z => by unfold ARw at ha; simp at z; omega)
    have MT := M_tail (n := n) (sm := sm) (Fl := Fl) hn m10.1 hV N10 R10 ((m10.2.S (by decide)).trans k9) ((m10.2.S (by decide)).trans p9) hF hR hval
    refine Ok.mono MT ?_
    rintro ⟨b, t11⟩ ht
    rcases ht with ⟨G1, b1, b2, b3, b4⟩ | ⟨p0, G1, b1, b2, b3⟩
    · dsimp only at b1 b2 b3 b4
      rcases hor with ⟨-, a1, a2, a3⟩ | ⟨p1, G2, -⟩
      · subst a1
        refine s_neg (by decide) ?_
        refine s_neg (by decide) ?_
        refine s_R ((F10.R (by decide)).trans r1) ?_
        refine s_R ((F10.R (by decide)).trans r2) ?_
        refine s_let (fun s11 e11 => ?_)
        refine s_let (fun s12 e12 => ?_)
        refine s_z (Or.inr rfl) ?_
        refine s_let (fun s13 e13 => ?_)
        have F13 : Fr (fun k => k ∈ [70, 71, 72]) PN s10 s13 := by rw [e13, e12, e11]; exact Fr.wS (Fr.wR (Fr.wR Fr.rfl (by decide) _) (by decide) _) (by decide) _
        have X13 : PtX s13 := ⟨f10.1.1.fr' F13 (fun k hk => by simp at hk; rcases hk with rfl | rfl | rfl <;> decide), f10.1.2.frC F13 (fun k hk => by simp at hk; omega)⟩
        refine Ok.some ⟨b1.symm, ?_, X13, Or.inr ⟨?_, ?_, ?_, b3, ⟨w, h, kd, dp, lc, cc, tc, sm, co, th, hV, ?_, b2⟩, ?_⟩⟩
        · exact ((F13.S (by decide)).trans a3).trans ((b4.2.S (by decide)).trans ((g.S id).trans y9)).symm
        · rw [e13, e12, e11]; exact gR_ne (by decide) |>.trans (gR_eq rfl)
        · rw [e13, e12]; exact gR_eq rfl
        · rw [e13]; exact gS_eq rfl
        · exact a2.fr F13 (fun k hk z => by unfold UPc PLay at hk; simp at z; omega) (fun a _ => id)
        · exact (F10.mono (fun k hk => List.mem_cons_of_mem _ (List.mem_cons_of_mem _ (List.mem_cons_of_mem _ hk))) (fun _ h => h)).trans (F13.mono (fun k hk => by simp at hk ⊢; omega) (fun _ h => h.elim))
      · exact (goodS_bad G1 G2).elim
    · dsimp only at b1 b2 b3
      rcases hor with ⟨G2, -⟩ | ⟨p1, G2, a1, a2⟩
      · exact (goodS_bad G2 G1).elim
      · have := badS_u G1 G2
        subst this
        subst a1
        refine s_pos rfl ?_
        refine s_pos rfl ?_
        refine s_R f10.1.1.PF_firstFault (Ok.some ⟨a2.2.trans b1.symm, a2.1.trans b2.symm, f10.1, Or.inl ⟨F10, M10.tr b3 (by decide) (by decide) (by decide) (by decide)⟩⟩)

def RP_50 : List Nat := [320, 321, 579, 580, 581, 707, 708, 709, 710, 711, 778, 779, 780, 1347, 1348, 1603, 1604, 1859, 1860, 3200, 3201, 3202, 3203, 3204, 3205, 3206, 3207, 3456, 3457, 3458]
def RA_50 : List Nat := [10, 7, 22, 23, 24, 26, 27, 28, 30, 31, 32, 33, 8, 51, 52, 53, 55, 56, 57, 58, 59, 60, 61]
set_option maxHeartbeats 4000000 in
theorem L_read_50 {n len : Nat} {T : Nat → Nat} {σ τ : Mm} (hn : 600000 < n) (hX : PtX σ) (hT : TapeC T len σ) (hTu : Turns σ) (hst : Stat σ) (h13 : CodC 13 fixL 288 σ) (h17 : CodC 17 (fun _ => 5) 32 σ) (r1 : gR σ 70 = some 38) (r2 : gR σ 71 = some 50) (hXM : PtX τ) (hTM : TapeM T len τ) (hrg : Rng τ) : Ok (F_PF_read n 1 σ) (fun x => Ok (F_Md_read n 63 τ) (fun y => RD 38 50 RP_50 RA_50 σ τ x y)) := by
  have hq : isP 50 := Or.inr rfl
  unfold F_PF_read F_Md_read
  refine s_R hX.1.PF_firstFault ?_
  unfold F_Fault_clear
  refine Ok.bind' ?_
  refine s_let (fun s1 e1 => ?_)
  refine s_let (fun s2 e2 => ?_)
  refine Ok.some ?_
  have F2 : FL RP_50 RA_50 σ s2 := by rw [e2, e1]; exact Fr.wS (Fr.wS Fr.rfl (by decide) _) (by decide) _
  have G2 : Fr (fun k => k ∈ [320, 321]) PN σ s2 := by rw [e2, e1]; exact Fr.wS (Fr.wS Fr.rfl (by decide) _) (by decide) _
  have X2 : PtX s2 := ⟨hX.1.fr' G2 (fun k hk => by simp at hk; rcases hk with rfl | rfl <;> decide), hX.2.frC G2 (fun k hk => by simp at hk; omega)⟩
  have c2 : gS s2 320 = N 0 := by rw [e2, gS_ne (by decide), e1]; exact gS_eq rfl
  clear e1 e2
  refine Ok.sw ?_
  refine s_let (fun t1 d1 => ?_)
  refine s_let (fun t2 d2 => ?_)
  refine s_let (fun t3 d3 => ?_)
  have M3 : FM [4032, 4035, 4036] [] τ t3 := by rw [d3, d2, d1]; exact (((FM.rfl hXM).wS (by decide) _).wS (by decide) _).wS (by decide) _
  have m3 : gS t3 4035 = N 0 := by rw [d3, gS_ne (by decide), d2]; exact gS_eq rfl
  have g3 : Rng t3 := hrg.fr M3.2 (by decide)
  have TM3 := hTM.frL M3 (by decide) (by decide)
  clear d1 d2 d3
  refine Ok.sw ?_
  refine s_R X2.1.PF_pieces ?_
  refine s_R ((G2.R (by decide)).trans r2) ?_
  have T2 : TapeC T len s2 := ⟨(G2.S (by decide)).trans hT.1, hT.2.1, hT.2.2.1, fun i hi => by rw [G2.B id]; exact hT.2.2.2 i hi⟩
  refine Ok.c22 ((L_walk hn hq X2 T2 (fun i hi => by rw [G2.B id]; exact hTu i hi) (hst.fr G2 (fun a h => h.elim)) (h13.fr G2 (by decide) (by decide) id id) (h17.fr G2 (by decide) (by decide) id id) c2 M3.1 TM3 m3).and2 (fr_walk_50 X2) ((fr_Md_readFile_63 M3.1).and (pr_Md_readFile (CM_IM t3) (IM_0 M3.1.2 g3)))) ?_
  rintro ⟨a, s4⟩ ⟨b, t4⟩ ⟨hr, f4, m4, im4⟩
  dsimp only at f4 m4 im4 ⊢
  have F4 : FL RP_50 RA_50 σ s4 := F2.trans (f4.2.2.mono (by decide) (by decide))
  have M4 : FM [4032, 4035, 4036, 4048, 4049, 4050, 4051, 4052, 4055, 4057, 4060, 4061, 4063, 4064, 4070, 4071, 4072, 4073, 4074, 4075, 4076, 4079, 4080, 4081, 4083, 4084, 4085] [68, 69, 70, 71, 72, 73, 74, 75, 76, 77, 78, 79, 80, 81] τ t4 := M3.tr m4 (by decide) (by decide) (by decide) (by decide)
  have g4 := im4.2.1
  clear im4
  have FAULT : ∀ {cd pl : Nat} {s' t' : Mm}, PtX s' → FL RP_50 RA_50 σ s' → FM [4032, 4035, 4036, 4048, 4049, 4050, 4051, 4052, 4055, 4057, 4060, 4061, 4063, 4064, 4070, 4071, 4072, 4073, 4074, 4075, 4076, 4079, 4080, 4081, 4083, 4084, 4085] [68, 69, 70, 71, 72, 73, 74, 75, 76, 77, 78, 79, 80, 81] τ t' → FC cd pl s' → FV cd pl t' → Ok (Option.bind (gR s' (64 * 1 + 1)) fun o15 => some (gS s' (64 * o15 + 1), s')) (fun a => RD 38 50 RP_50 RA_50 σ τ a (gS t' (64 * 63 + 4), t')) := fun hX' hF hM h1 h2 => by
    refine s_R hX'.1.PF_firstFault (Ok.some ⟨h1.2.trans h2.2.symm, h1.1.trans h2.1.symm, hX', Or.inl ⟨hF, hM⟩⟩)
  rcases hr with ⟨e1, e2, m, wh, ck, bf, hc, ht, hd, pc, hC, hM, hpc, hB⟩ | ⟨e1, e2, cd, pl, h1, h2⟩
  case inr =>
    dsimp only at e1 e2 h1 h2
    subst e1 e2
    refine s_ji ?_
    refine s_ji ?_
    refine s_pos rfl ?_
    refine s_pos rfl ?_
    refine Ok.sw ?_
    refine s_pos rfl (Ok.some ?_)
    exact FAULT f4.1 F4 M4 h1 h2
  case inl =>
  dsimp only at e1 e2 hC hM hB
  subst e1 e2
  obtain ⟨w, h, kd, dp, lc, cc, tc, co, th, hv, hPc, hN, -, -⟩ := hB
  have hT8 := bt_8 hv.1 (ch_mul hv.2.1).2
  have L4 := hPc.2.2.2.2.2.2.2.2.1
  refine s_ji ?_
  refine s_ji ?_
  refine s_neg (by decide) ?_
  refine s_R f4.1.1.PF_unpacker ?_
  have r4 : gR s4 71 = some 50 := (F4.R (by decide)).trans r2
  refine s_R r4 ?_
  refine s_R (f4.1.1.pic_layout hq) ?_
  refine Ok.sw ?_
  refine s_neg (by decide) ?_
  refine s_let (fun t5 d5 => ?_)
  have m5 : FM [4084, 4085] [] t4 t5 := by rw [d5]; exact (FM.rfl m4.1).wS (by decide) _
  refine s_let (fun t6 d6 => ?_)
  have m6 : FM [4084, 4085] [] t4 t6 := by rw [d6]; exact m5.wS (by decide) _
  have k6 : gS t6 4084 = N kd := by rw [d6, gS_ne (by decide), d5]; exact (gS_eq rfl).trans hN.2.2.1
  have p6 : gS t6 4085 = N dp := by rw [d6]; exact (gS_eq rfl).trans ((m5.2.S (by decide)).trans hN.2.2.2.1)
  clear d5 d6
  have N6 := hN.fr m6.2 (by decide) (by decide)
  rw [show gS t6 (64 * 63 + 16) = N w from N6.1, show gS t6 (64 * 63 + 17) = N h from N6.2.1, show gS t6 (64 * 63 + 18) = N kd from N6.2.2.1, show gS t6 (64 * 63 + 19) = N dp from N6.2.2.2.1, show gS t6 (64 * 63 + 20) = N lc from N6.2.2.2.2.1]
  refine ((Md_rows_ok (n := n) m6.1.2 hv.1 (by have := hv.2.1.b.1; omega) hv.2.1.b.2 (by omega)).and (fr_Md_rows_63 m6.1)).bind ?_
  rintro t7 ⟨⟨R7, -⟩, m7⟩
  refine s_let (fun t8 d8 => ?_)
  rw [show gS t7 (64 * 63 + 39) = N (bt w h lc (ch kd * dp) 8) from R7.2.1] at d8
  have m8 : FM [4064, 4070, 4071, 4084, 4085] [74, 75, 76, 77, 78] t4 t8 := by rw [d8]; exact (m6.tr m7 (by decide) (by decide) (by decide) (by decide)).wS (by decide) _
  have a8 : gS t8 4064 = N (bt w h lc (ch kd * dp) 8) := by rw [d8]; exact gS_eq rfl
  have n8 : FM [4064] [] t7 t8 := by rw [d8]; exact (FM.rfl m7.1).wS (by decide) _
  have R8 : RowsM w h lc (ch kd * dp) t8 := R7.fr n8.2 (by decide) (by decide) (fun a _ => by simp)
  have k8 : gS t8 4084 = N kd := (n8.2.S (by decide)).trans ((m7.2.S (by decide)).trans k6)
  have p8 : gS t8 4085 = N dp := (n8.2.S (by decide)).trans ((m7.2.S (by decide)).trans p6)
  have N8 := hN.fr m8.2 (by decide) (by decide)
  have g8 : Rng t8 := g4.fr m8.2 (by decide)
  have M8 : FM [4032, 4035, 4036, 4048, 4049, 4050, 4051, 4052, 4055, 4057, 4060, 4061, 4063, 4064, 4070, 4071, 4072, 4073, 4074, 4075, 4076, 4079, 4080, 4081, 4083, 4084, 4085] [68, 69, 70, 71, 72, 73, 74, 75, 76, 77, 78, 79, 80, 81] τ t8 := M4.tr m8 (by decide) (by decide) (by decide) (by decide)
  clear d8 m5 m6 m7 n8 R7 k6 p6 N6
  have hpm8 : gS t8 4035 = N 0 := (m8.2.S (by decide)).trans hM.2.2.2.2.2.2.1
  have V8 : VS T m wh ck t8 := by
    obtain ⟨x1, x2, x3, x4, x5, x6, -⟩ := hM
    exact ⟨m8.1, hC.1.2.2.1, (m8.2.S (by decide)).trans x3, (m8.2.S (by decide)).trans (x6 (by omega)), fun i hi => by rw [m8.2.B (by decide)]; exact x4 i hi, fun i hi => by rw [m8.2.B (by decide)]; exact x5 i hi⟩
  refine Ok.sw ?_
  have U4 : UC 50 T len m wh ck 0 s4 := ⟨hC.1, hC.2.1, by omega, hC.2.2.1⟩
  refine Ok.c22 ((L_unpack (tot := bt w h lc (ch kd * dp) 8) L4.2.1 hn hT8 U4 hC.2.2.2.2.2.2.2.2.2.1 hC.2.2.2.2.2.2.2.2.2.2 hC.2.2.2.2.2.2.2.2.1 V8 hpm8 a8).and2 (fr_Unpacker_unpack_12 hC.1.1) ((fr_Md_unpack_63 m8.1).and (pr_Md_unpack (CM_IM t8) (IM_0 m8.1.2 g8)))) ?_
  rintro ⟨a, s9⟩ ⟨b, t9⟩ ⟨hr, f9, m9, im9⟩
  dsimp only at f9 m9 im9 ⊢
  have F9 : FL RP_50 RA_50 σ s9 := F4.trans (f9.2.2.mono (by decide) (by decide))
  have M9 : FM [4032, 4035, 4036, 4048, 4049, 4050, 4051, 4052, 4055, 4057, 4060, 4061, 4063, 4064, 4070, 4071, 4072, 4073, 4074, 4075, 4076, 4079, 4080, 4081, 4083, 4084, 4085] [68, 69, 70, 71, 72, 73, 74, 75, 76, 77, 78, 79, 80, 81] τ t9 := M8.tr m9 (by decide) (by decide) (by decide) (by decide)
  have g9 := im9.2.1
  clear im9
  have r9 : gR s9 71 = some 50 := (F9.R (by decide)).trans r2
  rcases hr with ⟨e1, e2, win, pos, R, hC9, hM9⟩ | ⟨e1, e2, cd, pl, h1, h2⟩
  case inr =>
    dsimp only at e1 e2 h1 h2
    subst e1 e2
    refine s_pos rfl ?_
    refine s_pos rfl ?_
    refine Ok.sw ?_
    refine s_ji ?_
    refine s_pos rfl (Ok.some ?_)
    exact FAULT f9.1 F9 M9 h1 h2
  case inl =>
  dsimp only at e1 e2 hC9 hM9
  subst e1 e2
  have H9 : PicH 50 w h kd dp lc cc tc co th s9 := hPc.h.fr f9.2.2 (fun k hk z => by unfold UPc PLay at hk; simp at z; omega) (fun a ha _ z => by unfold UAc ALay at ha; simp at z; omega)
  have N9 := N8.fr m9.2 (by decide) (by decide)
  have R9 : RowsM w h lc (ch kd * dp) t9 := R8.fr m9.2 (by decide) (by decide) (fun a ha z => by unfold ARw at ha; simp at z; omega)
  have k9 : gS t9 4084 = N kd := (m9.2.S (by decide)).trans k8
  have p9 : gS t9 4085 = N dp := (m9.2.S (by decide)).trans p8
  have z9 : gS s9 320 = N 0 := hC9.1.2.2.2
  have y9 : gS t9 4035 = N 0 := hM9.1.2.2.2
  refine s_neg (by decide) ?_
  refine s_R f9.1.1.PF_rows ?_
  refine s_R r9 ?_
  refine s_R f9.1.1.PF_firstFault ?_
  refine Ok.sw ?_
  refine s_ji ?_
  refine s_neg (by decide) ?_
  refine Ok.sw ?_
  have LR := L_rows (n := n) (p := 50) (cc := cc) (tc := tc) (co := co) (th := th) (R := R) (s := s9) (t := t9) (Q := fun x y => (x.1 = 0 ∧ y.1 = 0 ∧ ∃ cd pl, FC cd pl x.2 ∧ FV cd pl y.2) ∨ (y.1 = 1 ∧ ∃ (Fl sm : Nat → Nat), PicV w h kd dp lc cc tc sm co th ∧ (∀ j, Fl j < 256) ∧ (∀ q l, q < 8 → l < ln w h lc q → ∀ i, i < rb w (ch kd * dp) q → gB y.2 73 (ro w h lc (ch kd * dp) q l + 1 + i) &&& N 255 = N (Fl (ro w h lc (ch kd * dp) q l + 1 + i))) ∧ (∀ q l, q < 8 → l < ln w h lc q → ∀ i c, i < pn w q → c < ch kd → sm (ix w kd q l i c) = sv Fl dp (ro w h lc (ch kd * dp) q l + 1) (i * ch kd + c)) ∧ Fr PN A73 t9 y.2 ∧ ((goodS w h kd cc sm ∧ x.1 = 1 ∧ PicC 50 w h kd dp lc cc tc sm co th x.2 ∧ gS x.2 320 = N 0) ∨ (∃ p0, badS w h kd cc sm p0 ∧ x.1 = 0 ∧ FC 31 p0 x.2)))) hn f9.1.1 m9.1.2 hq hv.1 hv.2.1 H9 hC9.2.2.2.2.2.1 hC9.2.2.2.2.2.2.1 R9 k9 p9 hM9.2.2.2.2 g9 (fun cd pl s' t' h1 h2 => Or.inl ⟨rfl, rfl, cd, pl, h1, h2⟩) (fun Fl s' t' hF hS hR f g => by
    have hwh := whc (kd := kd) hv.1
    have hpw := pw_le hv.2.1
    obtain ⟨sm, hsm⟩ : ∃ sm : Nat → Nat, sm = fun i => if i < w * h * ch kd then (gB s' (50 + 1) i).toNatClampNeg else 0 := ⟨_, rfl⟩
    have hval : ∀ q l, q < 8 → l < ln w h lc q → ∀ i c, i < pn w q → c < ch kd → sm (ix w kd q l i c) = sv Fl dp (ro w h lc (ch kd * dp) q l + 1) (i * ch kd + c) := fun q l hq hl i c hi hc => by
      have hlt := sv_lt (dp := dp) (first := ro w h lc (ch kd * dp) q l + 1) (m := i * ch kd + c) hF
      rw [hsm]
      dsimp only
      rw [if_pos (ix_lt hq hl hi hc), hS q l hq hl i c hi hc, N_nat (by omega)]
    have hsmb : ∀ i, sm i < 2 ^ dp := fun i => by
      by_cases c : i < w * h * ch kd
      · obtain ⟨q, l, i', c', hq, hl, hi, hc, e⟩ := ix_sur hv.1 c
        rw [e, hval q l hq hl i' c' hi hc]
        exact sv_lt hF
      · rw [hsm]
        dsimp only
        rw [if_neg c]
        exact Nat.pow_pos (by decide)
    have hV : PicV w h kd dp lc cc tc sm co th := ⟨hv.1, hv.2.1, hv.2.2.1, hv.2.2.2.1, hv.2.2.2.2.1, hsmb, hv.2.2.2.2.2.1, hv.2.2.2.2.2.2⟩
    have hP' : PtC s' := f9.1.1.fr' f PN_C
    have hH' : PicH 50 w h kd dp lc cc tc co th s' := H9.fr f (fun k _ => id) (fun a ha hne z => by unfold UAc ALay at ha; unfold ARes at z; omega)
    have hC' : PicC 50 w h kd dp lc cc tc sm co th s' := hH'.c (fun i hi => by
      obtain ⟨q, l, i', c', hq, hl, hi', hc, e⟩ := ix_sur hv.1 hi
      rw [e, hval q l hq hl i' c' hi' hc]
      exact hS q l hq hl i' c' hi' hc)
    refine (C_tail hn hP' hq hV hC').mono ?_
    rintro ⟨x1, x2⟩ hx
    refine Or.inr ⟨rfl, Fl, sm, hV, hF, hR, hval, g, ?_⟩
    rcases hx with ⟨a1, a2, a3⟩ | ⟨p0, a1, a2, a3⟩
    · dsimp only at a2 a3
      refine Or.inl ⟨a1, a2, ?_, ?_⟩
      · dsimp only; rw [a3]; exact hC'
      · dsimp only; rw [a3]; exact (f.S id).trans z9
    · exact Or.inr ⟨p0, a1, a2, a3⟩)
  refine Ok.c22 (LR.and2 (fr_Rows_restore_6_50_5 hC9.1.1.1) (fr_Md_isPlain_63 m9.1)) ?_
  clear LR
  rintro ⟨a, s10⟩ ⟨b, t10⟩ ⟨hr, f10, m10⟩
  dsimp only at f10 m10 hr ⊢
  have F10 : FL RP_50 RA_50 σ s10 := F9.trans (f10.2.2.mono (by decide) (by decide))
  have M10 : FM [4032, 4035, 4036, 4048, 4049, 4050, 4051, 4052, 4055, 4057, 4060, 4061, 4063, 4064, 4070, 4071, 4072, 4073, 4074, 4075, 4076, 4079, 4080, 4081, 4083, 4084, 4085] [68, 69, 70, 71, 72, 73, 74, 75, 76, 77, 78, 79, 80, 81] τ t10 := M9.tr m10 (by decide) (by decide) (by decide) (by decide)
  rcases hr with ⟨e1, e2, cd, pl, h1, h2⟩ | ⟨e2, Fl, sm, hV, hF, hR, hval, g, hor⟩
  · subst e1 e2
    refine s_pos rfl ?_
    refine s_pos rfl ?_
    refine Ok.sw ?_
    refine s_pos rfl (Ok.some ?_)
    exact FAULT f10.1 F10 M10 h1 h2
  · subst e2
    refine Ok.sw ?_
    refine s_neg (by decide) ?_
    have N10 := N9.fr m10.2 (by decide) (by decide)
    have R10 : RowsM w h lc (ch kd * dp) t10 := R9.fr m10.2 (by decide) (by decide) (fun a ha z => by unfold ARw at ha; simp at z; omega)
    have MT := M_tail (n := n) (sm := sm) (Fl := Fl) hn m10.1 hV N10 R10 ((m10.2.S (by decide)).trans k9) ((m10.2.S (by decide)).trans p9) hF hR hval
    refine Ok.mono MT ?_
    rintro ⟨b, t11⟩ ht
    rcases ht with ⟨G1, b1, b2, b3, b4⟩ | ⟨p0, G1, b1, b2, b3⟩
    · dsimp only at b1 b2 b3 b4
      rcases hor with ⟨-, a1, a2, a3⟩ | ⟨p1, G2, -⟩
      · subst a1
        refine s_neg (by decide) ?_
        refine s_neg (by decide) ?_
        refine s_R ((F10.R (by decide)).trans r1) ?_
        refine s_R ((F10.R (by decide)).trans r2) ?_
        refine s_let (fun s11 e11 => ?_)
        refine s_let (fun s12 e12 => ?_)
        refine s_z (Or.inr rfl) ?_
        refine s_let (fun s13 e13 => ?_)
        have F13 : Fr (fun k => k ∈ [70, 71, 72]) PN s10 s13 := by rw [e13, e12, e11]; exact Fr.wS (Fr.wR (Fr.wR Fr.rfl (by decide) _) (by decide) _) (by decide) _
        have X13 : PtX s13 := ⟨f10.1.1.fr' F13 (fun k hk => by simp at hk; rcases hk with rfl | rfl | rfl <;> decide), f10.1.2.frC F13 (fun k hk => by simp at hk; omega)⟩
        refine Ok.some ⟨b1.symm, ?_, X13, Or.inr ⟨?_, ?_, ?_, b3, ⟨w, h, kd, dp, lc, cc, tc, sm, co, th, hV, ?_, b2⟩, ?_⟩⟩
        · exact ((F13.S (by decide)).trans a3).trans ((b4.2.S (by decide)).trans ((g.S id).trans y9)).symm
        · rw [e13, e12, e11]; exact gR_ne (by decide) |>.trans (gR_eq rfl)
        · rw [e13, e12]; exact gR_eq rfl
        · rw [e13]; exact gS_eq rfl
        · exact a2.fr F13 (fun k hk z => by unfold UPc PLay at hk; simp at z; omega) (fun a _ => id)
        · exact (F10.mono (fun k hk => List.mem_cons_of_mem _ (List.mem_cons_of_mem _ (List.mem_cons_of_mem _ hk))) (fun _ h => h)).trans (F13.mono (fun k hk => by simp at hk ⊢; omega) (fun _ h => h.elim))
      · exact (goodS_bad G1 G2).elim
    · dsimp only at b1 b2 b3
      rcases hor with ⟨G2, -⟩ | ⟨p1, G2, a1, a2⟩
      · exact (goodS_bad G2 G1).elim
      · have := badS_u G1 G2
        subst this
        subst a1
        refine s_pos rfl ?_
        refine s_pos rfl ?_
        refine s_R f10.1.1.PF_firstFault (Ok.some ⟨a2.2.trans b1.symm, a2.1.trans b2.symm, f10.1, Or.inl ⟨F10, M10.tr b3 (by decide) (by decide) (by decide) (by decide)⟩⟩)
