/-! THE CLASS WRITES -/
abbrev PWf (k : Nat) : Prop := PSh k ∨ k = 2179
abbrev AWf (a : Nat) : Prop := ASh a ∨ A78 a
theorem PWf_C (k : Nat) (h : PWf k) : cptr.all (fun q => q.1 != k) = true := by
  rcases h with h | h
  · exact PSh_C k h
  · subst h; decide
theorem mark_eq : adl z0S (fun i => lob (mm_sc 100 i)) 8 = mrk := by
  show ad (ad (ad (ad (ad (ad (ad (ad z0S (lob (mm_sc 100 0))) (lob (mm_sc 100 1))) (lob (mm_sc 100 2))) (lob (mm_sc 100 3))) (lob (mm_sc 100 4))) (lob (mm_sc 100 5))) (lob (mm_sc 100 6))) (lob (mm_sc 100 7)) = ad (ad (ad (ad (ad (ad (ad (ad z0S (by4 2303741511 0)) (by4 2303741511 1)) (by4 2303741511 2)) (by4 2303741511 3)) (by4 218765834 0)) (by4 218765834 1)) (by4 218765834 2)) (by4 218765834 3)
  rw [show lob (mm_sc 100 0) = by4 2303741511 0 by decide, show lob (mm_sc 100 1) = by4 2303741511 1 by decide, show lob (mm_sc 100 2) = by4 2303741511 2 by decide, show lob (mm_sc 100 3) = by4 2303741511 3 by decide, show lob (mm_sc 100 4) = by4 218765834 0 by decide, show lob (mm_sc 100 5) = by4 218765834 1 by decide, show lob (mm_sc 100 6) = by4 218765834 2 by decide, show lob (mm_sc 100 7) = by4 218765834 3 by decide]
theorem addPacked_ok {n tot a : Nat} {R : Nat → Nat} {S : (Nat → Nat) × Nat} {x y : Int32} {σ : Mm} (e1 : x = N tot) (e2 : y = N a) (ha : a ≤ 1) (hn : 65536 < n) (hp : PtC σ) (hst : Stat σ) (h1 : 1 ≤ tot) (ht : tot ≤ 32888) (hR : ∀ i, R i < 256) (hS : TapeC S.1 S.2 σ) (z : ∀ i, i < tot → gB σ 7 i = N (R i)) (hl : S.2 ≤ 1500) : Ok (F_Writer_addPacked n 34 x y σ) (fun s => TapeC (adn (if a = 0 then pln (ad (ad S 120) 1) R tot else srt (ad (ad S 120) 1) R tot) (sumA R tot)).1 (adn (if a = 0 then pln (ad (ad S 120) 1) R tot else srt (ad (ad S 120) 1) R tot) (sumA R tot)).2 s ∧ Fr PSh ASh σ s) := by
  subst e1 e2
  have q0 : ∀ {s : Mm}, Fr PSh ASh σ s → PtC s ∧ Stat s ∧ ∀ i, i < tot → gB s 7 i = N (R i) := fun f => ⟨hp.fr' f PSh_C, fun a ha => by rw [f.B (by unfold ASh AT; omega)]; exact hst a ha, fun i hi => by rw [f.B (by decide)]; exact z i hi⟩
  have u1 : ∀ {s s' : Mm}, Fr PT AT s s' → Fr PSh ASh s s' := fun f => f.mono (fun _ h => Or.inl (Or.inl h)) (fun _ h => Or.inl h)
  unfold F_Writer_addPacked
  refine s_R hp.Writer_tape ?_
  refine (Ta_add (v := 120) hp hS (by decide) (by omega)).bind ?_
  rintro s1 ⟨t1, f1⟩
  have F1 := u1 f1
  refine s_R (q0 F1).1.Writer_tape ?_
  have l1 : (ad S 120).2 = S.2 + 1 := rfl
  refine (Ta_add (v := 1) (q0 F1).1 t1 (by decide) (by omega)).bind ?_
  rintro s2 ⟨t2, f2⟩
  have F2 := F1.trans (u1 f2)
  have l2 : (ad (ad S 120) 1).2 = S.2 + 2 := rfl
  refine s_ji ?_
  obtain ⟨x1, x2, x3⟩ := q0 F2
  have tail : ∀ (S' : (Nat → Nat) × Nat) (s : Mm), TapeC S'.1 S'.2 s → S'.2 + 3 < 65536 → Fr PSh ASh σ s → Ok (Option.bind (gR s (64 * 34 + 0)) fun o8 =>
Option.bind (gR s (64 * 34 + 1)) fun o9 =>
kf_c2 (F_Rows_sumOf n o9 (N tot) s) fun x10 σ11 =>
Option.bind (F_Tape_addNumber n o8 x10 σ11) fun σ12 =>
some σ12) (fun s => TapeC (adn S' (sumA R tot)).1 (adn S' (sumA R tot)).2 s ∧ Fr PSh ASh σ s) := by
    intro S' s t hl' f
    obtain ⟨y1, y2, y3⟩ := q0 f
    refine s_R y1.Writer_tape ?_
    refine s_R y1.Writer_rows ?_
    refine s_c (Rows_sumOf_eq rfl hn y1 ht hR y3) ?_
    refine (Ta_num y1 t rfl hl').bind ?_
    rintro s9 ⟨t9, f9⟩
    exact Ok.some ⟨t9, f.trans (u1 f9)⟩
  by_cases h0 : a = 0
  · subst h0
    rw [if_pos rfl]
    refine s_pos rfl ?_
    refine s_R x1.Writer_packer ?_
    refine (packPlain_ok rfl hn x1 h1 ht hR t2 x3 (by omega)).bind ?_
    rintro s3 ⟨t3, f3⟩
    exact tail _ s3 t3 (by rw [pln_2]; omega) (F2.trans (f3.mono (fun k h => h.elim (fun h => Or.inl (Or.inl h)) (fun h => Or.inr (Or.inr h))) (fun _ h => Or.inl h)))
  · rw [if_neg h0]
    refine s_neg (N_ne (by omega) (by decide) h0) ?_
    refine s_R x1.Writer_packer ?_
    refine (packShort_ok rfl hn x1 x2 ht hR t2 x3 (by omega)).bind ?_
    rintro s3 ⟨t3, f3⟩
    have := srt_2 (S := ad (ad S 120) 1) (R := R) (tot := tot)
    exact tail _ s3 t3 (by omega) (F2.trans f3)
set_option maxHeartbeats 4000000 in
theorem writeFile_ok {n p w h kd dp lc cc tc a : Nat} {sm co th : Nat → Nat} {y : Int32} {σ : Mm} (e2 : y = N a) (ha : a ≤ 1) (hn : 65536 < n) (hp : PtC σ) (hst : Stat σ) (hT : Turns σ) (h38 : isP p) (hv : PicV w h kd dp lc cc tc sm co th) (hC : PicC p w h kd dp lc cc tc sm co th σ) : Ok (F_Writer_writeFile n 34 p y σ) (fun s => ∃ R, RawR sm w h kd dp lc R ∧ TapeC (flE (flD (flT w h kd dp lc cc tc co th) R (bt w h lc (ch kd * dp) 8) a)).1 (flE (flD (flT w h kd dp lc cc tc co th) R (bt w h lc (ch kd * dp) 8) a)).2 s ∧ Fr PWf AWf σ s) := by
  subst e2
  obtain ⟨v1, v2, v3, v4, v5, v6, v7, v8⟩ := id hv
  have hp50 : p ≤ 50 := by rcases h38 with rfl | rfl <;> decide
  have hp38 : 38 ≤ p := by rcases h38 with rfl | rfl <;> decide
  have vb := v2.b
  have hcm := ch_mul v2
  have hT8 := bt_8 v1 hcm.2
  have q0 : ∀ {s : Mm}, Fr PWf AWf σ s → PtC s ∧ Stat s ∧ Turns s ∧ PicC p w h kd dp lc cc tc sm co th s := fun f => ⟨hp.fr' f PWf_C, fun a ha => by rw [f.B (by unfold AWf ASh AT A78; omega)]; exact hst a ha, hT.fr f (by decide), hC.fr f (fun k hk => by unfold UPc PLay at hk; unfold PWf PSh PCb PT PBd; omega) (fun a ha => by unfold UAc ALay at ha; unfold AWf ASh AT A78; omega)⟩
  have uT : ∀ {s s' : Mm}, Fr PT AT s s' → Fr PWf AWf s s' := fun f => f.mono (fun _ h => Or.inl (Or.inl (Or.inl h))) (fun _ h => Or.inl (Or.inl h))
  have uW : ∀ {s s' : Mm}, Fr PWr AT s s' → Fr PWf AWf s s' := fun f => f.mono (fun _ h => h.elim (fun h => Or.inl (Or.inl (Or.inl h))) Or.inr) (fun _ h => Or.inl (Or.inl h))
  have uS : ∀ {s s' : Mm}, Fr PSh ASh s s' → Fr PWf AWf s s' := fun f => f.mono (fun _ h => Or.inl h) (fun _ h => Or.inl h)
  have uR : ∀ {s s' : Mm}, Fr PN A78 s s' → Fr PWf AWf s s' := fun f => f.mono PN.e (fun _ h => Or.inr h)
  unfold F_Writer_writeFile
  refine s_R hp.Writer_tape ?_
  refine s_let (fun s0 h0 => ?_)
  have f0 : Fr PWf AWf σ s0 := by rw [h0]; exact Fr.wS Fr.rfl (Or.inl (Or.inl (Or.inl rfl))) _
  have t0 : TapeC z0S.1 z0S.2 s0 := ⟨by rw [h0]; exact gS_eq rfl, by decide, fun _ => (by decide : 0 < 256), fun i hi => absurd hi (Nat.not_lt_zero _)⟩
  clear h0
  refine s_let (fun x9 hx9 => ?_)
  have e8 : x9 = N 8 := hx9
  clear hx9
  subst e8
  refine ok_for 0 8 (fun i x s => x = N i ∧ TapeC (adl z0S (fun i => lob (mm_sc 100 i)) i).1 (adl z0S (fun i => lob (mm_sc 100 i)) i).2 s ∧ Fr PWf AWf σ s) ?_ (by omega) (by omega) ⟨rfl, t0, f0⟩
  clear t0 f0 s0
  rintro i k9 x s - hi ⟨rfl, t, f⟩ ih
  obtain ⟨x1, x2, x3, x4⟩ := q0 f
  by_cases hi8 : i = 8
  · subst hi8
    clear ih
    rw [mark_eq] at t
    have hm2 : mrk.2 = 8 := rfl
    refine s_pos (Int32.le_refl _) ?_
    obtain ⟨c0, c1, c2, c3, c4, c5, c6, c7, c8, c9, c10, c11⟩ := id x4
    refine (W_header hn x1 h38 x3 t v1 v2 c0 c1 c2 c3 c4 (by omega)).bind ?_
    rintro s1 ⟨t1, f1⟩
    have F1 := f.trans (uW f1)
    clear x1 x2 x3 x4 c0 c1 c2 c3 c4 c5 c6 c7 c8 c9 c10 c11
    obtain ⟨x1, x2, x3, x4⟩ := q0 F1
    obtain ⟨c0, c1, c2, c3, c4, c5, c6, c7, c8, c9, c10, c11⟩ := id x4
    have hh2 : (hdr mrk w h kd dp lc).2 = 33 := rfl
    refine s_ji ?_
    have stage3 : ∀ s, TapeC (flT w h kd dp lc cc tc co th).1 (flT w h kd dp lc cc tc co th).2 s → Fr PWf AWf σ s → Ok (Option.bind (gR s (64 * 34 + 1)) fun o14 =>
Option.bind (F_Rows_filterAll n o14 p s) fun σ15 =>
Option.bind (F_Writer_startPiece n 34 1229209940 σ15) fun σ16 =>
Option.bind (gR σ16 (64 * p + 11)) fun o17 =>
Option.bind (F_Writer_addPacked n 34 (gS σ16 (64 * o17 + 1)) (N a) σ16) fun σ18 =>
Option.bind (F_Writer_closePiece n 34 σ18) fun σ19 =>
Option.bind (F_Writer_startPiece n 34 1229278788 σ19) fun σ20 =>
Option.bind (F_Writer_closePiece n 34 σ20) fun σ21 =>
some σ21) (fun s => ∃ R, RawR sm w h kd dp lc R ∧ TapeC (flE (flD (flT w h kd dp lc cc tc co th) R (bt w h lc (ch kd * dp) 8) a)).1 (flE (flD (flT w h kd dp lc cc tc co th) R (bt w h lc (ch kd * dp) 8) a)).2 s ∧ Fr PWf AWf σ s) := by
      clear x1 x2 x3 x4 c0 c1 c2 c3 c4 c5 c6 c7 c8 c9 c10 c11 t t1 F1 f f1 s1
      intro s t f
      obtain ⟨x1, x2, x3, x4⟩ := q0 f
      have hS2 := flT_2 (w := w) (h := h) (kd := kd) (dp := dp) (lc := lc) (co := co) (th := th) v3 v4
      generalize flT w h kd dp lc cc tc co th = S at *
      refine s_R x1.Writer_rows ?_
      refine (Rows_filterAll_ok hn x1 h38 hv x4).bind ?_
      rintro s1 ⟨z1, f1⟩
      have F1 := f.trans (uR f1)
      obtain ⟨R, hR, zR⟩ := RawC_R z1
      have t1 : TapeC S.1 S.2 s1 := ⟨(f1.S id).trans t.1, t.2.1, t.2.2.1, fun i hi => by rw [f1.B (by decide)]; exact t.2.2.2 i hi⟩
      refine (W_start (ty := 1229209940) (q0 F1).1 t1 rfl (by omega)).bind ?_
      rintro s2 ⟨t2, g2, f2⟩
      have F2 := F1.trans (uW f2)
      clear x1 x2 x3 x4
      obtain ⟨x1, x2, x3, x4⟩ := q0 F2
      refine s_R (x1.pic_layout h38) ?_
      have hl8 := x4.2.2.2.2.2.2.2.2.1.2.1
      have ztot : 1 ≤ bt w h lc (ch kd * dp) 8 := bt_pos v1
      have zR2 : ∀ i, i < bt w h lc (ch kd * dp) 8 → gB s2 7 i = N (R i) := fun i hi => by rw [f2.B (by decide)]; exact zR i hi
      have hb2 : (bg S 1229209940).2 = S.2 + 8 := rfl
      refine (addPacked_ok hl8 rfl ha hn x1 x2 ztot hT8 hR.1 t2 zR2 (by omega)).bind ?_
      rintro s3 ⟨t3, f3⟩
      have F3 := F2.trans (uS f3)
      have hP2 := flP_2 (S := S) (R := R) (tot := bt w h lc (ch kd * dp) 8) (a := a) hS2 hT8
      have hPl := flP_lo (S := S) (R := R) (tot := bt w h lc (ch kd * dp) 8) (a := a)
      rw [show (if a = 0 then pln (ad (ad (bg S 1229209940) 120) 1) R (bt w h lc (ch kd * dp) 8) else srt (ad (ad (bg S 1229209940) 120) 1) R (bt w h lc (ch kd * dp) 8)) = flP S R (bt w h lc (ch kd * dp) 8) a from rfl] at t3
      have a2 : (adn (flP S R (bt w h lc (ch kd * dp) 8) a) (sumA R (bt w h lc (ch kd * dp) 8))).2 = (flP S R (bt w h lc (ch kd * dp) 8) a).2 + 4 := rfl
      clear x1 x2 x3 x4
      obtain ⟨x1, x2, x3, x4⟩ := q0 F3
      refine (W_close (st := S.2) hn x1 x3 t3 ((f3.S (by decide)).trans g2) (by omega) (by omega)).bind ?_
      rintro s4 ⟨t4, f4⟩
      have F4 := F3.trans (uT f4)
      have t4' : TapeC (flD S R (bt w h lc (ch kd * dp) 8) a).1 (flD S R (bt w h lc (ch kd * dp) 8) a).2 s4 := t4
      have hD2 : (flD S R (bt w h lc (ch kd * dp) 8) a).2 = (flP S R (bt w h lc (ch kd * dp) 8) a).2 + 8 := rfl
      obtain ⟨D, hD⟩ : ∃ D, flD S R (bt w h lc (ch kd * dp) 8) a = D := ⟨_, rfl⟩
      rw [hD] at t4' hD2
      refine (W_start (ty := 1229278788) (q0 F4).1 t4' rfl (by omega)).bind ?_
      rintro s5 ⟨t5, g5, f5⟩
      have F5 := F4.trans (uW f5)
      have hb5 : (bg D 1229278788).2 = D.2 + 8 := rfl
      refine (W_close (st := D.2) hn (q0 F5).1 (q0 F5).2.2.1 t5 g5 (by omega) (by omega)).bind ?_
      rintro s6 ⟨t6, f6⟩
      exact Ok.some ⟨R, hR, by rw [hD]; exact t6, F5.trans (uT f6)⟩
    have stage2 : ∀ s, TapeC (colS (hdr mrk w h kd dp lc) cc co).1 (colS (hdr mrk w h kd dp lc) cc co).2 s → Fr PWf AWf σ s → Ok (kf_j (α := Unit) (fun x12 σ13 =>
Option.bind (gR σ13 (64 * 34 + 1)) fun o14 =>
Option.bind (F_Rows_filterAll n o14 p σ13) fun σ15 =>
Option.bind (F_Writer_startPiece n 34 1229209940 σ15) fun σ16 =>
Option.bind (gR σ16 (64 * p + 11)) fun o17 =>
Option.bind (F_Writer_addPacked n 34 (gS σ16 (64 * o17 + 1)) (N a) σ16) fun σ18 =>
Option.bind (F_Writer_closePiece n 34 σ18) fun σ19 =>
Option.bind (F_Writer_startPiece n 34 1229278788 σ19) fun σ20 =>
Option.bind (F_Writer_closePiece n 34 σ20) fun σ21 =>
some σ21) fun k11 =>
if (gS s (64 * p + 7)) ≤ 0 then (
k11 () s) else (
Option.bind (F_Writer_addThins n 34 p s) fun σ22 =>
k11 () σ22)) (fun s => ∃ R, RawR sm w h kd dp lc R ∧ TapeC (flE (flD (flT w h kd dp lc cc tc co th) R (bt w h lc (ch kd * dp) 8) a)).1 (flE (flD (flT w h kd dp lc cc tc co th) R (bt w h lc (ch kd * dp) 8) a)).2 s ∧ Fr PWf AWf σ s) := by
      clear x1 x2 x3 x4 c0 c1 c2 c3 c4 c5 c6 c7 c8 c9 c10 c11 t t1 F1 f f1 s1
      intro s t f
      obtain ⟨x1, x2, x3, x4⟩ := q0 f
      obtain ⟨c0, c1, c2, c3, c4, c5, c6, c7, c8, c9, c10, c11⟩ := id x4
      have hc2 := colS_2 (S := hdr mrk w h kd dp lc) (cc := cc) (co := co)
      refine s_ji ?_
      by_cases hz : tc = 0
      · refine s_pos (by rw [c7, hz]; decide) (stage3 s ?_ f)
        have : flT w h kd dp lc cc tc co th = colS (hdr mrk w h kd dp lc) cc co := if_pos hz
        rw [this]
        exact t
      · refine s_neg (by rw [c7, show (0 : Int32) = N 0 from rfl, N_le (by omega) (by decide)]; omega) ?_
        refine (W_thins hn x1 h38 x3 t v4 (by omega) c2 c7 c11 (by omega)).bind ?_
        rintro s1 ⟨t1, f1⟩
        refine stage3 s1 ?_ (f.trans (uW f1))
        have : flT w h kd dp lc cc tc co th = trns (colS (hdr mrk w h kd dp lc) cc co) kd tc th := if_neg hz
        rw [this]
        exact t1
    by_cases hz : cc = 0
    · refine s_pos (by rw [c6, hz]; decide) (stage2 s1 ?_ F1)
      have : colS (hdr mrk w h kd dp lc) cc co = hdr mrk w h kd dp lc := if_pos hz
      rw [this]
      exact t1
    · refine s_neg (by rw [c6, show (0 : Int32) = N 0 from rfl, N_le (by omega) (by decide)]; omega) ?_
      refine (W_colours hn x1 h38 x3 t1 v3 v7 c6 c10 (by omega)).bind ?_
      rintro s2 ⟨t2, f2⟩
      refine stage2 s2 ?_ (F1.trans (uW f2))
      have : colS (hdr mrk w h kd dp lc) cc co = plte (hdr mrk w h kd dp lc) cc co := if_neg hz
      rw [this]
      exact t2
  · refine s_neg (by rw [N_le (by omega) (by omega)]; omega) ?_
    refine s_in rfl (show i < 8 by omega) (by omega) ?_
    refine s_let (fun x9 hx9 => ?_)
    rw [N_nat (by omega), x2 100 (by decide)] at hx9
    subst hx9
    refine s_R x1.Writer_tape ?_
    have la := adl_2 (S := z0S) (f := fun i => lob (mm_sc 100 i)) (k := i)
    have lz : z0S.2 = 0 := rfl
    refine (Ta_add (v := lob (mm_sc 100 i)) x1 t rfl (by omega)).bind ?_
    rintro s1 ⟨t1, f1⟩
    refine s_let (fun x9 hx9 => ?_)
    rw [N_one, N_add] at hx9
    subst hx9
    exact ih (by omega) _ _ ⟨rfl, t1, f.trans (uT f1)⟩
