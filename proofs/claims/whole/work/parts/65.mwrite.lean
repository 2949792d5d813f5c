/-! THE REFERENCE WRITES -/
abbrev PMw (k : Nat) : Prop := PLm k ∨ PMb k ∨ k = 4086 ∨ k = 4032
abbrev AMw (a : Nat) : Prop := ALm a ∨ AMf a
theorem PMw_M (k : Nat) (h : PMw k) : mptr.all (fun q => q.1 != k) = true := by
  rcases h with h | h | h | h
  · exact PLm_M k h
  · exact PMb_M k h
  · subst h; decide
  · subst h; decide
set_option maxHeartbeats 8000000 in
theorem Md_write_ok {n w h kd dp lc cc tc a : Nat} {sm co th : Nat → Nat} {R : Nat → Nat} {y : Int32} {σ : Mm} (e2 : y = N a) (ha : a ≤ 1) (hn : 65536 < n) (hp : PtM σ) (hrg : Rng σ) (his : gS σ 4037 = N 1) (hv : PicV w h kd dp lc cc tc sm co th) (hM : PicM w h kd dp lc cc tc sm co th σ) (hR : RawR sm w h kd dp lc R) : Ok (F_Md_write n 63 y σ) (fun r => r.1 = N (flE (flD (flT w h kd dp lc cc tc co th) R (bt w h lc (ch kd * dp) 8) a)).2 ∧ gS r.2 4032 = N 0 ∧ TapeM (flE (flD (flT w h kd dp lc cc tc co th) R (bt w h lc (ch kd * dp) 8) a)).1 (flE (flD (flT w h kd dp lc cc tc co th) R (bt w h lc (ch kd * dp) 8) a)).2 r.2 ∧ Fr PMw AMw σ r.2) := by
  subst e2
  obtain ⟨v1, v2, v3, v4, v5, v6, v7, v8⟩ := id hv
  have vb := v2.b
  have hcm := ch_mul v2
  have hT8 := bt_8 v1 hcm.2
  have hB8 := bs_8 v1
  have ztot : 1 ≤ bt w h lc (ch kd * dp) 8 := bt_pos v1
  have q0 : ∀ {s : Mm}, Fr PMw AMw σ s → PtM s ∧ PicM w h kd dp lc cc tc sm co th s := fun f => ⟨hp.fr' f PMw_M, hM.fr f (fun k hk => by unfold UPm at hk; unfold PMw PLm PRw PMb; omega) (fun a ha => by unfold UAm at ha; unfold AMw ALm ARw AMf; omega)⟩
  have uL : ∀ {s s' : Mm}, Fr PMl AMf s s' → Fr PMw AMw s s' := fun f => f.mono (fun _ h => Or.inr (Or.inl (Or.inl h))) (fun _ h => Or.inr h)
  have uP : ∀ {s s' : Mm}, Fr PMp AMf s s' → Fr PMw AMw s s' := fun f => f.mono (fun _ h => h.elim (fun h => Or.inr (Or.inl (Or.inl h))) (fun h => Or.inr (Or.inr (Or.inl h)))) (fun _ h => Or.inr h)
  have uB : ∀ {s s' : Mm}, Fr PMb AMf s s' → Fr PMw AMw s s' := fun f => f.mono (fun _ h => Or.inr (Or.inl h)) (fun _ h => Or.inr h)
  have uM : ∀ {s s' : Mm}, Fr PLm ALm s s' → Fr PMw AMw s s' := fun f => f.mono (fun _ h => Or.inl h) (fun _ h => Or.inl h)
  have u7 : ∀ {s s' : Mm}, Fr PN A73 s s' → Fr PMw AMw s s' := fun f => f.mono PN.e (fun _ h => Or.inl (Or.inr h))
  unfold F_Md_write
  refine s_ji ?_
  refine s_neg (by rw [his]; decide) ?_
  refine s_let (fun s0 h0 => ?_)
  have f0 : Fr PMw AMw σ s0 := by rw [h0]; exact Fr.wS Fr.rfl (Or.inr (Or.inr (Or.inr rfl))) _
  have c0 : gS s0 4032 = N 0 := by rw [h0]; exact gS_eq rfl
  have r0 : Rng s0 := by rw [h0]; exact hrg
  clear h0
  refine s_pos (by rw [c0]; decide) ?_
  refine ((Md_lay_ok (by omega) (q0 f0).1 hv (q0 f0).2).and (pr_Md_lay (CM_IM s0) (IM_0 (q0 f0).1 r0))).bind ?_
  rintro s1 ⟨⟨a1, a2, a3, a4, f1⟩, -, r1, -⟩
  have F1 := f0.trans (uM f1)
  have c1 : gS s1 4032 = N 0 := (f1.S (by decide)).trans c0
  refine s_let (fun x9 hx9 => ?_)
  rw [a1.1, show (1 : Int32) = N 1 from rfl] at hx9
  subst hx9
  refine Md_filt_ok hn (q0 F1).1 v1 v2 a1 a3 a4 a2 r1 ?_
  intro s2 z2 r2 f2
  have F2 := F1.trans (u7 f2)
  have c2 : gS s2 4032 = N 0 := (f2.S id).trans c1
  have zR := RawF_R hR z2
  have g2 : gS s2 4071 = N (bt w h lc (ch kd * dp) 8) := (f2.S id).trans a1.2.1
  clear a1 a2 a3 a4 f1 r1 F1 c1 z2 f2
  -- from here on rows, raw and code stay
  have keep : ∀ {s : Mm}, Fr (fun k => PMb k ∨ k = 4086) AMf s2 s → PtM s ∧ PicM w h kd dp lc cc tc sm co th s ∧ gS s 4071 = N (bt w h lc (ch kd * dp) 8) ∧ (∀ i, i < bt w h lc (ch kd * dp) 8 → gB s 73 i &&& N 255 = N (R i)) ∧ Rng s ∧ gS s 4032 = N 0 ∧ Fr PMw AMw σ s := fun f => by
    have F := F2.trans (f.mono (P' := PMw) (A' := AMw) (fun _ h => h.elim (fun h => Or.inr (Or.inl h)) (fun h => Or.inr (Or.inr (Or.inl h)))) (fun _ h => Or.inr h))
    exact ⟨(q0 F).1, (q0 F).2, (f.S (by decide)).trans g2, fun i hi => by rw [f.B (by decide)]; exact zR i hi, r2.fr f (by decide), (f.S (by decide)).trans c2, F⟩
  have kL : ∀ {s s' : Mm}, Fr PMl AMf s s' → Fr (fun k => PMb k ∨ k = 4086) AMf s s' := fun f => f.mono (fun _ h => Or.inl (Or.inl h)) (fun _ h => h)
  have kP : ∀ {s s' : Mm}, Fr PMp AMf s s' → Fr (fun k => PMb k ∨ k = 4086) AMf s s' := fun f => f.mono (fun _ h => h.elim (fun h => Or.inl (Or.inl h)) Or.inr) (fun _ h => h)
  have kB : ∀ {s s' : Mm}, Fr PMb AMf s s' → Fr (fun k => PMb k ∨ k = 4086) AMf s s' := fun f => f.mono (fun _ h => Or.inl h) (fun _ h => h)
  refine s_let (fun s3 h3 => ?_)
  have f3 : Fr (fun k => PMb k ∨ k = 4086) AMf s2 s3 := by rw [h3]; exact Fr.wS Fr.rfl (Or.inl (Or.inl rfl)) _
  have t3 : TapeM z0S.1 z0S.2 s3 := ⟨by rw [h3]; exact gS_eq rfl, fun i hi => absurd hi (Nat.not_lt_zero _)⟩
  clear h3
  have z00 : z0S.2 = 0 := rfl
  refine (Md_putLong_ok (v := 2303741511) (by omega) (keep f3).1 t3 rfl (by decide) (by omega)).bind ?_
  rintro s4 ⟨t4, f4'⟩
  have f4 := f3.trans (kL f4')
  have l4 : (adn z0S 2303741511).2 = 4 := rfl
  refine (Md_putLong_ok (v := 218765834) (by omega) (keep f4).1 t4 rfl (by decide) (by omega)).bind ?_
  rintro s5 ⟨t5, f5'⟩
  have f5 := f4.trans (kL f5')
  rw [show adn (adn z0S 2303741511) 218765834 = mrk from rfl] at t5
  have lm : mrk.2 = 8 := rfl
  have bm : Sb mrk := adn_b (adn_b (fun _ => (by decide : 0 < 256)))
  refine (M_begin (ty := 1229472850) (by omega) (keep f5).1 t5 (by decide) (by decide) (by decide) (by decide) (by omega)).bind ?_
  rintro s6 ⟨t6, g6, f6'⟩
  have f6 := f5.trans (kP f6')
  obtain ⟨x1, ⟨m0, m1, m2, m3, m4, m5, m6, m7, m8, m9⟩, -⟩ := keep f6
  have l6 : (bg mrk 1229472850).2 = 16 := rfl
  obtain ⟨w1, w2, h1, h2, lcb⟩ := id v1
  refine (Md_putLong_ok (v := w) (by omega) x1 t6 (by rw [m0, N_long (by omega)]) (by omega) (by omega)).bind ?_
  rintro s7 ⟨t7, f7'⟩
  have f7 := f6.trans (kL f7')
  clear x1 m0 m1 m2 m3 m4 m5 m6 m7 m8 m9
  obtain ⟨x1, ⟨m0, m1, m2, m3, m4, m5, m6, m7, m8, m9⟩, -⟩ := keep f7
  have l7 : (adn (bg mrk 1229472850) w).2 = 20 := rfl
  refine (Md_putLong_ok (v := h) (by omega) x1 t7 (by rw [m1, N_long (by omega)]) (by omega) (by omega)).bind ?_
  rintro s8 ⟨t8, f8'⟩
  have f8 := f7.trans (kL f8')
  clear x1 m0 m1 m2 m3 m4 m5 m6 m7 m8 m9
  obtain ⟨x1, ⟨m0, m1, m2, m3, m4, m5, m6, m7, m8, m9⟩, -⟩ := keep f8
  have l8 : (adn (adn (bg mrk 1229472850) w) h).2 = 24 := rfl
  refine (Md_put_ok (v := dp) x1 t8 (by rw [m3]; exact lob_small (by omega)) (by omega)).bind ?_
  rintro s9 ⟨t9, f9'⟩
  have f9 := f8.trans (kL f9')
  clear x1 m0 m1 m2 m3 m4 m5 m6 m7 m8 m9
  obtain ⟨x1, ⟨m0, m1, m2, m3, m4, m5, m6, m7, m8, m9⟩, -⟩ := keep f9
  have l9 : (ad (adn (adn (bg mrk 1229472850) w) h) dp).2 = 25 := rfl
  refine (Md_put_ok (v := kd) x1 t9 (by rw [m2]; exact lob_small (by omega)) (by omega)).bind ?_
  rintro s10 ⟨t10, f10'⟩
  have f10 := f9.trans (kL f10')
  have l10 : (ad (ad (adn (adn (bg mrk 1229472850) w) h) dp) kd).2 = 26 := rfl
  refine (Md_put_ok (v := 0) (keep f10).1 t10 (by decide) (by omega)).bind ?_
  rintro s11 ⟨t11, f11'⟩
  have f11 := f10.trans (kL f11')
  have l11 : (ad (ad (ad (adn (adn (bg mrk 1229472850) w) h) dp) kd) 0).2 = 27 := rfl
  refine (Md_put_ok (v := 0) (keep f11).1 t11 (by decide) (by omega)).bind ?_
  rintro s12 ⟨t12, f12'⟩
  have f12 := f11.trans (kL f12')
  have l12 : (ad (ad (ad (ad (adn (adn (bg mrk 1229472850) w) h) dp) kd) 0) 0).2 = 28 := rfl
  clear x1 m0 m1 m2 m3 m4 m5 m6 m7 m8 m9
  obtain ⟨x1, ⟨m0, m1, m2, m3, m4, m5, m6, m7, m8, m9⟩, -⟩ := keep f12
  have g12 : gS s12 4086 = N mrk.2 := by rw [f12'.S (by decide), f11'.S (by decide), f10'.S (by decide), f9'.S (by decide), f8'.S (by decide), f7'.S (by decide)]; exact g6
  clear t3 t4 t5 t6 t7 t8 t9 t10 t11 f3 f4 f5 f6 f7 f8 f9 f10 f11 f4' f5' f6' f7' f8' f9' f10' f11' f12' g6
  refine s_ji ?_
  have rest : ∀ v : Int32, v = N lc → Ok (
Option.bind (F_Md_put n 63 v s12) fun σ23 =>
Option.bind (F_Md_endPiece n 63 σ23) fun σ24 =>
Option.bind (F_Md_writeColours n 63 σ24) fun σ25 =>
Option.bind (F_Md_beginPiece n 63 73 68 65 84 σ25) fun σ26 =>
Option.bind (F_Md_put n 63 120 σ26) fun σ27 =>
Option.bind (F_Md_put n 63 1 σ27) fun σ28 =>
kf_j (α := Unit) (fun x30 σ31 =>
kf_c2 (F_Md_sumOf n 63 (gS σ31 (64 * 63 + 39)) σ31) fun x32 σ33 =>
Option.bind (F_Md_putLong n 63 x32 σ33) fun σ34 =>
Option.bind (F_Md_endPiece n 63 σ34) fun σ35 =>
Option.bind (F_Md_beginPiece n 63 73 69 78 68 σ35) fun σ36 =>
Option.bind (F_Md_endPiece n 63 σ36) fun σ37 =>
some (gS σ37 (64 * 63 + 2), σ37)) fun k29 =>
if N a = 0 then (
Option.bind (F_Md_writePlain n 63 σ28) fun σ38 =>
k29 () σ38) else (
Option.bind (F_Md_writeShort n 63 σ28) fun σ39 =>
k29 () σ39)) (fun r => r.1 = N (flE (flD (flT w h kd dp lc cc tc co th) R (bt w h lc (ch kd * dp) 8) a)).2 ∧ gS r.2 4032 = N 0 ∧ TapeM (flE (flD (flT w h kd dp lc cc tc co th) R (bt w h lc (ch kd * dp) 8) a)).1 (flE (flD (flT w h kd dp lc cc tc co th) R (bt w h lc (ch kd * dp) 8) a)).2 r.2 ∧ Fr PMw AMw σ r.2) := by
    rintro v rfl
    refine (Md_put_ok (v := lc) x1 t12 (lob_small (by omega)) (by omega)).bind ?_
    rintro s13 ⟨t13, f13'⟩
    have f13 := f12.trans (kL f13')
    have l13 : (ad (ad (ad (ad (ad (adn (adn (bg mrk 1229472850) w) h) dp) kd) 0) 0) lc).2 = 29 := rfl
    have b13 : Sb (ad (ad (ad (ad (ad (adn (adn (bg mrk 1229472850) w) h) dp) kd) 0) 0) lc) := ad_b (ad_b (ad_b (ad_b (ad_b (adn_b (adn_b (bg_b bm))) (by omega)) (by omega)) (by decide)) (by decide)) (by omega)
    refine (M_end (st := mrk.2) hn (keep f13).1 t13 b13 ((f13'.S (by decide)).trans g12) (by omega) (by omega)).bind ?_
    rintro s14 ⟨t14, f14'⟩
    have f14 := f13.trans (kL f14')
    have t14' : TapeM (hdr mrk w h kd dp lc).1 (hdr mrk w h kd dp lc).2 s14 := t14
    have l14 : (hdr mrk w h kd dp lc).2 = 33 := rfl
    have b14 : Sb (hdr mrk w h kd dp lc) := hdr_b bm (by omega) (by omega) (by omega)
    obtain ⟨y1, ⟨n0, n1, n2, n3, n4, n5, n6, n7, n8, n9⟩, -⟩ := keep f14
    refine (M_colours hn y1 t14' b14 v3 v4 (by omega) v7 n2 n5 n6 n8 n9 (by omega)).bind ?_
    rintro s15 ⟨t15, f15'⟩
    have f15 := f14.trans (kP f15')
    have t15' : TapeM (flT w h kd dp lc cc tc co th).1 (flT w h kd dp lc cc tc co th).2 s15 := t15
    have hS2 := flT_2 (w := w) (h := h) (kd := kd) (dp := dp) (lc := lc) (co := co) (th := th) v3 v4
    have bS : Sb (flT w h kd dp lc cc tc co th) := flT_b (by omega) (by omega) (by omega) v7
    clear t12 t13 t14 t14' t15 x1 m0 m1 m2 m3 m4 m5 m6 m7 m8 m9 n0 n1 n2 n3 n4 n5 n6 n7 n8 n9 y1 b13 b14 f12 f13 f14 f13' f14' f15'
    generalize flT w h kd dp lc cc tc co th = S at *
    refine (M_begin (ty := 1229209940) (by omega) (keep f15).1 t15' (by decide) (by decide) (by decide) (by decide) (by omega)).bind ?_
    rintro s16 ⟨t16, g16, f16'⟩
    have f16 := f15.trans (kP f16')
    have l16 : (bg S 1229209940).2 = S.2 + 8 := rfl
    refine (Md_put_ok (v := 120) (keep f16).1 t16 (by decide) (by omega)).bind ?_
    rintro s17 ⟨t17, f17'⟩
    have f17 := f16.trans (kL f17')
    have l17 : (ad (bg S 1229209940) 120).2 = S.2 + 9 := rfl
    refine (Md_put_ok (v := 1) (keep f17).1 t17 (by decide) (by omega)).bind ?_
    rintro s18 ⟨t18, f18'⟩
    have f18 := f17.trans (kL f18')
    have l18 : (ad (ad (bg S 1229209940) 120) 1).2 = S.2 + 10 := rfl
    have g18 : gS s18 4086 = N S.2 := by rw [f18'.S (by decide), f17'.S (by decide)]; exact g16
    have hP2 := flP_2 (S := S) (R := R) (tot := bt w h lc (ch kd * dp) 8) (a := a) hS2 hT8
    have hPl := flP_lo (S := S) (R := R) (tot := bt w h lc (ch kd * dp) 8) (a := a)
    have hPb : Sb (flP S R (bt w h lc (ch kd * dp) 8) a) := flP_b bS hR.1
    refine s_ji ?_
    have tail : ∀ s, TapeM (flP S R (bt w h lc (ch kd * dp) 8) a).1 (flP S R (bt w h lc (ch kd * dp) 8) a).2 s → gS s 4086 = N S.2 → Fr (fun k => PMb k ∨ k = 4086) AMf s2 s → Ok (
kf_c2 (F_Md_sumOf n 63 (gS s (64 * 63 + 39)) s) fun x32 σ33 =>
Option.bind (F_Md_putLong n 63 x32 σ33) fun σ34 =>
Option.bind (F_Md_endPiece n 63 σ34) fun σ35 =>
Option.bind (F_Md_beginPiece n 63 73 69 78 68 σ35) fun σ36 =>
Option.bind (F_Md_endPiece n 63 σ36) fun σ37 =>
some (gS σ37 (64 * 63 + 2), σ37)) (fun r => r.1 = N (flE (flD S R (bt w h lc (ch kd * dp) 8) a)).2 ∧ gS r.2 4032 = N 0 ∧ TapeM (flE (flD S R (bt w h lc (ch kd * dp) 8) a)).1 (flE (flD S R (bt w h lc (ch kd * dp) 8) a)).2 r.2 ∧ Fr PMw AMw σ r.2) := by
      intro s t g f
      obtain ⟨y1, y2, y3, y4, y5, y6, y7⟩ := keep f
      refine s_c (Md_sumOf_eq y3 hn y1 hT8 hR.1 y4) ?_
      have hs := sumA_lt R (bt w h lc (ch kd * dp) 8)
      refine (Md_putLong_ok (v := sumA R (bt w h lc (ch kd * dp) 8)) (by omega) y1 t rfl hs (by omega)).bind ?_
      rintro s20 ⟨t20, f20'⟩
      have f20 := f.trans (kL f20')
      have l20 : (adn (flP S R (bt w h lc (ch kd * dp) 8) a) (sumA R (bt w h lc (ch kd * dp) 8))).2 = (flP S R (bt w h lc (ch kd * dp) 8) a).2 + 4 := rfl
      refine (M_end (st := S.2) hn (keep f20).1 t20 (adn_b hPb) ((f20'.S (by decide)).trans g) (by omega) (by omega)).bind ?_
      rintro s21 ⟨t21, f21'⟩
      have f21 := f20.trans (kL f21')
      have t21' : TapeM (flD S R (bt w h lc (ch kd * dp) 8) a).1 (flD S R (bt w h lc (ch kd * dp) 8) a).2 s21 := t21
      have hD2 : (flD S R (bt w h lc (ch kd * dp) 8) a).2 = (flP S R (bt w h lc (ch kd * dp) 8) a).2 + 8 := rfl
      have bD : Sb (flD S R (bt w h lc (ch kd * dp) 8) a) := cl_b (adn_b hPb)
      clear t21
      generalize flD S R (bt w h lc (ch kd * dp) 8) a = D at *
      refine (M_begin (ty := 1229278788) (by omega) (keep f21).1 t21' (by decide) (by decide) (by decide) (by decide) (by omega)).bind ?_
      rintro s22 ⟨t22, g22, f22'⟩
      have f22 := f21.trans (kP f22')
      have l22 : (bg D 1229278788).2 = D.2 + 8 := rfl
      refine (M_end (st := D.2) hn (keep f22).1 t22 (bg_b bD) g22 (by omega) (by omega)).bind ?_
      rintro s23 ⟨t23, f23'⟩
      have f23 := f22.trans (kL f23')
      obtain ⟨w1', w2', w3', w4', w5', w6', w7'⟩ := keep f23
      exact Ok.some ⟨t23.1, w6', t23, w7'⟩
    obtain ⟨y1, y2, y3, y4, y5, y6, y7⟩ := keep f18
    by_cases h0 : a = 0
    · subst h0
      refine s_pos rfl ?_
      refine (writePlain_ok hn y1 ztot hT8 hR.1 t18 y3 y4 (by omega)).bind ?_
      rintro s19 ⟨t19, f19⟩
      exact tail s19 t19 ((f19.S (by decide)).trans g18) (f18.trans (kL f19))
    · refine s_neg (N_ne (by omega) (by decide) h0) ?_
      refine (writeShort_ok hn y1 hT8 hR.1 t18 y3 y5 y4 (by omega)).bind ?_
      rintro s19 ⟨t19, f19⟩
      refine tail s19 ?_ ((f19.S (by decide)).trans g18) (f18.trans (kB f19))
      have : flP S R (bt w h lc (ch kd * dp) 8) a = srt (ad (ad (bg S 1229209940) 120) 1) R (bt w h lc (ch kd * dp) 8) := if_neg h0
      rw [this]
      exact t19
  by_cases hz : lc = 0
  · refine s_pos (by rw [m4, hz]; decide) ?_
    exact rest 0 (by rw [hz]; rfl)
  · refine s_neg (by rw [m4]; exact N_ne (by omega) (by decide) hz) ?_
    exact rest 1 (by rw [show lc = 1 by omega]; rfl)
