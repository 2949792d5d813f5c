/-! THE REFERENCE FILTERS ITS ROWS, from the last to the first -/
/-- rows from k on are filtered, those below are plain -/
def RawF (sm : Nat → Nat) (w h kd dp lc k : Nat) (s : Mm) : Prop := ∀ q l, q < 8 → l < ln w h lc q → (k ≤ bs w h lc q + l → gB s 73 (ro w h lc (ch kd * dp) q l) &&& N 255 = N (fil sm w kd dp q l)) ∧ ∀ i, i < rb w (ch kd * dp) q → gB s 73 (ro w h lc (ch kd * dp) q l + 1 + i) &&& N 255 = N (if k ≤ bs w h lc q + l then wrB sm w kd dp q l i else RB sm w kd dp q l i)
theorem sub_and {a : Int32} {A b : Nat} (ha : a &&& N 255 = N A) (hA : A < 256) (hb : b < 256) : vp_nar .byte ((a - N b).toInt8.toInt32) &&& N 255 = N (dif A b) := by
  rw [sb_and]
  congr 1
  apply lob_eq _ (dif_lt _ _)
  rw [← N_dif hA hb, ← ha]
  apply Int32.toBitVec_inj.1
  show (a.toBitVec - (N b).toBitVec) &&& 255#32 = ((a.toBitVec &&& 255#32) - (N b).toBitVec) &&& 255#32
  generalize a.toBitVec = x
  generalize (N b).toBitVec = y
  apply BitVec.eq_of_toNat_eq
  simp only [BitVec.toNat_and, BitVec.toNat_sub, BitVec.toNat_ofNat]
  rw [show (255 % 2 ^ 32 : Nat) = 255 from rfl, and255, and255, and255]
  omega
set_option maxHeartbeats 8000000 in
theorem Md_filt_ok {n w h kd dp lc : Nat} {sm : Nat → Nat} {σ : Mm} {X : Type} {REST : Mm → Option X} {Q : X → Prop} (hn : 65536 < n) (hp : PtM σ) (v1 : Hd w h lc) (v2 : kdOk kd dp) (hR : RowsM w h lc (ch kd * dp) σ) (hrk : gS σ 4084 = N kd) (hrd : gS σ 4085 = N dp) (h0 : RawM sm w h kd dp lc (bs w h lc 8) σ) (hr0 : Rng σ) (hrest : ∀ s, RawF sm w h kd dp lc 0 s → Rng s → Fr PN A73 σ s → Ok (REST s) Q) : Ok (kf_l (α := Int32) n (fun k7 x8 σ9 =>
      if x8 < 0 then REST σ9 else (
      kf_c2 (F_Md_bestFilter n 63 x8 σ9) fun x40 σ41 =>
      Option.bind (gR σ41 (64 * 63 + 30)) fun o42 =>
      Option.bind (gR σ41 (64 * 63 + 35)) fun o43 =>
      kf_in x8 (mm_kd o43).2.2 <|
      kf_in (gB σ41 o43 x8.toNatClampNeg) (mm_kd o42).2.2 <| kf_let (pB σ41 o42 (gB σ41 o43 x8.toNatClampNeg).toNatClampNeg (vp_nar .byte x40.toInt8.toInt32)) fun σ44 =>
      Option.bind (gR σ44 (64 * 63 + 36)) fun o45 =>
      kf_in x8 (mm_kd o45).2.2 <|
      kf_let ((gB σ44 o45 x8.toNatClampNeg) - 1 : Int32) fun x46 =>
      kf_l (α := Int32) n (fun k47 x48 σ49 =>
      if x48 < 0 then (
      kf_let (x8 + Int32.ofInt (-1)) fun x50 =>
      k7 x50 σ49) else (
      Option.bind (gR σ49 (64 * 63 + 35)) fun o51 =>
      kf_in x8 (mm_kd o51).2.2 <|
      kf_let (((gB σ49 o51 x8.toNatClampNeg) + 1) + x48 : Int32) fun x52 =>
      Option.bind (gR σ49 (64 * 63 + 30)) fun o53 =>
      Option.bind (gR σ49 (64 * 63 + 30)) fun o54 =>
      kf_in x52 (mm_kd o54).2.2 <|
      kf_c2 (F_Md_guess n 63 x40 x8 x48 σ49) fun x55 σ56 =>
      kf_in x52 (mm_kd o53).2.2 <| kf_let (pB σ56 o53 x52.toNatClampNeg (vp_nar .byte (((gB σ49 o54 x52.toNatClampNeg) - x55).toInt8.toInt32))) fun σ57 =>
      kf_let (x48 + Int32.ofInt (-1)) fun x58 =>
      k47 x58 σ57)) x46 σ44)) (N (bs w h lc 8) - N 1) σ) Q := by
  have hB8 := bs_8 v1
  have hcm := ch_mul v2
  have hT8 := bt_8 v1 hcm.2
  have fld : ∀ {s : Mm}, Fr PN A73 σ s → PtM s ∧ RowsM w h lc (ch kd * dp) s ∧ gS s 4084 = N kd ∧ gS s 4085 = N dp := fun f => ⟨hp.fr' f PN.e, hR.fr f id id (fun a ha => by unfold ARw at ha; unfold A73; omega), (f.S id).trans hrk, (f.S id).trans hrd⟩
  refine ok_for 0 (bs w h lc 8) (fun j x s => x = N (bs w h lc 8) - N (j + 1) ∧ RawF sm w h kd dp lc (bs w h lc 8 - j) s ∧ Rng s ∧ Fr PN A73 σ s) ?_ (by omega) (by omega) ⟨rfl, ?_, hr0, Fr.rfl⟩
  · rintro j k9 x s - hj ⟨rfl, z1, rg, f1⟩ ih
    obtain ⟨x1, x2, x3, x4⟩ := fld f1
    by_cases hj2 : j = bs w h lc 8
    · subst hj2
      refine s_pos ?_ ?_
      · exact N_sub_neg (by omega) (by omega)
      · rw [Nat.sub_self] at z1
        exact hrest s z1 rg f1
    · obtain ⟨r, hr⟩ : ∃ r, bs w h lc 8 - (j + 1) = r := ⟨_, rfl⟩
      have e1 : N (bs w h lc 8) - N (j + 1) = N r := by rw [N_sub (by omega), hr]
      have nxt : N r + Int32.ofInt (-1) = N (bs w h lc 8) - N (j + 1 + 1) := by rw [← e1, sub_m1]
      rw [e1]
      have hk1 : bs w h lc 8 - j = r + 1 := by omega
      rw [hk1] at z1
      refine s_neg (N_nlt (by omega)) ?_
      obtain ⟨q, l, hq, hl, hk0⟩ := row_ex (show r < bs w h lc 8 by omega)
      have hkq := hk0.symm
      clear hk0
      have hrt := ro_lt (bits := ch kd * dp) hq hl
      have hup : 0 < l → ro w h lc (ch kd * dp) q l = ro w h lc (ch kd * dp) q (l - 1) + (1 + rb w (ch kd * dp) q) := fun h0 => by
        have : ro w h lc (ch kd * dp) q l = ro w h lc (ch kd * dp) q (l - 1 + 1) := by congr 1; omega
        rw [this, ro_s]
      have hfar : 1 ≤ far (ch kd * dp) ∧ far (ch kd * dp) ≤ 8 := by unfold far; split <;> omega
      have hfl := fil_lt (sm := sm) (w := w) (kd := kd) (dp := dp) (q := q) (l := l)
      have zB : ∀ i, i < rb w (ch kd * dp) q → gB s 73 (ro w h lc (ch kd * dp) q l + 1 + i) &&& N 255 = N (RB sm w kd dp q l i) := fun i hi => by
        have := (z1 q l hq hl).2 i hi
        rw [if_neg (by omega)] at this
        exact this
      have zU : 0 < l → ∀ i, i < rb w (ch kd * dp) q → gB s 73 (ro w h lc (ch kd * dp) q (l - 1) + 1 + i) &&& N 255 = N (RB sm w kd dp q (l - 1) i) := fun h0 i hi => by
        have := (z1 q (l - 1) hq (by omega)).2 i hi
        rw [if_neg (by omega)] at this
        exact this
      have hbf : F_Md_bestFilter n 63 (N r) s = some (N (fil sm w kd dp q l), s) := by
        rw [← hkq]
        exact Md_bestFilter_eq rfl (by omega) x1 v1 v2 x2 x3 x4 hq hl (fun i => RB_lt) (fun i => RB_lt) zB zU
      refine s_c hbf ?_
      have q1 := x1.raw
      have q2 := x1.rowStarts
      have q3 := x1.rowBytes
      obtain ⟨g1, g2, g3, g4, g5⟩ := x2.2.2 q l hq hl
      rw [hkq] at g3 g5
      have hlenb : rb w (ch kd * dp) q < 32888 := by omega
      clear hbf g1 g2 g4
      have hN0 : vp_nar .byte ((N (fil sm w kd dp q l)).toInt8.toInt32) &&& N 255 = N (fil sm w kd dp q l) := by rw [sb_and, lob_small (by omega)]
      generalize hlen : rb w (ch kd * dp) q = len at *
      generalize hoo : ro w h lc (ch kd * dp) q l = o at *
      repeat (first | first | (with_reducible refine s_let ?_; intro x9 hx9; (try simp (disch := omega) only [bG, Option.bind_some, Nat.reduceMul, Nat.reduceAdd, Nat.reduceEqDiff, Nat.reduceSub, Nat.reduceDiv, Nat.reduceLeDiff, bQ, bU, *] at hx9); subst hx9) | (with_reducible refine s_R2 ?_ ?_; (focus (simp (disch := omega) only [bG, Option.bind_some, Nat.reduceMul, Nat.reduceAdd, Nat.reduceEqDiff, Nat.reduceSub, Nat.reduceDiv, Nat.reduceLeDiff, bQ, *, Option.isSome_some]; done)); (intro o9 ho9; simp (disch := omega) only [bG, Option.bind_some, Nat.reduceMul, Nat.reduceAdd, Nat.reduceEqDiff, Nat.reduceSub, Nat.reduceDiv, Nat.reduceLeDiff, bQ, *, Option.some.injEq] at ho9; subst ho9)) | (with_reducible refine s_in2 ?_ ?_; (focus first | (simp (disch := omega) only [bG, Option.bind_some, Nat.reduceMul, Nat.reduceAdd, Nat.reduceEqDiff, Nat.reduceSub, Nat.reduceDiv, Nat.reduceLeDiff, bQ, *, bK]; omega) | (simp (disch := omega) only [bG, Option.bind_some, Nat.reduceMul, Nat.reduceAdd, Nat.reduceEqDiff, Nat.reduceSub, Nat.reduceDiv, Nat.reduceLeDiff, bQ, *, bK, or_false, false_or, Nat.lt_irrefl, or_self, Nat.not_lt_zero]; done) | decide)) | (with_reducible refine s_nz ?_ ?_; (focus first | decide | assumption)) | (with_reducible refine s_nzl ?_ ?_; (focus decide)) | (with_reducible refine s_z ?_ ?_; (focus first | exact Or.inl rfl | exact Or.inr rfl | assumption)) | (with_reducible refine s_ji ?_) | first | (with_reducible refine s_h ?_) | (with_reducible refine s_t ?_) | (with_reducible apply s_chan; (focus first | with_reducible rfl | (simp (disch := omega) only [bG, Option.bind_some, Nat.reduceMul, Nat.reduceAdd, Nat.reduceEqDiff, Nat.reduceSub, Nat.reduceDiv, Nat.reduceLeDiff, bQ, bU, *]; with_reducible rfl)); (focus omega)) | (with_reducible refine Ok.c2' ?_; (first | (first | (with_reducible show Ok (kf_let _ _) _) | (with_reducible show Ok (kf_j _ _) _) | (with_reducible show Ok (if _ then _ else _) _) | (with_reducible refine Ok.some ?_; try dsimp only) | (with_reducible show Ok (Option.bind (gR _ _) _) _) | (with_reducible show Ok (kf_in _ _ _) _) | (with_reducible show Ok (kf_nz _ _) _)) | (with_reducible refine Ok.c2' ?_; (first | (with_reducible show Ok (kf_let _ _) _) | (with_reducible show Ok (kf_j _ _) _) | (with_reducible show Ok (if _ then _ else _) _) | (with_reducible refine Ok.some ?_; try dsimp only) | (with_reducible show Ok (Option.bind (gR _ _) _) _) | (with_reducible show Ok (kf_in _ _ _) _) | (with_reducible show Ok (kf_nz _ _) _))))) | (with_reducible refine Ok.bind' ?_; (first | (first | (with_reducible show Ok (kf_let _ _) _) | (with_reducible show Ok (kf_j _ _) _) | (with_reducible show Ok (if _ then _ else _) _) | (with_reducible refine Ok.some ?_; try dsimp only) | (with_reducible show Ok (Option.bind (gR _ _) _) _) | (with_reducible show Ok (kf_in _ _ _) _) | (with_reducible show Ok (kf_nz _ _) _)) | (with_reducible refine Ok.c2' ?_; (first | (with_reducible show Ok (kf_let _ _) _) | (with_reducible show Ok (kf_j _ _) _) | (with_reducible show Ok (if _ then _ else _) _) | (with_reducible refine Ok.some ?_; try dsimp only) | (with_reducible show Ok (Option.bind (gR _ _) _) _) | (with_reducible show Ok (kf_in _ _ _) _) | (with_reducible show Ok (kf_nz _ _) _))))) | first | (with_reducible refine s_pos ?_ ?_; (focus (show (_ : String) = _; exact rfl))) | (with_reducible refine s_neg ?_ ?_; (focus (show ¬ ((_ : String) = _); decide))) | (first | (with_reducible refine s_pos ?_ ?_; (focus first | (simp (disch := omega) only [bG, Option.bind_some, Nat.reduceMul, Nat.reduceAdd, Nat.reduceEqDiff, Nat.reduceSub, Nat.reduceDiv, Nat.reduceLeDiff, bQ, bU, *]; done) | (simp (disch := omega) only [bG, Option.bind_some, Nat.reduceMul, Nat.reduceAdd, Nat.reduceEqDiff, Nat.reduceSub, Nat.reduceDiv, Nat.reduceLeDiff, bQ, bU, *]; omega) | omega)) | (with_reducible refine s_neg ?_ ?_; (focus first | (simp (disch := omega) only [bG, Option.bind_some, Nat.reduceMul, Nat.reduceAdd, Nat.reduceEqDiff, Nat.reduceSub, Nat.reduceDiv, Nat.reduceLeDiff, bQ, bU, *]; done) | (simp (disch := omega) only [bG, Option.bind_some, Nat.reduceMul, Nat.reduceAdd, Nat.reduceEqDiff, Nat.reduceSub, Nat.reduceDiv, Nat.reduceLeDiff, bQ, bU, *]; omega) | omega))))
      have f3 : Fr PN A73 σ (pB s 73 o (vp_nar .byte ((N (fil sm w kd dp q l)).toInt8.toInt32))) := Fr.wB f1 (show A73 73 from rfl) _ _
      refine ok_for 0 len (fun t x s2 => x = N len - N (t + 1) ∧ Rng s2 ∧ Fr PN A73 σ s2 ∧ gB s2 73 o &&& N 255 = N (fil sm w kd dp q l) ∧ (∀ i, i < len → gB s2 73 (o + 1 + i) &&& N 255 = N (if len - t ≤ i then wrB sm w kd dp q l i else RB sm w kd dp q l i)) ∧ ∀ i, i < o ∨ o + 1 + len ≤ i → gB s2 73 i = gB s 73 i) ?_ (by omega) (by omega) ⟨rfl, rg.pB (fun _ => ⟨_, rfl⟩), f3, ?_, ?_, ?_⟩
      · rintro t k8 x s2 - ht ⟨rfl, rg2, f4, u2, u3, u4⟩ ih2
        obtain ⟨y1, y2, y3, y4⟩ := fld f4
        by_cases ht2 : t = len
        · refine s_pos (N_sub_neg (by omega) (by omega)) ?_
          refine s_let (fun x9 hx9 => ?_)
          rw [nxt] at hx9
          subst hx9
          refine ih (by omega) _ _ ⟨rfl, ?_, rg2, f4⟩
          rw [show bs w h lc 8 - (j + 1) = r by omega]
          intro q' l' hq' hl'
          by_cases hsame : bs w h lc q' + l' = r
          · have h9 : q' = q ∧ l' = l := by
              rcases Nat.lt_trichotomy q' q with c | rfl | c
              · have := bs_lt (l := l) hl' (Or.inl c); omega
              · exact ⟨rfl, by omega⟩
              · have := bs_lt (l := l') hl (Or.inl c); omega
            obtain ⟨rfl, rfl⟩ := h9
            rw [hoo, hlen]
            refine ⟨fun _ => u2, fun i hi => ?_⟩
            rw [u3 i hi, if_pos (by omega), if_pos (by omega)]
          · obtain ⟨o1, o2⟩ := z1 q' l' hq' hl'
            have hout : ∀ t, ro w h lc (ch kd * dp) q' l' ≤ t → t < ro w h lc (ch kd * dp) q' l' + (1 + rb w (ch kd * dp) q') → t < o ∨ o + 1 + len ≤ t := by
              intro t h1 h2
              rcases Nat.lt_or_gt_of_ne hsame with c | c
              · left
                have := ro_sep (bits := ch kd * dp) hl' (bs_lex hl (by omega : bs w h lc q' + l' < bs w h lc q + l))
                omega
              · right
                have := ro_sep (bits := ch kd * dp) hl (bs_lex hl' (by omega : bs w h lc q + l < bs w h lc q' + l'))
                omega
            refine ⟨fun h1 => ?_, fun i hi => ?_⟩
            · rw [u4 _ (hout _ (by omega) (by omega))]
              exact o1 (by omega)
            · rw [u4 _ (hout _ (by omega) (by omega)), o2 i hi]
              by_cases c : r ≤ bs w h lc q' + l'
              · rw [if_pos c, if_pos (by omega)]
              · rw [if_neg c, if_neg (by omega)]
        · obtain ⟨i, hi⟩ : ∃ i, len - (t + 1) = i := ⟨_, rfl⟩
          have e2 : N len - N (t + 1) = N i := by rw [N_sub (by omega), hi]
          have nxt2 : N i + Int32.ofInt (-1) = N len - N (t + 1 + 1) := by rw [← e2, sub_m1]
          rw [e2]
          refine s_neg (N_nlt (by omega)) ?_
          have hpl : ∀ i', i' ≤ i → gB s2 73 (o + 1 + i') &&& N 255 = N (RB sm w kd dp q l i') := fun i' h1 => by
            rw [u3 i' (by omega), if_neg (by omega)]
          have hG : F_Md_guess n 63 (N (fil sm w kd dp q l)) (N r) (N i) s2 = some (N (gsB (RB sm w kd dp q l) (RB sm w kd dp q (l - 1)) l (far (ch kd * dp)) (fil sm w kd dp q l) i), s2) := by
            rw [← hkq]
            refine Md_guess_eq rfl rfl rfl y1 v1 v2 y2 y3 y4 hq hl (by omega) hfl (rA_lt (fun i => RB_lt) _ _) ?_ ?_ ?_ ?_ ?_
            · split
              · exact RB_lt
              · decide
            · split
              · exact rA_lt (fun i => RB_lt) _ _
              · decide
            · unfold rA
              by_cases c : far (ch kd * dp) ≤ i
              · rw [if_pos c, if_pos c, hoo]
                exact hpl _ (by omega)
              · rw [if_neg c, if_neg c]
            · by_cases c : 0 < l
              · have hu := hup c
                rw [if_pos c, if_pos c, u4 _ (by omega)]
                exact zU c i (by omega)
              · rw [if_neg c, if_neg c]
            · unfold rA
              by_cases c : far (ch kd * dp) ≤ i ∧ 0 < l
              · have hu := hup c.2
                rw [if_pos c, if_pos c.2, if_pos c.1, u4 _ (by omega)]
                exact zU c.2 _ (by omega)
              · rw [if_neg c]
                by_cases c2 : 0 < l
                · rw [if_pos c2, if_neg (fun z => c ⟨z, c2⟩)]
                · rw [if_neg c2]
          have hval := sub_and (b := gsB (RB sm w kd dp q l) (RB sm w kd dp q (l - 1)) l (far (ch kd * dp)) (fil sm w kd dp q l) i) (hpl i (Nat.le_refl _)) RB_lt (gsB_lt (fun i => RB_lt) (fun i => RB_lt) _ _ _ _)
          have hw9 : dif (RB sm w kd dp q l i) (gsB (RB sm w kd dp q l) (RB sm w kd dp q (l - 1)) l (far (ch kd * dp)) (fil sm w kd dp q l) i) = wrB sm w kd dp q l i := rfl
          rw [hw9] at hval
          have q1' := y1.raw
          have q2' := y1.rowStarts
          have g3' := (y2.2.2 q l hq hl).2.2.1
          rw [hkq, hoo] at g3'
          generalize gsB (RB sm w kd dp q l) (RB sm w kd dp q (l - 1)) l (far (ch kd * dp)) (fil sm w kd dp q l) i = g at *
          have nx : Ok (k8 (N len - N (t + 1 + 1)) (pB s2 73 (o + 1 + i) (vp_nar .byte ((gB s2 73 (o + 1 + i) - N g).toInt8.toInt32)))) Q := by
            refine ih2 (by omega) _ _ ⟨rfl, rg2.pB (fun _ => ⟨_, rfl⟩), Fr.wB f4 (show A73 73 from rfl) _ _, ?_, ?_, ?_⟩
            · rw [gB_eq rfl, upd_ne (by omega)]; exact u2
            · intro i' hi'
              rw [gB_eq rfl]
              by_cases hii : i' = i
              · subst hii
                rw [upd_eq rfl, hval, if_pos (by omega)]
              · rw [upd_ne (by omega), u3 i' hi']
                by_cases c : len - t ≤ i'
                · rw [if_pos c, if_pos (by omega)]
                · rw [if_neg c, if_neg (by omega)]
            · intro i' hi'
              rw [gB_eq rfl, upd_ne (by omega)]
              exact u4 i' hi'
          rw [← nxt2] at nx
          clear ih ih2 u2 u3 u4 zU zB z1 hw9 hval hpl nxt nxt2 e1 e2 hrest h0
          repeat (first | first | (with_reducible refine s_let ?_; intro x9 hx9; (try simp (disch := omega) only [bG, Option.bind_some, Nat.reduceMul, Nat.reduceAdd, Nat.reduceEqDiff, Nat.reduceSub, Nat.reduceDiv, Nat.reduceLeDiff, bQ, bU, *] at hx9); subst hx9) | (with_reducible refine s_R2 ?_ ?_; (focus (simp (disch := omega) only [bG, Option.bind_some, Nat.reduceMul, Nat.reduceAdd, Nat.reduceEqDiff, Nat.reduceSub, Nat.reduceDiv, Nat.reduceLeDiff, bQ, *, Option.isSome_some]; done)); (intro o9 ho9; simp (disch := omega) only [bG, Option.bind_some, Nat.reduceMul, Nat.reduceAdd, Nat.reduceEqDiff, Nat.reduceSub, Nat.reduceDiv, Nat.reduceLeDiff, bQ, *, Option.some.injEq] at ho9; subst ho9)) | (with_reducible refine s_in2 ?_ ?_; (focus first | (simp (disch := omega) only [bG, Option.bind_some, Nat.reduceMul, Nat.reduceAdd, Nat.reduceEqDiff, Nat.reduceSub, Nat.reduceDiv, Nat.reduceLeDiff, bQ, *, bK]; omega) | (simp (disch := omega) only [bG, Option.bind_some, Nat.reduceMul, Nat.reduceAdd, Nat.reduceEqDiff, Nat.reduceSub, Nat.reduceDiv, Nat.reduceLeDiff, bQ, *, bK, or_false, false_or, Nat.lt_irrefl, or_self, Nat.not_lt_zero]; done) | decide)) | (with_reducible refine s_nz ?_ ?_; (focus first | decide | assumption)) | (with_reducible refine s_nzl ?_ ?_; (focus decide)) | (with_reducible refine s_z ?_ ?_; (focus first | exact Or.inl rfl | exact Or.inr rfl | assumption)) | (with_reducible refine s_ji ?_) | first | (with_reducible refine s_h ?_) | (with_reducible refine s_t ?_) | (with_reducible apply s_chan; (focus first | with_reducible rfl | (simp (disch := omega) only [bG, Option.bind_some, Nat.reduceMul, Nat.reduceAdd, Nat.reduceEqDiff, Nat.reduceSub, Nat.reduceDiv, Nat.reduceLeDiff, bQ, bU, *]; with_reducible rfl)); (focus omega)) | (with_reducible refine Ok.c2' ?_; (first | (first | (with_reducible show Ok (kf_let _ _) _) | (with_reducible show Ok (kf_j _ _) _) | (with_reducible show Ok (if _ then _ else _) _) | (with_reducible refine Ok.some ?_; try dsimp only) | (with_reducible show Ok (Option.bind (gR _ _) _) _) | (with_reducible show Ok (kf_in _ _ _) _) | (with_reducible show Ok (kf_nz _ _) _)) | (with_reducible refine Ok.c2' ?_; (first | (with_reducible show Ok (kf_let _ _) _) | (with_reducible show Ok (kf_j _ _) _) | (with_reducible show Ok (if _ then _ else _) _) | (with_reducible refine Ok.some ?_; try dsimp only) | (with_reducible show Ok (Option.bind (gR _ _) _) _) | (with_reducible show Ok (kf_in _ _ _) _) | (with_reducible show Ok (kf_nz _ _) _))))) | (with_reducible refine Ok.bind' ?_; (first | (first | (with_reducible show Ok (kf_let _ _) _) | (with_reducible show Ok (kf_j _ _) _) | (with_reducible show Ok (if _ then _ else _) _) | (with_reducible refine Ok.some ?_; try dsimp only) | (with_reducible show Ok (Option.bind (gR _ _) _) _) | (with_reducible show Ok (kf_in _ _ _) _) | (with_reducible show Ok (kf_nz _ _) _)) | (with_reducible refine Ok.c2' ?_; (first | (with_reducible show Ok (kf_let _ _) _) | (with_reducible show Ok (kf_j _ _) _) | (with_reducible show Ok (if _ then _ else _) _) | (with_reducible refine Ok.some ?_; try dsimp only) | (with_reducible show Ok (Option.bind (gR _ _) _) _) | (with_reducible show Ok (kf_in _ _ _) _) | (with_reducible show Ok (kf_nz _ _) _))))) | first | (with_reducible refine s_pos ?_ ?_; (focus (show (_ : String) = _; exact rfl))) | (with_reducible refine s_neg ?_ ?_; (focus (show ¬ ((_ : String) = _); decide))) | (first | (with_reducible refine s_pos ?_ ?_; (focus first | (simp (disch := omega) only [bG, Option.bind_some, Nat.reduceMul, Nat.reduceAdd, Nat.reduceEqDiff, Nat.reduceSub, Nat.reduceDiv, Nat.reduceLeDiff, bQ, bU, *]; done) | (simp (disch := omega) only [bG, Option.bind_some, Nat.reduceMul, Nat.reduceAdd, Nat.reduceEqDiff, Nat.reduceSub, Nat.reduceDiv, Nat.reduceLeDiff, bQ, bU, *]; omega) | omega)) | (with_reducible refine s_neg ?_ ?_; (focus first | (simp (disch := omega) only [bG, Option.bind_some, Nat.reduceMul, Nat.reduceAdd, Nat.reduceEqDiff, Nat.reduceSub, Nat.reduceDiv, Nat.reduceLeDiff, bQ, bU, *]; done) | (simp (disch := omega) only [bG, Option.bind_some, Nat.reduceMul, Nat.reduceAdd, Nat.reduceEqDiff, Nat.reduceSub, Nat.reduceDiv, Nat.reduceLeDiff, bQ, bU, *]; omega) | omega))))
          refine s_c hG ?_
          clear hG
          repeat (first | first | (with_reducible refine s_let ?_; intro x9 hx9; (try simp (disch := omega) only [bG, Option.bind_some, Nat.reduceMul, Nat.reduceAdd, Nat.reduceEqDiff, Nat.reduceSub, Nat.reduceDiv, Nat.reduceLeDiff, bQ, bU, *] at hx9); subst hx9) | (with_reducible refine s_R2 ?_ ?_; (focus (simp (disch := omega) only [bG, Option.bind_some, Nat.reduceMul, Nat.reduceAdd, Nat.reduceEqDiff, Nat.reduceSub, Nat.reduceDiv, Nat.reduceLeDiff, bQ, *, Option.isSome_some]; done)); (intro o9 ho9; simp (disch := omega) only [bG, Option.bind_some, Nat.reduceMul, Nat.reduceAdd, Nat.reduceEqDiff, Nat.reduceSub, Nat.reduceDiv, Nat.reduceLeDiff, bQ, *, Option.some.injEq] at ho9; subst ho9)) | (with_reducible refine s_in2 ?_ ?_; (focus first | (simp (disch := omega) only [bG, Option.bind_some, Nat.reduceMul, Nat.reduceAdd, Nat.reduceEqDiff, Nat.reduceSub, Nat.reduceDiv, Nat.reduceLeDiff, bQ, *, bK]; omega) | (simp (disch := omega) only [bG, Option.bind_some, Nat.reduceMul, Nat.reduceAdd, Nat.reduceEqDiff, Nat.reduceSub, Nat.reduceDiv, Nat.reduceLeDiff, bQ, *, bK, or_false, false_or, Nat.lt_irrefl, or_self, Nat.not_lt_zero]; done) | decide)) | (with_reducible refine s_nz ?_ ?_; (focus first | decide | assumption)) | (with_reducible refine s_nzl ?_ ?_; (focus decide)) | (with_reducible refine s_z ?_ ?_; (focus first | exact Or.inl rfl | exact Or.inr rfl | assumption)) | (with_reducible refine s_ji ?_) | first | (with_reducible refine s_h ?_) | (with_reducible refine s_t ?_) | (with_reducible apply s_chan; (focus first | with_reducible rfl | (simp (disch := omega) only [bG, Option.bind_some, Nat.reduceMul, Nat.reduceAdd, Nat.reduceEqDiff, Nat.reduceSub, Nat.reduceDiv, Nat.reduceLeDiff, bQ, bU, *]; with_reducible rfl)); (focus omega)) | (with_reducible refine Ok.c2' ?_; (first | (first | (with_reducible show Ok (kf_let _ _) _) | (with_reducible show Ok (kf_j _ _) _) | (with_reducible show Ok (if _ then _ else _) _) | (with_reducible refine Ok.some ?_; try dsimp only) | (with_reducible show Ok (Option.bind (gR _ _) _) _) | (with_reducible show Ok (kf_in _ _ _) _) | (with_reducible show Ok (kf_nz _ _) _)) | (with_reducible refine Ok.c2' ?_; (first | (with_reducible show Ok (kf_let _ _) _) | (with_reducible show Ok (kf_j _ _) _) | (with_reducible show Ok (if _ then _ else _) _) | (with_reducible refine Ok.some ?_; try dsimp only) | (with_reducible show Ok (Option.bind (gR _ _) _) _) | (with_reducible show Ok (kf_in _ _ _) _) | (with_reducible show Ok (kf_nz _ _) _))))) | (with_reducible refine Ok.bind' ?_; (first | (first | (with_reducible show Ok (kf_let _ _) _) | (with_reducible show Ok (kf_j _ _) _) | (with_reducible show Ok (if _ then _ else _) _) | (with_reducible refine Ok.some ?_; try dsimp only) | (with_reducible show Ok (Option.bind (gR _ _) _) _) | (with_reducible show Ok (kf_in _ _ _) _) | (with_reducible show Ok (kf_nz _ _) _)) | (with_reducible refine Ok.c2' ?_; (first | (with_reducible show Ok (kf_let _ _) _) | (with_reducible show Ok (kf_j _ _) _) | (with_reducible show Ok (if _ then _ else _) _) | (with_reducible refine Ok.some ?_; try dsimp only) | (with_reducible show Ok (Option.bind (gR _ _) _) _) | (with_reducible show Ok (kf_in _ _ _) _) | (with_reducible show Ok (kf_nz _ _) _))))) | first | (with_reducible refine s_pos ?_ ?_; (focus (show (_ : String) = _; exact rfl))) | (with_reducible refine s_neg ?_ ?_; (focus (show ¬ ((_ : String) = _); decide))) | (first | (with_reducible refine s_pos ?_ ?_; (focus first | (simp (disch := omega) only [bG, Option.bind_some, Nat.reduceMul, Nat.reduceAdd, Nat.reduceEqDiff, Nat.reduceSub, Nat.reduceDiv, Nat.reduceLeDiff, bQ, bU, *]; done) | (simp (disch := omega) only [bG, Option.bind_some, Nat.reduceMul, Nat.reduceAdd, Nat.reduceEqDiff, Nat.reduceSub, Nat.reduceDiv, Nat.reduceLeDiff, bQ, bU, *]; omega) | omega)) | (with_reducible refine s_neg ?_ ?_; (focus first | (simp (disch := omega) only [bG, Option.bind_some, Nat.reduceMul, Nat.reduceAdd, Nat.reduceEqDiff, Nat.reduceSub, Nat.reduceDiv, Nat.reduceLeDiff, bQ, bU, *]; done) | (simp (disch := omega) only [bG, Option.bind_some, Nat.reduceMul, Nat.reduceAdd, Nat.reduceEqDiff, Nat.reduceSub, Nat.reduceDiv, Nat.reduceLeDiff, bQ, bU, *]; omega) | omega))))
          exact nx
      · rw [gB_eq rfl, upd_eq rfl]; exact hN0
      · intro i hi
        rw [gB_eq rfl, upd_ne (by omega), if_neg (by omega)]
        exact zB i hi
      · intro i hi
        rw [gB_eq rfl, upd_ne (by omega)]
  · intro q l hq hl
    have hbin := bs_in hl hq
    refine ⟨fun h => by omega, fun i hi => ?_⟩
    rw [if_neg (by omega)]
    have := h0 q l hq hl i hi
    rw [if_pos hbin] at this
    exact this
