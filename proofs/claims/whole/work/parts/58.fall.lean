/-! ALL ROWS FILTERED -/
def fil (sm : Nat → Nat) (w kd dp q l : Nat) : Nat := bestF (costF (RB sm w kd dp q l) (RB sm w kd dp q (l - 1)) l (far (ch kd * dp)) (rb w (ch kd * dp) q)) 5
def wrB (sm : Nat → Nat) (w kd dp q l i : Nat) : Nat := dif (RB sm w kd dp q l i) (gsB (RB sm w kd dp q l) (RB sm w kd dp q (l - 1)) l (far (ch kd * dp)) (fil sm w kd dp q l) i)
theorem fil_lt {sm : Nat → Nat} {w kd dp q l : Nat} : fil sm w kd dp q l < 5 := by
  unfold fil
  have := bestF_lt (c := costF (RB sm w kd dp q l) (RB sm w kd dp q (l - 1)) l (far (ch kd * dp)) (rb w (ch kd * dp) q)) 5
  omega
/-- the filtered bytes of rows below k, and their plain bytes -/
def RawC (sm : Nat → Nat) (w h kd dp lc k : Nat) (s : Mm) : Prop := ∀ q l, q < 8 → l < ln w h lc q → bs w h lc q + l < k → gB s 7 (ro w h lc (ch kd * dp) q l) = N (fil sm w kd dp q l) ∧ ∀ i, i < rb w (ch kd * dp) q → gB s 7 (ro w h lc (ch kd * dp) q l + 1 + i) = N (wrB sm w kd dp q l i) ∧ gB s 8 (ro w h lc (ch kd * dp) q l + 1 + i) = N (RB sm w kd dp q l i)
abbrev A78 (a : Nat) : Prop := a = 7 ∨ a = 8
set_option maxHeartbeats 8000000 in
theorem Rows_filterAll_ok {n p w h kd dp lc cc tc : Nat} {sm co th : Nat → Nat} {σ : Mm} (hn : 65536 < n) (hc : PtC σ) (hp : isP p) (hv : PicV w h kd dp lc cc tc sm co th) (hC : PicC p w h kd dp lc cc tc sm co th σ) : Ok (F_Rows_filterAll n 6 p σ) (fun s => RawC sm w h kd dp lc (bs w h lc 8) s ∧ Fr PN A78 σ s) := by
  obtain ⟨v1, v2, v3, v4, v5, v6, v7, v8⟩ := id hv
  have hB8 := bs_8 v1
  have hcm := ch_mul v2
  have hT8 := bt_8 v1 hcm.2
  have hp50 : p ≤ 50 := by rcases hp with rfl | rfl <;> decide
  have hp38 : 38 ≤ p := by rcases hp with rfl | rfl <;> decide
  have k1 := kdp_9 hp
  have k2 := kdp_10 hp
  have fld : ∀ {s : Mm}, Fr PN A78 σ s → PtC s ∧ PicC p w h kd dp lc cc tc sm co th s := fun f => ⟨hc.fr' f PN_C, hC.fr f (fun k _ => id) (fun a ha => by unfold UAc ALay at ha; omega)⟩
  have p1 := hc.pic_layout hp
  unfold F_Rows_filterAll
  repeat (first | first | (with_reducible refine s_let ?_; intro x9 hx9; (try simp (disch := omega) only [bG, Option.bind_some, Nat.reduceMul, Nat.reduceAdd, Nat.reduceEqDiff, Nat.reduceSub, Nat.reduceDiv, Nat.reduceLeDiff, bQ, bU, *] at hx9); subst hx9) | (with_reducible refine s_R2 ?_ ?_; (focus (simp (disch := omega) only [bG, Option.bind_some, Nat.reduceMul, Nat.reduceAdd, Nat.reduceEqDiff, Nat.reduceSub, Nat.reduceDiv, Nat.reduceLeDiff, bQ, *, Option.isSome_some]; done)); (intro o9 ho9; simp (disch := omega) only [bG, Option.bind_some, Nat.reduceMul, Nat.reduceAdd, Nat.reduceEqDiff, Nat.reduceSub, Nat.reduceDiv, Nat.reduceLeDiff, bQ, *, Option.some.injEq] at ho9; subst ho9)) | (with_reducible refine s_in2 ?_ ?_; (focus first | (simp (disch := omega) only [bG, Option.bind_some, Nat.reduceMul, Nat.reduceAdd, Nat.reduceEqDiff, Nat.reduceSub, Nat.reduceDiv, Nat.reduceLeDiff, bQ, *, bK]; omega) | (simp (disch := omega) only [bG, Option.bind_some, Nat.reduceMul, Nat.reduceAdd, Nat.reduceEqDiff, Nat.reduceSub, Nat.reduceDiv, Nat.reduceLeDiff, bQ, *, bK, or_false, false_or, Nat.lt_irrefl, or_self, Nat.not_lt_zero]; done) | decide)) | (with_reducible refine s_nz ?_ ?_; (focus first | decide | assumption)) | (with_reducible refine s_nzl ?_ ?_; (focus decide)) | (with_reducible refine s_z ?_ ?_; (focus first | exact Or.inl rfl | exact Or.inr rfl | assumption)) | (with_reducible refine s_ji ?_) | first | (with_reducible refine s_h ?_) | (with_reducible refine s_t ?_) | (with_reducible apply s_chan; (focus first | with_reducible rfl | (simp (disch := omega) only [bG, Option.bind_some, Nat.reduceMul, Nat.reduceAdd, Nat.reduceEqDiff, Nat.reduceSub, Nat.reduceDiv, Nat.reduceLeDiff, bQ, bU, *]; with_reducible rfl)); (focus omega)) | (with_reducible refine Ok.c2' ?_; (first | (first | (with_reducible show Ok (kf_let _ _) _) | (with_reducible show Ok (kf_j _ _) _) | (with_reducible show Ok (if _ then _ else _) _) | (with_reducible refine Ok.some ?_; try dsimp only) | (with_reducible show Ok (Option.bind (gR _ _) _) _) | (with_reducible show Ok (kf_in _ _ _) _) | (with_reducible show Ok (kf_nz _ _) _)) | (with_reducible refine Ok.c2' ?_; (first | (with_reducible show Ok (kf_let _ _) _) | (with_reducible show Ok (kf_j _ _) _) | (with_reducible show Ok (if _ then _ else _) _) | (with_reducible refine Ok.some ?_; try dsimp only) | (with_reducible show Ok (Option.bind (gR _ _) _) _) | (with_reducible show Ok (kf_in _ _ _) _) | (with_reducible show Ok (kf_nz _ _) _))))) | (with_reducible refine Ok.bind' ?_; (first | (first | (with_reducible show Ok (kf_let _ _) _) | (with_reducible show Ok (kf_j _ _) _) | (with_reducible show Ok (if _ then _ else _) _) | (with_reducible refine Ok.some ?_; try dsimp only) | (with_reducible show Ok (Option.bind (gR _ _) _) _) | (with_reducible show Ok (kf_in _ _ _) _) | (with_reducible show Ok (kf_nz _ _) _)) | (with_reducible refine Ok.c2' ?_; (first | (with_reducible show Ok (kf_let _ _) _) | (with_reducible show Ok (kf_j _ _) _) | (with_reducible show Ok (if _ then _ else _) _) | (with_reducible refine Ok.some ?_; try dsimp only) | (with_reducible show Ok (Option.bind (gR _ _) _) _) | (with_reducible show Ok (kf_in _ _ _) _) | (with_reducible show Ok (kf_nz _ _) _))))) | first | (with_reducible refine s_pos ?_ ?_; (focus (show (_ : String) = _; exact rfl))) | (with_reducible refine s_neg ?_ ?_; (focus (show ¬ ((_ : String) = _); decide))) | (first | (with_reducible refine s_pos ?_ ?_; (focus first | (simp (disch := omega) only [bG, Option.bind_some, Nat.reduceMul, Nat.reduceAdd, Nat.reduceEqDiff, Nat.reduceSub, Nat.reduceDiv, Nat.reduceLeDiff, bQ, bU, *]; done) | (simp (disch := omega) only [bG, Option.bind_some, Nat.reduceMul, Nat.reduceAdd, Nat.reduceEqDiff, Nat.reduceSub, Nat.reduceDiv, Nat.reduceLeDiff, bQ, bU, *]; omega) | omega)) | (with_reducible refine s_neg ?_ ?_; (focus first | (simp (disch := omega) only [bG, Option.bind_some, Nat.reduceMul, Nat.reduceAdd, Nat.reduceEqDiff, Nat.reduceSub, Nat.reduceDiv, Nat.reduceLeDiff, bQ, bU, *]; done) | (simp (disch := omega) only [bG, Option.bind_some, Nat.reduceMul, Nat.reduceAdd, Nat.reduceEqDiff, Nat.reduceSub, Nat.reduceDiv, Nat.reduceLeDiff, bQ, bU, *]; omega) | omega))))
  refine ok_for 0 (bs w h lc 8) (fun r x s => x = N r ∧ RawC sm w h kd dp lc r s ∧ Fr PN A78 σ s) ?_ (by omega) (by omega) ⟨rfl, fun q l _ _ h => absurd h (Nat.not_lt_zero _), Fr.rfl⟩
  rintro r k9 x s - hr ⟨rfl, z1, f1⟩ ih
  obtain ⟨hps, hCs⟩ := fld f1
  have d0 := hCs.2.2.2.2.2.2.2.2.1.1
  by_cases hr2 : r = bs w h lc 8
  · subst hr2
    refine s_pos (by rw [d0]; exact Int32.le_refl _) (Ok.some ⟨z1, f1⟩)
  · refine s_neg (by rw [d0, N_le (by omega) (by omega)]; omega) ?_
    obtain ⟨q, l, hq, hl, hk0⟩ := row_ex (show r < bs w h lc 8 by omega)
    have hkq := hk0.symm
    clear hk0
    have hrt := ro_lt (bits := ch kd * dp) hq hl
    have hup : 0 < l → ro w h lc (ch kd * dp) q l = ro w h lc (ch kd * dp) q (l - 1) + (1 + rb w (ch kd * dp) q) := fun h0 => by
      have : ro w h lc (ch kd * dp) q l = ro w h lc (ch kd * dp) q (l - 1 + 1) := by congr 1; omega
      rw [this, ro_s]
    have hfar : 1 ≤ far (ch kd * dp) ∧ far (ch kd * dp) ≤ 8 := by unfold far; split <;> omega
    have gm := Rows_gather_ok (n := n) (by omega) hps hp hv hCs hq hl
    rw [hkq] at gm
    refine gm.bind ?_
    rintro s1 ⟨y1, y2, y3⟩
    have f2 := f1.trans (y3.mono PN.e (fun a ha => Or.inr ha))
    obtain ⟨hp1, hC1⟩ := fld f2
    have zU : 0 < l → ∀ i, i < rb w (ch kd * dp) q → gB s1 8 (ro w h lc (ch kd * dp) q l + 1 + i - (rb w (ch kd * dp) q + 1)) = N (RB sm w kd dp q (l - 1) i) := by
      intro h0 i hi
      have hu := hup h0
      rw [show ro w h lc (ch kd * dp) q l + 1 + i - (rb w (ch kd * dp) q + 1) = ro w h lc (ch kd * dp) q (l - 1) + 1 + i by omega, y2 _ (by omega)]
      exact ((z1 q (l - 1) hq (by omega) (by omega)).2 i hi).2
    have hbf : F_Rows_bestFilter n 6 (p + 4) (N r) s1 = some (N (fil sm w kd dp q l), s1) := by
      rw [← hkq]
      exact Rows_bestFilter_eq rfl (by omega) hp1 hp v1 hcm.2 hC1.2.2.2.2.2.2.2.2.1 hq hl (fun i => RB_lt) (fun i => RB_lt) y1 zU
    refine s_c hbf ?_
    have q2 := hp1.lay_at hp
    have q9 := hp1.Rows_raw
    obtain ⟨g1, g2, g3, g4, g5, g6, g7⟩ := hC1.2.2.2.2.2.2.2.2.1.2.2.2 q l hq hl
    rw [hkq] at g5 g6
    have hfl := fil_lt (sm := sm) (w := w) (kd := kd) (dp := dp) (q := q) (l := l)
    clear gm hbf g1 g2 g3 g4 g7
    repeat (first | first | (with_reducible refine s_let ?_; intro x9 hx9; (try simp (disch := omega) only [bG, Option.bind_some, Nat.reduceMul, Nat.reduceAdd, Nat.reduceEqDiff, Nat.reduceSub, Nat.reduceDiv, Nat.reduceLeDiff, bQ, bU, *] at hx9); subst hx9) | (with_reducible refine s_R2 ?_ ?_; (focus (simp (disch := omega) only [bG, Option.bind_some, Nat.reduceMul, Nat.reduceAdd, Nat.reduceEqDiff, Nat.reduceSub, Nat.reduceDiv, Nat.reduceLeDiff, bQ, *, Option.isSome_some]; done)); (intro o9 ho9; simp (disch := omega) only [bG, Option.bind_some, Nat.reduceMul, Nat.reduceAdd, Nat.reduceEqDiff, Nat.reduceSub, Nat.reduceDiv, Nat.reduceLeDiff, bQ, *, Option.some.injEq] at ho9; subst ho9)) | (with_reducible refine s_in2 ?_ ?_; (focus first | (simp (disch := omega) only [bG, Option.bind_some, Nat.reduceMul, Nat.reduceAdd, Nat.reduceEqDiff, Nat.reduceSub, Nat.reduceDiv, Nat.reduceLeDiff, bQ, *, bK]; omega) | (simp (disch := omega) only [bG, Option.bind_some, Nat.reduceMul, Nat.reduceAdd, Nat.reduceEqDiff, Nat.reduceSub, Nat.reduceDiv, Nat.reduceLeDiff, bQ, *, bK, or_false, false_or, Nat.lt_irrefl, or_self, Nat.not_lt_zero]; done) | decide)) | (with_reducible refine s_nz ?_ ?_; (focus first | decide | assumption)) | (with_reducible refine s_nzl ?_ ?_; (focus decide)) | (with_reducible refine s_z ?_ ?_; (focus first | exact Or.inl rfl | exact Or.inr rfl | assumption)) | (with_reducible refine s_ji ?_) | first | (with_reducible refine s_h ?_) | (with_reducible refine s_t ?_) | (with_reducible apply s_chan; (focus first | with_reducible rfl | (simp (disch := omega) only [bG, Option.bind_some, Nat.reduceMul, Nat.reduceAdd, Nat.reduceEqDiff, Nat.reduceSub, Nat.reduceDiv, Nat.reduceLeDiff, bQ, bU, *]; with_reducible rfl)); (focus omega)) | (with_reducible refine Ok.c2' ?_; (first | (first | (with_reducible show Ok (kf_let _ _) _) | (with_reducible show Ok (kf_j _ _) _) | (with_reducible show Ok (if _ then _ else _) _) | (with_reducible refine Ok.some ?_; try dsimp only) | (with_reducible show Ok (Option.bind (gR _ _) _) _) | (with_reducible show Ok (kf_in _ _ _) _) | (with_reducible show Ok (kf_nz _ _) _)) | (with_reducible refine Ok.c2' ?_; (first | (with_reducible show Ok (kf_let _ _) _) | (with_reducible show Ok (kf_j _ _) _) | (with_reducible show Ok (if _ then _ else _) _) | (with_reducible refine Ok.some ?_; try dsimp only) | (with_reducible show Ok (Option.bind (gR _ _) _) _) | (with_reducible show Ok (kf_in _ _ _) _) | (with_reducible show Ok (kf_nz _ _) _))))) | (with_reducible refine Ok.bind' ?_; (first | (first | (with_reducible show Ok (kf_let _ _) _) | (with_reducible show Ok (kf_j _ _) _) | (with_reducible show Ok (if _ then _ else _) _) | (with_reducible refine Ok.some ?_; try dsimp only) | (with_reducible show Ok (Option.bind (gR _ _) _) _) | (with_reducible show Ok (kf_in _ _ _) _) | (with_reducible show Ok (kf_nz _ _) _)) | (with_reducible refine Ok.c2' ?_; (first | (with_reducible show Ok (kf_let _ _) _) | (with_reducible show Ok (kf_j _ _) _) | (with_reducible show Ok (if _ then _ else _) _) | (with_reducible refine Ok.some ?_; try dsimp only) | (with_reducible show Ok (Option.bind (gR _ _) _) _) | (with_reducible show Ok (kf_in _ _ _) _) | (with_reducible show Ok (kf_nz _ _) _))))) | first | (with_reducible refine s_pos ?_ ?_; (focus (show (_ : String) = _; exact rfl))) | (with_reducible refine s_neg ?_ ?_; (focus (show ¬ ((_ : String) = _); decide))) | (first | (with_reducible refine s_pos ?_ ?_; (focus first | (simp (disch := omega) only [bG, Option.bind_some, Nat.reduceMul, Nat.reduceAdd, Nat.reduceEqDiff, Nat.reduceSub, Nat.reduceDiv, Nat.reduceLeDiff, bQ, bU, *]; done) | (simp (disch := omega) only [bG, Option.bind_some, Nat.reduceMul, Nat.reduceAdd, Nat.reduceEqDiff, Nat.reduceSub, Nat.reduceDiv, Nat.reduceLeDiff, bQ, bU, *]; omega) | omega)) | (with_reducible refine s_neg ?_ ?_; (focus first | (simp (disch := omega) only [bG, Option.bind_some, Nat.reduceMul, Nat.reduceAdd, Nat.reduceEqDiff, Nat.reduceSub, Nat.reduceDiv, Nat.reduceLeDiff, bQ, bU, *]; done) | (simp (disch := omega) only [bG, Option.bind_some, Nat.reduceMul, Nat.reduceAdd, Nat.reduceEqDiff, Nat.reduceSub, Nat.reduceDiv, Nat.reduceLeDiff, bQ, bU, *]; omega) | omega))))
    have f3 : Fr PN A78 σ (pB s1 7 (ro w h lc (ch kd * dp) q l) (N (fil sm w kd dp q l))) := Fr.wB f2 (Or.inl rfl) _ _
    refine ok_for 0 (rb w (ch kd * dp) q) (fun i x s2 => x = N i ∧ Fr PN A78 σ s2 ∧ gB s2 8 = gB s1 8 ∧ gB s2 7 (ro w h lc (ch kd * dp) q l) = N (fil sm w kd dp q l) ∧ (∀ j, j < i → gB s2 7 (ro w h lc (ch kd * dp) q l + 1 + j) = N (wrB sm w kd dp q l j)) ∧ ∀ j, j < ro w h lc (ch kd * dp) q l ∨ ro w h lc (ch kd * dp) q l + 1 + rb w (ch kd * dp) q ≤ j → gB s2 7 j = gB s1 7 j) ?_ (by omega) (by omega) ⟨rfl, f3, ?_, ?_, fun j hj => by omega, ?_⟩
    · rintro i k8 x s2 - hi ⟨rfl, f4, u1, u2, u3, u4⟩ ih2
      obtain ⟨hp2, hC2⟩ := fld f4
      have q3 := hp2.lay_length hp
      have q4 := hp2.Rows_raw
      have q5 := hp2.Rows_flat
      obtain ⟨a1, a2, a3, a4, a5, a6, a7⟩ := hC2.2.2.2.2.2.2.2.2.1.2.2.2 q l hq hl
      rw [hkq] at a5 a6
      clear a1 a2 a3 a4 a7
      by_cases hi2 : rb w (ch kd * dp) q = i
      · have nx := ih (by omega) (N (r + 1)) s2 ⟨rfl, ?_, f4⟩
        · subst hi2
          clear ih ih2
          repeat (first | first | (with_reducible refine s_let ?_; intro x9 hx9; (try simp (disch := omega) only [bG, Option.bind_some, Nat.reduceMul, Nat.reduceAdd, Nat.reduceEqDiff, Nat.reduceSub, Nat.reduceDiv, Nat.reduceLeDiff, bQ, bU, *] at hx9); subst hx9) | (with_reducible refine s_R2 ?_ ?_; (focus (simp (disch := omega) only [bG, Option.bind_some, Nat.reduceMul, Nat.reduceAdd, Nat.reduceEqDiff, Nat.reduceSub, Nat.reduceDiv, Nat.reduceLeDiff, bQ, *, Option.isSome_some]; done)); (intro o9 ho9; simp (disch := omega) only [bG, Option.bind_some, Nat.reduceMul, Nat.reduceAdd, Nat.reduceEqDiff, Nat.reduceSub, Nat.reduceDiv, Nat.reduceLeDiff, bQ, *, Option.some.injEq] at ho9; subst ho9)) | (with_reducible refine s_in2 ?_ ?_; (focus first | (simp (disch := omega) only [bG, Option.bind_some, Nat.reduceMul, Nat.reduceAdd, Nat.reduceEqDiff, Nat.reduceSub, Nat.reduceDiv, Nat.reduceLeDiff, bQ, *, bK]; omega) | (simp (disch := omega) only [bG, Option.bind_some, Nat.reduceMul, Nat.reduceAdd, Nat.reduceEqDiff, Nat.reduceSub, Nat.reduceDiv, Nat.reduceLeDiff, bQ, *, bK, or_false, false_or, Nat.lt_irrefl, or_self, Nat.not_lt_zero]; done) | decide)) | (with_reducible refine s_nz ?_ ?_; (focus first | decide | assumption)) | (with_reducible refine s_nzl ?_ ?_; (focus decide)) | (with_reducible refine s_z ?_ ?_; (focus first | exact Or.inl rfl | exact Or.inr rfl | assumption)) | (with_reducible refine s_ji ?_) | first | (with_reducible refine s_h ?_) | (with_reducible refine s_t ?_) | (with_reducible apply s_chan; (focus first | with_reducible rfl | (simp (disch := omega) only [bG, Option.bind_some, Nat.reduceMul, Nat.reduceAdd, Nat.reduceEqDiff, Nat.reduceSub, Nat.reduceDiv, Nat.reduceLeDiff, bQ, bU, *]; with_reducible rfl)); (focus omega)) | (with_reducible refine Ok.c2' ?_; (first | (first | (with_reducible show Ok (kf_let _ _) _) | (with_reducible show Ok (kf_j _ _) _) | (with_reducible show Ok (if _ then _ else _) _) | (with_reducible refine Ok.some ?_; try dsimp only) | (with_reducible show Ok (Option.bind (gR _ _) _) _) | (with_reducible show Ok (kf_in _ _ _) _) | (with_reducible show Ok (kf_nz _ _) _)) | (with_reducible refine Ok.c2' ?_; (first | (with_reducible show Ok (kf_let _ _) _) | (with_reducible show Ok (kf_j _ _) _) | (with_reducible show Ok (if _ then _ else _) _) | (with_reducible refine Ok.some ?_; try dsimp only) | (with_reducible show Ok (Option.bind (gR _ _) _) _) | (with_reducible show Ok (kf_in _ _ _) _) | (with_reducible show Ok (kf_nz _ _) _))))) | (with_reducible refine Ok.bind' ?_; (first | (first | (with_reducible show Ok (kf_let _ _) _) | (with_reducible show Ok (kf_j _ _) _) | (with_reducible show Ok (if _ then _ else _) _) | (with_reducible refine Ok.some ?_; try dsimp only) | (with_reducible show Ok (Option.bind (gR _ _) _) _) | (with_reducible show Ok (kf_in _ _ _) _) | (with_reducible show Ok (kf_nz _ _) _)) | (with_reducible refine Ok.c2' ?_; (first | (with_reducible show Ok (kf_let _ _) _) | (with_reducible show Ok (kf_j _ _) _) | (with_reducible show Ok (if _ then _ else _) _) | (with_reducible refine Ok.some ?_; try dsimp only) | (with_reducible show Ok (Option.bind (gR _ _) _) _) | (with_reducible show Ok (kf_in _ _ _) _) | (with_reducible show Ok (kf_nz _ _) _))))) | first | (with_reducible refine s_pos ?_ ?_; (focus (show (_ : String) = _; exact rfl))) | (with_reducible refine s_neg ?_ ?_; (focus (show ¬ ((_ : String) = _); decide))) | (first | (with_reducible refine s_pos ?_ ?_; (focus first | (simp (disch := omega) only [bG, Option.bind_some, Nat.reduceMul, Nat.reduceAdd, Nat.reduceEqDiff, Nat.reduceSub, Nat.reduceDiv, Nat.reduceLeDiff, bQ, bU, *]; done) | (simp (disch := omega) only [bG, Option.bind_some, Nat.reduceMul, Nat.reduceAdd, Nat.reduceEqDiff, Nat.reduceSub, Nat.reduceDiv, Nat.reduceLeDiff, bQ, bU, *]; omega) | omega)) | (with_reducible refine s_neg ?_ ?_; (focus first | (simp (disch := omega) only [bG, Option.bind_some, Nat.reduceMul, Nat.reduceAdd, Nat.reduceEqDiff, Nat.reduceSub, Nat.reduceDiv, Nat.reduceLeDiff, bQ, bU, *]; done) | (simp (disch := omega) only [bG, Option.bind_some, Nat.reduceMul, Nat.reduceAdd, Nat.reduceEqDiff, Nat.reduceSub, Nat.reduceDiv, Nat.reduceLeDiff, bQ, bU, *]; omega) | omega))))
          exact nx
        · intro q' l' hq' hl' hlt
          by_cases hsame : bs w h lc q' + l' = r
          · have h9 : q' = q ∧ l' = l := by
              rcases Nat.lt_trichotomy q' q with c | rfl | c
              · have := bs_lt (l := l) hl' (Or.inl c); omega
              · exact ⟨rfl, by omega⟩
              · have := bs_lt (l := l') hl (Or.inl c); omega
            obtain ⟨rfl, rfl⟩ := h9
            refine ⟨u2, fun j hj => ⟨u3 j (by omega), ?_⟩⟩
            rw [u1]
            exact y1 j hj
          · obtain ⟨o1, o2⟩ := z1 q' l' hq' hl' (by omega)
            have hsep := ro_sep (bits := ch kd * dp) hl' (bs_lex hl (by omega : bs w h lc q' + l' < bs w h lc q + l))
            refine ⟨?_, fun j hj => ⟨?_, ?_⟩⟩
            · rw [u4 _ (by omega), y3.B (by decide)]
              exact o1
            · rw [u4 _ (by omega), y3.B (by decide)]
              exact (o2 j hj).1
            · rw [u1, y2 _ (by omega)]
              exact (o2 j hj).2
      · have hG : F_Rows_guess n 6 (p + 4) (N r) (N i) (N (fil sm w kd dp q l)) s2 = some (N (gsB (RB sm w kd dp q l) (RB sm w kd dp q (l - 1)) l (far (ch kd * dp)) (fil sm w kd dp q l) i), s2) := by
          rw [← hkq]
          refine Rows_guess_eq rfl rfl rfl hp2 hp v1 hcm.2 hC2.2.2.2.2.2.2.2.2.1 hq hl (by omega) hfl (rA_lt (fun i => RB_lt) _ _) ?_ ?_ ?_ ?_ ?_
          · split
            · exact RB_lt
            · decide
          · split
            · exact rA_lt (fun i => RB_lt) _ _
            · decide
          · unfold rA
            by_cases c : far (ch kd * dp) ≤ i
            · rw [if_pos c, if_pos c, u1, ← y1 _ (show i - far (ch kd * dp) < _ by omega)]
              congr 1
              omega
            · rw [if_neg c, if_neg c]
          · by_cases c : 0 < l
            · rw [if_pos c, if_pos c, u1]
              exact zU c i (by omega)
            · rw [if_neg c, if_neg c]
          · unfold rA
            by_cases c : far (ch kd * dp) ≤ i ∧ 0 < l
            · have hu := hup c.2
              rw [if_pos c, if_pos c.2, if_pos c.1, u1, ← zU c.2 _ (show i - far (ch kd * dp) < _ by omega)]
              congr 1
              omega
            · rw [if_neg c]
              by_cases c2 : 0 < l
              · rw [if_pos c2, if_neg (fun z => c ⟨z, c2⟩)]
              · rw [if_neg c2]
        have hfv : gB s2 8 (ro w h lc (ch kd * dp) q l + 1 + i) = N (RB sm w kd dp q l i) := by rw [u1]; exact y1 i (by omega)
        have hN := N_dif (a := RB sm w kd dp q l i) (b := gsB (RB sm w kd dp q l) (RB sm w kd dp q (l - 1)) l (far (ch kd * dp)) (fil sm w kd dp q l) i) RB_lt (gsB_lt (fun i => RB_lt) (fun i => RB_lt) _ _ _ _)
        have nx : Ok (k8 (N (i + 1)) (pB s2 7 (ro w h lc (ch kd * dp) q l + 1 + i) (N (wrB sm w kd dp q l i)))) (fun s => RawC sm w h kd dp lc (bs w h lc 8) s ∧ Fr PN A78 σ s) := by
          refine ih2 (by omega) _ _ ⟨rfl, Fr.wB f4 (Or.inl rfl) _ _, ?_, ?_, ?_, ?_⟩
          · rw [gB_ne (by decide)]; exact u1
          · rw [gB_eq rfl, upd_ne (by omega)]; exact u2
          · intro j hj
            rw [gB_eq rfl]
            by_cases hji : j = i
            · subst hji
              rw [upd_eq rfl]
            · rw [upd_ne (by omega)]
              exact u3 j (by omega)
          · intro j hj
            rw [gB_eq rfl, upd_ne (by omega)]
            exact u4 j hj
        have hw9 : dif (RB sm w kd dp q l i) (gsB (RB sm w kd dp q l) (RB sm w kd dp q (l - 1)) l (far (ch kd * dp)) (fil sm w kd dp q l) i) = wrB sm w kd dp q l i := rfl
        rw [hw9] at hN
        clear ih ih2 u1 u2 u3 u4 zU y1 y2 y3 z1 hw9
        repeat (first | first | (with_reducible refine s_let ?_; intro x9 hx9; (try simp (disch := omega) only [bG, Option.bind_some, Nat.reduceMul, Nat.reduceAdd, Nat.reduceEqDiff, Nat.reduceSub, Nat.reduceDiv, Nat.reduceLeDiff, bQ, bU, *] at hx9); subst hx9) | (with_reducible refine s_R2 ?_ ?_; (focus (simp (disch := omega) only [bG, Option.bind_some, Nat.reduceMul, Nat.reduceAdd, Nat.reduceEqDiff, Nat.reduceSub, Nat.reduceDiv, Nat.reduceLeDiff, bQ, *, Option.isSome_some]; done)); (intro o9 ho9; simp (disch := omega) only [bG, Option.bind_some, Nat.reduceMul, Nat.reduceAdd, Nat.reduceEqDiff, Nat.reduceSub, Nat.reduceDiv, Nat.reduceLeDiff, bQ, *, Option.some.injEq] at ho9; subst ho9)) | (with_reducible refine s_in2 ?_ ?_; (focus first | (simp (disch := omega) only [bG, Option.bind_some, Nat.reduceMul, Nat.reduceAdd, Nat.reduceEqDiff, Nat.reduceSub, Nat.reduceDiv, Nat.reduceLeDiff, bQ, *, bK]; omega) | (simp (disch := omega) only [bG, Option.bind_some, Nat.reduceMul, Nat.reduceAdd, Nat.reduceEqDiff, Nat.reduceSub, Nat.reduceDiv, Nat.reduceLeDiff, bQ, *, bK, or_false, false_or, Nat.lt_irrefl, or_self, Nat.not_lt_zero]; done) | decide)) | (with_reducible refine s_nz ?_ ?_; (focus first | decide | assumption)) | (with_reducible refine s_nzl ?_ ?_; (focus decide)) | (with_reducible refine s_z ?_ ?_; (focus first | exact Or.inl rfl | exact Or.inr rfl | assumption)) | (with_reducible refine s_ji ?_) | first | (with_reducible refine s_h ?_) | (with_reducible refine s_t ?_) | (with_reducible apply s_chan; (focus first | with_reducible rfl | (simp (disch := omega) only [bG, Option.bind_some, Nat.reduceMul, Nat.reduceAdd, Nat.reduceEqDiff, Nat.reduceSub, Nat.reduceDiv, Nat.reduceLeDiff, bQ, bU, *]; with_reducible rfl)); (focus omega)) | (with_reducible refine Ok.c2' ?_; (first | (first | (with_reducible show Ok (kf_let _ _) _) | (with_reducible show Ok (kf_j _ _) _) | (with_reducible show Ok (if _ then _ else _) _) | (with_reducible refine Ok.some ?_; try dsimp only) | (with_reducible show Ok (Option.bind (gR _ _) _) _) | (with_reducible show Ok (kf_in _ _ _) _) | (with_reducible show Ok (kf_nz _ _) _)) | (with_reducible refine Ok.c2' ?_; (first | (with_reducible show Ok (kf_let _ _) _) | (with_reducible show Ok (kf_j _ _) _) | (with_reducible show Ok (if _ then _ else _) _) | (with_reducible refine Ok.some ?_; try dsimp only) | (with_reducible show Ok (Option.bind (gR _ _) _) _) | (with_reducible show Ok (kf_in _ _ _) _) | (with_reducible show Ok (kf_nz _ _) _))))) | (with_reducible refine Ok.bind' ?_; (first | (first | (with_reducible show Ok (kf_let _ _) _) | (with_reducible show Ok (kf_j _ _) _) | (with_reducible show Ok (if _ then _ else _) _) | (with_reducible refine Ok.some ?_; try dsimp only) | (with_reducible show Ok (Option.bind (gR _ _) _) _) | (with_reducible show Ok (kf_in _ _ _) _) | (with_reducible show Ok (kf_nz _ _) _)) | (with_reducible refine Ok.c2' ?_; (first | (with_reducible show Ok (kf_let _ _) _) | (with_reducible show Ok (kf_j _ _) _) | (with_reducible show Ok (if _ then _ else _) _) | (with_reducible refine Ok.some ?_; try dsimp only) | (with_reducible show Ok (Option.bind (gR _ _) _) _) | (with_reducible show Ok (kf_in _ _ _) _) | (with_reducible show Ok (kf_nz _ _) _))))) | first | (with_reducible refine s_pos ?_ ?_; (focus (show (_ : String) = _; exact rfl))) | (with_reducible refine s_neg ?_ ?_; (focus (show ¬ ((_ : String) = _); decide))) | (first | (with_reducible refine s_pos ?_ ?_; (focus first | (simp (disch := omega) only [bG, Option.bind_some, Nat.reduceMul, Nat.reduceAdd, Nat.reduceEqDiff, Nat.reduceSub, Nat.reduceDiv, Nat.reduceLeDiff, bQ, bU, *]; done) | (simp (disch := omega) only [bG, Option.bind_some, Nat.reduceMul, Nat.reduceAdd, Nat.reduceEqDiff, Nat.reduceSub, Nat.reduceDiv, Nat.reduceLeDiff, bQ, bU, *]; omega) | omega)) | (with_reducible refine s_neg ?_ ?_; (focus first | (simp (disch := omega) only [bG, Option.bind_some, Nat.reduceMul, Nat.reduceAdd, Nat.reduceEqDiff, Nat.reduceSub, Nat.reduceDiv, Nat.reduceLeDiff, bQ, bU, *]; done) | (simp (disch := omega) only [bG, Option.bind_some, Nat.reduceMul, Nat.reduceAdd, Nat.reduceEqDiff, Nat.reduceSub, Nat.reduceDiv, Nat.reduceLeDiff, bQ, bU, *]; omega) | omega))))
        refine s_c hG ?_
        clear hG
        repeat (first | first | (with_reducible refine s_let ?_; intro x9 hx9; (try simp (disch := omega) only [bG, Option.bind_some, Nat.reduceMul, Nat.reduceAdd, Nat.reduceEqDiff, Nat.reduceSub, Nat.reduceDiv, Nat.reduceLeDiff, bQ, bU, *] at hx9); subst hx9) | (with_reducible refine s_R2 ?_ ?_; (focus (simp (disch := omega) only [bG, Option.bind_some, Nat.reduceMul, Nat.reduceAdd, Nat.reduceEqDiff, Nat.reduceSub, Nat.reduceDiv, Nat.reduceLeDiff, bQ, *, Option.isSome_some]; done)); (intro o9 ho9; simp (disch := omega) only [bG, Option.bind_some, Nat.reduceMul, Nat.reduceAdd, Nat.reduceEqDiff, Nat.reduceSub, Nat.reduceDiv, Nat.reduceLeDiff, bQ, *, Option.some.injEq] at ho9; subst ho9)) | (with_reducible refine s_in2 ?_ ?_; (focus first | (simp (disch := omega) only [bG, Option.bind_some, Nat.reduceMul, Nat.reduceAdd, Nat.reduceEqDiff, Nat.reduceSub, Nat.reduceDiv, Nat.reduceLeDiff, bQ, *, bK]; omega) | (simp (disch := omega) only [bG, Option.bind_some, Nat.reduceMul, Nat.reduceAdd, Nat.reduceEqDiff, Nat.reduceSub, Nat.reduceDiv, Nat.reduceLeDiff, bQ, *, bK, or_false, false_or, Nat.lt_irrefl, or_self, Nat.not_lt_zero]; done) | decide)) | (with_reducible refine s_nz ?_ ?_; (focus first | decide | assumption)) | (with_reducible refine s_nzl ?_ ?_; (focus decide)) | (with_reducible refine s_z ?_ ?_; (focus first | exact Or.inl rfl | exact Or.inr rfl | assumption)) | (with_reducible refine s_ji ?_) | first | (with_reducible refine s_h ?_) | (with_reducible refine s_t ?_) | (with_reducible apply s_chan; (focus first | with_reducible rfl | (simp (disch := omega) only [bG, Option.bind_some, Nat.reduceMul, Nat.reduceAdd, Nat.reduceEqDiff, Nat.reduceSub, Nat.reduceDiv, Nat.reduceLeDiff, bQ, bU, *]; with_reducible rfl)); (focus omega)) | (with_reducible refine Ok.c2' ?_; (first | (first | (with_reducible show Ok (kf_let _ _) _) | (with_reducible show Ok (kf_j _ _) _) | (with_reducible show Ok (if _ then _ else _) _) | (with_reducible refine Ok.some ?_; try dsimp only) | (with_reducible show Ok (Option.bind (gR _ _) _) _) | (with_reducible show Ok (kf_in _ _ _) _) | (with_reducible show Ok (kf_nz _ _) _)) | (with_reducible refine Ok.c2' ?_; (first | (with_reducible show Ok (kf_let _ _) _) | (with_reducible show Ok (kf_j _ _) _) | (with_reducible show Ok (if _ then _ else _) _) | (with_reducible refine Ok.some ?_; try dsimp only) | (with_reducible show Ok (Option.bind (gR _ _) _) _) | (with_reducible show Ok (kf_in _ _ _) _) | (with_reducible show Ok (kf_nz _ _) _))))) | (with_reducible refine Ok.bind' ?_; (first | (first | (with_reducible show Ok (kf_let _ _) _) | (with_reducible show Ok (kf_j _ _) _) | (with_reducible show Ok (if _ then _ else _) _) | (with_reducible refine Ok.some ?_; try dsimp only) | (with_reducible show Ok (Option.bind (gR _ _) _) _) | (with_reducible show Ok (kf_in _ _ _) _) | (with_reducible show Ok (kf_nz _ _) _)) | (with_reducible refine Ok.c2' ?_; (first | (with_reducible show Ok (kf_let _ _) _) | (with_reducible show Ok (kf_j _ _) _) | (with_reducible show Ok (if _ then _ else _) _) | (with_reducible refine Ok.some ?_; try dsimp only) | (with_reducible show Ok (Option.bind (gR _ _) _) _) | (with_reducible show Ok (kf_in _ _ _) _) | (with_reducible show Ok (kf_nz _ _) _))))) | first | (with_reducible refine s_pos ?_ ?_; (focus (show (_ : String) = _; exact rfl))) | (with_reducible refine s_neg ?_ ?_; (focus (show ¬ ((_ : String) = _); decide))) | (first | (with_reducible refine s_pos ?_ ?_; (focus first | (simp (disch := omega) only [bG, Option.bind_some, Nat.reduceMul, Nat.reduceAdd, Nat.reduceEqDiff, Nat.reduceSub, Nat.reduceDiv, Nat.reduceLeDiff, bQ, bU, *]; done) | (simp (disch := omega) only [bG, Option.bind_some, Nat.reduceMul, Nat.reduceAdd, Nat.reduceEqDiff, Nat.reduceSub, Nat.reduceDiv, Nat.reduceLeDiff, bQ, bU, *]; omega) | omega)) | (with_reducible refine s_neg ?_ ?_; (focus first | (simp (disch := omega) only [bG, Option.bind_some, Nat.reduceMul, Nat.reduceAdd, Nat.reduceEqDiff, Nat.reduceSub, Nat.reduceDiv, Nat.reduceLeDiff, bQ, bU, *]; done) | (simp (disch := omega) only [bG, Option.bind_some, Nat.reduceMul, Nat.reduceAdd, Nat.reduceEqDiff, Nat.reduceSub, Nat.reduceDiv, Nat.reduceLeDiff, bQ, bU, *]; omega) | omega))))
        exact nx
    · exact gB_ne (by decide)
    · rw [gB_eq rfl, upd_eq rfl]
    · intro j hj
      rw [gB_eq rfl, upd_ne (by omega)]
