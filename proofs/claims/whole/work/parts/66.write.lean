/-! THE CALL write -/
abbrev PWw (k : Nat) : Prop := PWf k ∨ PMw k
abbrev PCo1 (k : Nat) : Prop := k = 4032
abbrev AW6 (a : Nat) : Prop := AWf a ∨ a = 62
abbrev AWw (a : Nat) : Prop := AWf a ∨ AMw a ∨ a = 62
theorem step_write {n : Nat} (hn : 65536 < n) {x : Int32} (hx : x = 0 ∨ x = 1) {σ : Mm} (hc : PtC σ) (hm : PtM σ) (hst : Stat σ) (hT : Turns σ) (hrg : Rng σ) (hta : TapeR σ) (h0 : PicR σ) : Ok (F_Lw_write n 1 x 62 σ) (fun r => Ok (F_Md_write n 63 x r.2) (fun s => gS s.2 4032 = r.1 ∧ (r.1 = 0 → gK s.2 62 0 = s.1.toInt64) ∧ TapeR s.2 ∧ Rng s.2 ∧ Fr PWw AWw σ s.2)) := by
  obtain ⟨a, ha, rfl⟩ : ∃ a, a ≤ 1 ∧ x = N a := by
    rcases hx with h | h
    · exact ⟨0, by decide, h⟩
    · exact ⟨1, by decide, h⟩
  obtain ⟨p, hp, r1, r2, ⟨e1, e2⟩ | ⟨e1, e2, w, h, kd, dp, lc, cc, tc, sm, co, th, hv, hC, hM⟩⟩ := id h0
  · unfold F_Lw_write F_PF_write F_PF_wantPicture F_Md_write
    repeat (first | first | (with_reducible refine s_let ?_; intro x9 hx9; (try simp (disch := omega) only [bG, Option.bind_some, Nat.reduceMul, Nat.reduceAdd, Nat.reduceEqDiff, Nat.reduceSub, Nat.reduceDiv, Nat.reduceLeDiff, bQ, bU, *] at hx9); subst hx9) | (with_reducible refine s_R2 ?_ ?_; (focus (simp (disch := omega) only [bG, Option.bind_some, Nat.reduceMul, Nat.reduceAdd, Nat.reduceEqDiff, Nat.reduceSub, Nat.reduceDiv, Nat.reduceLeDiff, bQ, *, Option.isSome_some]; done)); (intro o9 ho9; simp (disch := omega) only [bG, Option.bind_some, Nat.reduceMul, Nat.reduceAdd, Nat.reduceEqDiff, Nat.reduceSub, Nat.reduceDiv, Nat.reduceLeDiff, bQ, *, Option.some.injEq] at ho9; subst ho9)) | (with_reducible refine s_in2 ?_ ?_; (focus first | (simp (disch := omega) only [bG, Option.bind_some, Nat.reduceMul, Nat.reduceAdd, Nat.reduceEqDiff, Nat.reduceSub, Nat.reduceDiv, Nat.reduceLeDiff, bQ, *, bK]; omega) | (simp (disch := omega) only [bG, Option.bind_some, Nat.reduceMul, Nat.reduceAdd, Nat.reduceEqDiff, Nat.reduceSub, Nat.reduceDiv, Nat.reduceLeDiff, bQ, *, bK, or_false, false_or, Nat.lt_irrefl, or_self, Nat.not_lt_zero]; done) | decide)) | (with_reducible refine s_nz ?_ ?_; (focus first | decide | assumption)) | (with_reducible refine s_nzl ?_ ?_; (focus decide)) | (with_reducible refine s_z ?_ ?_; (focus first | exact Or.inl rfl | exact Or.inr rfl | assumption)) | (with_reducible refine s_ji ?_) | first | (with_reducible refine s_h ?_) | (with_reducible refine s_t ?_) | (with_reducible apply s_chan; (focus first | with_reducible rfl | (simp (disch := omega) only [bG, Option.bind_some, Nat.reduceMul, Nat.reduceAdd, Nat.reduceEqDiff, Nat.reduceSub, Nat.reduceDiv, Nat.reduceLeDiff, bQ, bU, *]; with_reducible rfl)); (focus omega)) | (with_reducible refine Ok.c2' ?_; (first | (first | (with_reducible show Ok (kf_let _ _) _) | (with_reducible show Ok (kf_j _ _) _) | (with_reducible show Ok (if _ then _ else _) _) | (with_reducible refine Ok.some ?_; try dsimp only) | (with_reducible show Ok (Option.bind (gR _ _) _) _) | (with_reducible show Ok (kf_in _ _ _) _) | (with_reducible show Ok (kf_nz _ _) _)) | (with_reducible refine Ok.c2' ?_; (first | (with_reducible show Ok (kf_let _ _) _) | (with_reducible show Ok (kf_j _ _) _) | (with_reducible show Ok (if _ then _ else _) _) | (with_reducible refine Ok.some ?_; try dsimp only) | (with_reducible show Ok (Option.bind (gR _ _) _) _) | (with_reducible show Ok (kf_in _ _ _) _) | (with_reducible show Ok (kf_nz _ _) _))))) | (with_reducible refine Ok.bind' ?_; (first | (first | (with_reducible show Ok (kf_let _ _) _) | (with_reducible show Ok (kf_j _ _) _) | (with_reducible show Ok (if _ then _ else _) _) | (with_reducible refine Ok.some ?_; try dsimp only) | (with_reducible show Ok (Option.bind (gR _ _) _) _) | (with_reducible show Ok (kf_in _ _ _) _) | (with_reducible show Ok (kf_nz _ _) _)) | (with_reducible refine Ok.c2' ?_; (first | (with_reducible show Ok (kf_let _ _) _) | (with_reducible show Ok (kf_j _ _) _) | (with_reducible show Ok (if _ then _ else _) _) | (with_reducible refine Ok.some ?_; try dsimp only) | (with_reducible show Ok (Option.bind (gR _ _) _) _) | (with_reducible show Ok (kf_in _ _ _) _) | (with_reducible show Ok (kf_nz _ _) _))))) | first | (with_reducible refine s_pos ?_ ?_; (focus (show (_ : String) = _; exact rfl))) | (with_reducible refine s_neg ?_ ?_; (focus (show ¬ ((_ : String) = _); decide))) | (first | (with_reducible refine s_pos ?_ ?_; (focus first | (simp (disch := omega) only [bG, Option.bind_some, Nat.reduceMul, Nat.reduceAdd, Nat.reduceEqDiff, Nat.reduceSub, Nat.reduceDiv, Nat.reduceLeDiff, bQ, bU, *]; done) | (simp (disch := omega) only [bG, Option.bind_some, Nat.reduceMul, Nat.reduceAdd, Nat.reduceEqDiff, Nat.reduceSub, Nat.reduceDiv, Nat.reduceLeDiff, bQ, bU, *]; omega) | omega)) | (with_reducible refine s_neg ?_ ?_; (focus first | (simp (disch := omega) only [bG, Option.bind_some, Nat.reduceMul, Nat.reduceAdd, Nat.reduceEqDiff, Nat.reduceSub, Nat.reduceDiv, Nat.reduceLeDiff, bQ, bU, *]; done) | (simp (disch := omega) only [bG, Option.bind_some, Nat.reduceMul, Nat.reduceAdd, Nat.reduceEqDiff, Nat.reduceSub, Nat.reduceDiv, Nat.reduceLeDiff, bQ, bU, *]; omega) | omega))) | (with_reducible refine Ok.some ?_; try dsimp only))
    refine ⟨by first | (simp (disch := omega) only [bG, Option.bind_some, Nat.reduceMul, Nat.reduceAdd, Nat.reduceEqDiff, Nat.reduceSub, Nat.reduceDiv, Nat.reduceLeDiff, bQ, bU, *]; done) | (simp (disch := omega) only [bG, Option.bind_some, Nat.reduceMul, Nat.reduceAdd, Nat.reduceEqDiff, Nat.reduceSub, Nat.reduceDiv, Nat.reduceLeDiff, bQ, bU, *]; rfl) | rfl, fun h => absurd h (by decide), ?_, ?_, ?_⟩
    · have f : Fr PWw AWw σ (pS σ 4032 (N 1)) := Fr.wS Fr.rfl (Or.inr (Or.inr (Or.inr (Or.inr rfl)))) _
      exact hta.fr (P := PCo1) (A := PN) (Fr.wS Fr.rfl (show PCo1 4032 from rfl) _) (by decide) (by decide) id id
    · exact hrg
    · exact Fr.wS Fr.rfl (Or.inr (Or.inr (Or.inr (Or.inr rfl)))) _
  · unfold F_Lw_write F_PF_write F_PF_wantPicture
    refine s_h ?_
    refine s_t ?_
    refine s_neg (by rw [e1]; decide) (Ok.some ?_)
    dsimp only
    refine s_R hc.PF_writer ?_
    refine s_R r1 ?_
    refine (writeFile_ok rfl ha hn hc hst hT hp hv hC).bind ?_
    rintro s1 ⟨R, hR, t1, f1⟩
    have hc1 := hc.fr' f1 PWf_C
    refine s_R hc1.PF_tape (Ok.some ?_)
    dsimp only
    refine s_in2 (by decide) ?_
    refine s_let (fun s2 h2 => ?_)
    refine Ok.some ?_
    dsimp only
    have f2 : Fr PWf AW6 σ s2 := by
      rw [h2]
      exact Fr.wK (P := PWf) (A := AW6) (f1.mono (fun _ h => h) (fun _ h => Or.inl h)) (Or.inr rfl) _ _
    have k2 : gK s2 62 0 = (gS s1 129).toInt64 := by
      rw [h2, gK_eq rfl]
      exact if_pos rfl
    have t2 : TapeC (flE (flD (flT w h kd dp lc cc tc co th) R (bt w h lc (ch kd * dp) 8) a)).1 (flE (flD (flT w h kd dp lc cc tc co th) R (bt w h lc (ch kd * dp) 8) a)).2 s2 := by rw [h2]; exact t1
    clear h2
    have m2 : PtM s2 := hm.fr' f2 (fun k hk => by
      rcases hk with (hk | hk | hk) | hk
      · unfold PCb PT at hk; rcases hk with h | h | h <;> subst h <;> decide
      · unfold PBd at hk; rcases hk with h | h <;> subst h <;> decide
      · subst hk; decide
      · subst hk; decide)
    have g2 : Rng s2 := hrg.fr f2 (by decide)
    have M2 : PicM w h kd dp lc cc tc sm co th s2 := hM.fr f2 (fun k hk => by unfold UPm at hk; unfold PWf PSh PCb PT PBd; omega) (fun a ha => by unfold UAm at ha; unfold AW6 AWf ASh AT A78; omega)
    refine ((Md_write_ok rfl ha hn m2 g2 ((f2.S (by decide)).trans e2) hv M2 hR).and (pr_Md_write (CM_IM s2) (IM_0 m2 g2))).mono ?_
    rintro ⟨r, s3⟩ ⟨⟨z1, z2, z3, z4⟩, -, z5, -⟩
    dsimp only at z1 z2 z3 z4 z5 ⊢
    have t3 : TapeC (flE (flD (flT w h kd dp lc cc tc co th) R (bt w h lc (ch kd * dp) 8) a)).1 (flE (flD (flT w h kd dp lc cc tc co th) R (bt w h lc (ch kd * dp) 8) a)).2 s3 := ⟨(z4.S (by decide)).trans t2.1, t2.2.1, t2.2.2.1, fun i hi => by rw [z4.B (by decide)]; exact t2.2.2.2 i hi⟩
    refine ⟨z2, fun _ => ?_, ⟨_, _, t3, z3⟩, z5, (f2.mono (fun _ h => Or.inl h) (fun _ h => h.elim Or.inl (fun h => Or.inr (Or.inr h)))).trans (z4.mono (fun _ h => Or.inr h) (fun _ h => Or.inr (Or.inl h)))⟩
    rw [z4.K (by decide), k2, z1, t1.1]
