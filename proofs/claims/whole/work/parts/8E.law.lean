/-! THE LAW'S MATHEMATICS -/
theorem Md_init_raw {n : Nat} {σ : Mm} : Pr (F_Md_init_63 n σ) (fun s => ∀ i, gB s 73 i = 0) := by
  intro x e i
  unfold F_Md_init_63 kf_let at e
  have h := Option.some.inj e
  rw [← h]
  simp only [gB_pR', gB_nw, Nat.reduceEqDiff, if_false, if_true]
theorem cptr_lt2 : ∀ q ∈ cptr, q.1 < 3968 := by decide
theorem notC2 {k : Nat} (h : 3968 ≤ k) : cptr.all (fun q => q.1 != k) = true := List.all_eq_true.mpr (fun q hq => by have := cptr_lt2 q hq; simp; omega)
theorem PO_lo {O : List Nat} {b k : Nat} (h : PO O k) (hb : ∀ o ∈ O, b ≤ o) : 64 * b ≤ k := by
  have := hb _ h
  omega
theorem math_ok : law_math := by
  intro M xs hM
  suffices hh : Ok (F_law 2000000 513 M xs law_m0) (fun r => r.1 = 1) by
    obtain ⟨⟨a, s⟩, e, h⟩ := hh
    dsimp only at h
    subst h
    exact ⟨2000000, s, e⟩
  unfold F_law
  refine s_let (fun s1 e1 => ?_)
  have S1 : Stat s1 := fun a ha => by
    rw [e1, gB_nw, if_neg (by omega)]
    rfl
  refine (PF_init_ok (n := 2000000) (σ := s1) (by decide)).bind ?_
  rintro s3 ⟨c1, c2, c3, c4, c5, c6, c7, c8, c9, f3⟩
  have S3 : Stat s3 := S1.fr f3 (fun a ha => by
    have : ∀ a ∈ (1 :: pfO), a < 100 := by decide
    exact this a ha)
  refine s_let (fun s5 e5 => ?_)
  have z5 : ∀ k, k / 64 = 63 → gS s5 k = 0 := fun k hk => by rw [e5, gS_nw, if_pos hk]
  have f5 : Fr (PO [62, 63, 64, 65, 66, 67, 68, 69, 70, 71, 72, 73, 74, 75, 76, 77, 78, 79, 80, 81]) (AO [62, 63, 64, 65, 66, 67, 68, 69, 70, 71, 72, 73, 74, 75, 76, 77, 78, 79, 80, 81]) s3 s5 := by rw [e5]; exact FrO.wN Fr.rfl (by decide) (by decide)
  refine ((Md_init_ok (n := 2000000) (σ := s5)).and Md_init_raw).bind ?_
  rintro s7 ⟨⟨d1, d2, f7⟩, d4⟩
  have f7' : Fr (PO [62, 63, 64, 65, 66, 67, 68, 69, 70, 71, 72, 73, 74, 75, 76, 77, 78, 79, 80, 81]) (AO [62, 63, 64, 65, 66, 67, 68, 69, 70, 71, 72, 73, 74, 75, 76, 77, 78, 79, 80, 81]) s3 s7 := f5.trans (fr_sub f7 (by decide) (by decide))
  refine s_let (fun s9 e9 => ?_)
  have f9 : Fr (PO [62, 63, 64, 65, 66, 67, 68, 69, 70, 71, 72, 73, 74, 75, 76, 77, 78, 79, 80, 81]) (AO [62, 63, 64, 65, 66, 67, 68, 69, 70, 71, 72, 73, 74, 75, 76, 77, 78, 79, 80, 81]) s3 s9 := by rw [e9]; exact FrO.wN f7' (by decide) (by decide)
  have g9 : Fr (PO [62]) (AO [62]) s7 s9 := by rw [e9]; exact FrO.wN Fr.rfl (by decide) (by decide)
  have m9 : ∀ k, k / 64 = 63 → gS s9 k = N 0 := fun k hk => by
    rw [g9.S (fun z => by have : k / 64 ∈ [62] := z; simp at this; omega), d2 k hk, z5 k hk]
    rfl
  refine law_loop_ok (n := 2000000) (J := JJ) hM (fun σ h => h.calls (by decide)) (by decide) ?_
  refine ⟨c1.fr' f9 (fun k hk => notC2 (PO_lo (b := 62) hk (by decide))), d1.frC g9 (fun k hk => by have : k / 64 ∈ [62] := hk; simp at this; omega), ⟨fun _ => 0, 0, ⟨(f9.S (by decide)).trans c5, by omega, fun _ => (by decide : 0 < 256), fun i hi => by omega⟩, m9 _ (by decide), fun i hi => by omega⟩, ?_, ⟨38, Or.inl rfl, (f9.R (by decide)).trans c2, (f9.R (by decide)).trans c3, Or.inl ⟨(f9.S (by decide)).trans c4, m9 _ (by decide)⟩⟩, fun i hi => by rw [f9.B (by decide)]; exact c7 i hi, ?_, ?_, c8.fr f9 (by decide) (by decide) (by decide) (by decide), c9.fr f9 (by decide) (by decide) (by decide) (by decide)⟩
  · exact ((f9.S (by decide)).trans c6).trans (m9 _ (by decide)).symm
  · exact S3.fr f9 (fun a ha => by
      have : ∀ a ∈ [62, 63, 64, 65, 66, 67, 68, 69, 70, 71, 72, 73, 74, 75, 76, 77, 78, 79, 80, 81], a < 100 := by decide
      exact this a ha)
  · intro i
    refine ⟨0, ?_⟩
    rw [g9.B (by decide), d4 i]
    decide
