/-! SAMPLES TAKEN, COLOURS LOOKED AT, THE PICTURE TAKEN OVER -/
def NewM (w h kd dp lc cc tc : Nat) (co th : Nat → Nat) (σ : Mm) : Prop :=
  gS σ 4048 = N w ∧ gS σ 4049 = N h ∧ gS σ 4050 = N kd ∧ gS σ 4051 = N dp ∧ gS σ 4052 = N lc ∧ gS σ 4055 = N cc ∧ gS σ 4057 = N tc ∧ (∀ i, i < 3 * cc → gB σ 69 i = N (co i)) ∧ ∀ i, i < tc → gB σ 70 i = N (th i)
theorem NewM.fr {P A : Nat → Prop} {σ σ' : Mm} {w h kd dp lc cc tc : Nat} {co th : Nat → Nat} (h0 : NewM w h kd dp lc cc tc co th σ) (hF : Fr P A σ σ') (hP : ∀ k ∈ [4048, 4049, 4050, 4051, 4052, 4055, 4057], ¬ P k) (hA : ∀ a ∈ [69, 70], ¬ A a) : NewM w h kd dp lc cc tc co th σ' := by
  obtain ⟨c0, c1, c2, c3, c4, c5, c6, c7, c8⟩ := h0
  refine ⟨(hF.S (hP _ (by decide))).trans c0, (hF.S (hP _ (by decide))).trans c1, (hF.S (hP _ (by decide))).trans c2, (hF.S (hP _ (by decide))).trans c3, (hF.S (hP _ (by decide))).trans c4, (hF.S (hP _ (by decide))).trans c5, (hF.S (hP _ (by decide))).trans c6, ?_, ?_⟩
  · rw [hF.B (hA _ (by decide))]; exact c7
  · rw [hF.B (hA _ (by decide))]; exact c8
/-- all numbers of points have colours -/
def goodS (w h kd cc : Nat) (sm : Nat → Nat) : Prop := kd = 3 → ∀ j, j < w * h → sm j < cc
def badS (w h kd cc : Nat) (sm : Nat → Nat) (p0 : Nat) : Prop := kd = 3 ∧ p0 < w * h ∧ cc ≤ sm p0 ∧ ∀ j, j < p0 → sm j < cc
theorem badS_u {w h kd cc a b : Nat} {sm : Nat → Nat} (h1 : badS w h kd cc sm a) (h2 : badS w h kd cc sm b) : a = b := by
  rcases Nat.lt_trichotomy a b with c | c | c
  · have := h2.2.2.2 a c
    have := h1.2.2.1
    omega
  · exact c
  · have := h1.2.2.2 b c
    have := h2.2.2.1
    omega
theorem goodS_bad {w h kd cc a : Nat} {sm : Nat → Nat} (h1 : goodS w h kd cc sm) (h2 : badS w h kd cc sm a) : False := by
  have := h1 h2.1 a h2.2.1
  have := h2.2.2.1
  omega
theorem ch_3 : ch 3 = 1 := rfl
theorem C_tail {n p w h kd dp lc cc tc : Nat} {sm co th : Nat → Nat} {s : Mm} (hn : 600000 < n) (hp : PtC s) (h38 : isP p) (hv : PicV w h kd dp lc cc tc sm co th) (hC : PicC p w h kd dp lc cc tc sm co th s) : Ok (ClTail n p s) (fun x => (goodS w h kd cc sm ∧ x.1 = 1 ∧ x.2 = s) ∨ (∃ p0, badS w h kd cc sm p0 ∧ x.1 = 0 ∧ FC 31 p0 x.2)) := by
  obtain ⟨v1, v2, v3, v4, v5, v6, v7, v8⟩ := id hv
  have hwh := whc (kd := kd) v1
  have hpw := pw_le v2
  unfold ClTail
  refine s_ji ?_
  refine s_ji ?_
  rw [hC.2.2.1]
  have hk6 := v2.b.1
  by_cases h3 : kd = 3
  · subst h3
    rw [ch_3, Nat.mul_one] at hwh
    refine s_pos rfl ?_
    unfold F_Rows_allColoursThere
    refine Ok.c2' ?_
    refine ok_for 0 (w * h) (fun i x s' => x = N i ∧ s' = s ∧ ∀ j, j < i → sm j < cc) ?_ (by omega) (by omega) ⟨rfl, rfl, fun j hj => by omega⟩
    rintro i k9 x s' - hi ⟨rfl, rfl, hj⟩ ih
    rw [hC.1, hC.2.1, N_mul]
    by_cases hie : w * h = i
    · subst hie
      refine s_pos (Int32.le_refl _) (s_z (Or.inr rfl) (Ok.some ?_))
      dsimp only
      refine s_neg (by decide) ?_
      exact s_z (Or.inr rfl) (Ok.some (Or.inl ⟨fun _ => hj, rfl, rfl⟩))
    · refine s_neg (by rw [N_le (by omega) (by omega)]; omega) ?_
      refine s_R (hp.pic_samples h38) ?_
      refine s_in rfl (by rw [kdp_1 h38]; omega) (by omega) ?_
      rw [N_nat (by omega), hC.2.2.2.2.2.2.2.2.2.1 i (by rw [ch_3]; omega), hC.2.2.2.2.2.2.1]
      have h6 := v6 i
      by_cases hlt : sm i < cc
      · refine s_pos (by rw [N_lt (by omega) (by omega)]; exact hlt) ?_
        refine s_let (fun x9 hx9 => ?_)
        rw [N_one, N_add] at hx9
        subst hx9
        refine ih (by omega) _ _ ⟨rfl, rfl, fun j hj2 => ?_⟩
        by_cases hji : j = i
        · subst hji; exact hlt
        · exact hj j (by omega)
      · refine s_neg (by rw [N_lt (by omega) (by omega)]; exact hlt) ?_
        refine (C_ref (c := 31) rfl rfl).c2 ?_
        rintro r s8 ⟨e8, h8⟩
        dsimp only at e8 h8 ⊢
        subst e8
        refine s_z (Or.inl rfl) (Ok.some ?_)
        dsimp only
        refine s_pos rfl ?_
        exact s_z (Or.inl rfl) (Ok.some (Or.inr ⟨i, ⟨rfl, by omega, by omega, hj⟩, rfl, h8⟩))
  · refine s_neg (N_ne (b := 3) (by omega) (by omega) h3) ?_
    exact s_z (Or.inr rfl) (Ok.some (Or.inl ⟨fun z => absurd z h3, rfl, rfl⟩))
set_option maxHeartbeats 2000000 in
theorem takeOver_ok {n w h kd dp lc cc tc : Nat} {sm co th : Nat → Nat} {t : Mm} (hn : 600000 < n) (hX : PtX t) (hv : PicV w h kd dp lc cc tc sm co th) (hN : NewM w h kd dp lc cc tc co th t) (hs : ∀ i, i < w * h * ch kd → gB t 68 i = N (sm i)) : Ok (F_Md_takeOver n 63 t) (fun t' => PicM w h kd dp lc cc tc sm co th t' ∧ gS t' 4037 = N 1 ∧ FM [4037, 4038, 4039, 4040, 4041, 4042, 4045, 4047] [65, 66, 67] t t') := by
  obtain ⟨v1, v2, v3, v4, v5, v6, v7, v8⟩ := id hv
  have hwh := whc (kd := kd) v1
  have hk6 := v2.b.1
  have hlc := v1.2.2.2.2
  obtain ⟨c0, c1, c2, c3, c4, c5, c6, c7, c8⟩ := id hN
  suffices hh : Ok (F_Md_takeOver n 63 t) (fun t' => PicM w h kd dp lc cc tc sm co th t' ∧ gS t' 4037 = N 1) from (hh.and (fr_Md_takeOver_63 hX)).mono (fun _ h => ⟨h.1.1, h.1.2, h.2⟩)
  unfold F_Md_takeOver
  refine s_z (Or.inr rfl) ?_
  refine s_let (fun t1 e1 => ?_)
  refine s_let (fun t2 e2 => ?_)
  refine s_let (fun t3 e3 => ?_)
  refine s_let (fun t4 e4 => ?_)
  refine s_let (fun t5 e5 => ?_)
  have f1 : FM [4037, 4038, 4039, 4040, 4041, 4042] [] t t1 := by rw [e1]; exact (FM.rfl hX).wS (by decide) _
  have f2 : FM [4037, 4038, 4039, 4040, 4041, 4042] [] t t2 := by rw [e2]; exact f1.wS (by decide) _
  have f3 : FM [4037, 4038, 4039, 4040, 4041, 4042] [] t t3 := by rw [e3]; exact f2.wS (by decide) _
  have f4 : FM [4037, 4038, 4039, 4040, 4041, 4042] [] t t4 := by rw [e4]; exact f3.wS (by decide) _
  have f5 : FM [4037, 4038, 4039, 4040, 4041, 4042] [] t t5 := by rw [e5]; exact f4.wS (by decide) _
  have g5 : gS t5 (64 * 63 + 20) = N lc := (f5.2.S (by decide)).trans c4
  refine s_z (by rw [g5]; rcases (show lc = 0 ∨ lc = 1 by omega) with rfl | rfl <;> decide) ?_
  refine s_let (fun t6 e6 => ?_)
  have f6 : FM [4037, 4038, 4039, 4040, 4041, 4042] [] t t6 := by rw [e6]; exact f5.wS (by decide) _
  have i1 : gS t6 4037 = N 1 := by rw [e6, gS_ne (by decide), e5, gS_ne (by decide), e4, gS_ne (by decide), e3, gS_ne (by decide), e2, gS_ne (by decide), e1]; exact gS_eq rfl
  have i2 : gS t6 4038 = N w := by rw [e6, gS_ne (by decide), e5, gS_ne (by decide), e4, gS_ne (by decide), e3, gS_ne (by decide), e2, gS_eq rfl]; exact (f1.2.S (by decide)).trans c0
  have i3 : gS t6 4039 = N h := by rw [e6, gS_ne (by decide), e5, gS_ne (by decide), e4, gS_ne (by decide), e3, gS_eq rfl]; exact (f2.2.S (by decide)).trans c1
  have i4 : gS t6 4040 = N kd := by rw [e6, gS_ne (by decide), e5, gS_ne (by decide), e4, gS_eq rfl]; exact (f3.2.S (by decide)).trans c2
  have i5 : gS t6 4041 = N dp := by rw [e6, gS_ne (by decide), e5, gS_eq rfl]; exact (f4.2.S (by decide)).trans c3
  have i6 : gS t6 4042 = N lc := by rw [e6, gS_eq rfl]; exact g5
  have hN6 := hN.fr f6.2 (by decide) (by decide)
  have hs6 : ∀ i, i < w * h * ch kd → gB t6 68 i = N (sm i) := fun i hi => by rw [f6.2.B (by decide)]; exact hs i hi
  have hX6 := f6.1
  clear e1 e2 e3 e4 e5 e6 f1 f2 f3 f4 f5 f6 g5 c0 c1 c2 c3 c4 c5 c6 c7 c8 hN hs hX
  refine ok_for 0 (w * h * ch kd) (fun i x t' => x = N i ∧ (∀ j, j < i → gB t' 65 j = N (sm j)) ∧ FM [] [65] t6 t') ?_ (by omega) (by omega) ⟨rfl, fun j hj => by omega, FM.rfl hX6⟩
  rintro i k9 x t7 - hi ⟨rfl, z7, f7⟩ ih
  have hk7 : gS t7 (64 * 63 + 8) = N kd := (f7.2.S (by decide)).trans i4
  rw [hk7]
  refine s_c (Md_channels_eq (by omega)) ?_
  rw [show gS t7 (64 * 63 + 6) = N w from (f7.2.S (by decide)).trans i2, show gS t7 (64 * 63 + 7) = N h from (f7.2.S (by decide)).trans i3, N_mul, N_mul]
  by_cases hie : w * h * ch kd = i
  · subst hie
    refine s_pos (Int32.le_refl _) ?_
    refine s_let (fun t8 e8 => ?_)
    rw [show gS t7 (64 * 63 + 23) = N cc from (f7.2.S (by decide)).trans hN6.2.2.2.2.2.1] at e8
    have f8 : FM [4045] [65] t6 t8 := by rw [e8]; exact FM.wS ⟨f7.1, f7.2.mono (by decide) (by decide)⟩ (by decide) _
    have cc8 : gS t8 4045 = N cc := by rw [e8]; exact gS_eq rfl
    have z8 : ∀ j, j < w * h * ch kd → gB t8 65 j = N (sm j) := by rw [e8]; exact z7
    clear e8 f7 z7 ih
    refine ok_for 0 (3 * cc) (fun i x t' => x = N i ∧ (∀ j, j < i → gB t' 66 j = N (co j)) ∧ FM [] [66] t8 t') ?_ (by omega) (by omega) ⟨rfl, fun j hj => by omega, FM.rfl f8.1⟩
    rintro i k9 x t9 - hi ⟨rfl, z9, f9⟩ ih
    rw [show gS t9 (64 * 63 + 13) = N cc from (f9.2.S (by decide)).trans cc8, show (3 : Int32) = N 3 from rfl, N_mul]
    by_cases hie : 3 * cc = i
    · subst hie
      refine s_pos (Int32.le_refl _) ?_
      refine s_let (fun t10 e10 => ?_)
      rw [show gS t9 (64 * 63 + 25) = N tc from (f9.2.S (by decide)).trans ((f8.2.S (by decide)).trans hN6.2.2.2.2.2.2.1)] at e10
      have f10 : FM [4045, 4047] [65, 66] t6 t10 := by rw [e10]; exact FM.wS ⟨f9.1, (f8.2.mono (by decide) (by decide)).trans (f9.2.mono (by decide) (by decide))⟩ (by decide) _
      have tc10 : gS t10 4047 = N tc := by rw [e10]; exact gS_eq rfl
      have cc10 : gS t10 4045 = N cc := by rw [e10, gS_ne (by decide)]; exact (f9.2.S (by decide)).trans cc8
      have z10 : ∀ j, j < w * h * ch kd → gB t10 65 j = N (sm j) := fun j hj => by rw [e10]; show gB t9 65 j = _; rw [f9.2.B (by decide)]; exact z8 j hj
      have y10 : ∀ j, j < 3 * cc → gB t10 66 j = N (co j) := by rw [e10]; exact z9
      clear e10 f9 z9 z8 ih f8
      refine ok_for 0 tc (fun i x t' => x = N i ∧ (∀ j, j < i → gB t' 67 j = N (th j)) ∧ FM [] [67] t10 t') ?_ (by omega) (by omega) ⟨rfl, fun j hj => by omega, FM.rfl f10.1⟩
      rintro i k9 x t11 - hi ⟨rfl, z11, f11⟩ ih
      rw [show gS t11 (64 * 63 + 15) = N tc from (f11.2.S (by decide)).trans tc10]
      have S6 : ∀ {k : Nat}, ¬ k ∈ [4045, 4047] → gS t11 k = gS t6 k := fun hk => (f11.2.S (by simp)).trans (f10.2.S hk)
      by_cases hie : tc = i
      · subst hie
        refine s_pos (Int32.le_refl _) (Ok.some ⟨⟨(S6 (by decide)).trans i2, (S6 (by decide)).trans i3, (S6 (by decide)).trans i4, (S6 (by decide)).trans i5, (S6 (by decide)).trans i6, (f11.2.S (by decide)).trans cc10, (f11.2.S (by decide)).trans tc10, fun j hj => ?_, fun j hj => ?_, z11⟩, (S6 (by decide)).trans i1⟩)
        · rw [f11.2.B (by decide)]; exact z10 j hj
        · rw [f11.2.B (by decide)]; exact y10 j hj
      · refine s_neg (by rw [N_le (by omega) (by omega)]; omega) ?_
        refine s_R f11.1.2.thins ?_
        refine s_R f11.1.2.newThins ?_
        refine s_in rfl (by rw [kd_70]; omega) (by omega) ?_
        refine s_in rfl (by rw [kd_67]; omega) (by omega) ?_
        refine s_let (fun t12 e12 => ?_)
        rw [N_nat (by omega), f11.2.B (by decide), f10.2.B (by decide), hN6.2.2.2.2.2.2.2.2 i (by omega)] at e12
        refine s_let (fun x9 hx9 => ?_)
        rw [N_one, N_add] at hx9
        subst hx9
        refine ih (by omega) _ _ ⟨rfl, fun j hj => ?_, by rw [e12]; exact f11.wB (by decide) _ _⟩
        rw [e12, gB_eq rfl]
        by_cases hji : j = i
        · rw [upd_eq hji, hji]
        · rw [upd_ne hji]; exact z11 j (by omega)
    · refine s_neg (by rw [N_le (by omega) (by omega)]; omega) ?_
      refine s_R f9.1.2.colours ?_
      refine s_R f9.1.2.newColours ?_
      refine s_in rfl (by rw [kd_69]; omega) (by omega) ?_
      refine s_in rfl (by rw [kd_66]; omega) (by omega) ?_
      refine s_let (fun t12 e12 => ?_)
      rw [N_nat (by omega), f9.2.B (by decide), f8.2.B (by decide), hN6.2.2.2.2.2.2.2.1 i (by omega)] at e12
      refine s_let (fun x9 hx9 => ?_)
      rw [N_one, N_add] at hx9
      subst hx9
      refine ih (by omega) _ _ ⟨rfl, fun j hj => ?_, by rw [e12]; exact f9.wB (by decide) _ _⟩
      rw [e12, gB_eq rfl]
      by_cases hji : j = i
      · rw [upd_eq hji, hji]
      · rw [upd_ne hji]; exact z9 j (by omega)
  · refine s_neg (by rw [N_le (by omega) (by omega)]; omega) ?_
    refine s_R f7.1.2.samples ?_
    refine s_R f7.1.2.newSamples ?_
    refine s_in rfl (by rw [kd_68]; omega) (by omega) ?_
    refine s_in rfl (by rw [kd_65]; omega) (by omega) ?_
    refine s_let (fun t12 e12 => ?_)
    rw [N_nat (by omega), f7.2.B (by decide), hs6 i (by omega)] at e12
    refine s_let (fun x9 hx9 => ?_)
    rw [N_one, N_add] at hx9
    subst hx9
    refine ih (by omega) _ _ ⟨rfl, fun j hj => ?_, by rw [e12]; exact f7.wB (by decide) _ _⟩
    rw [e12, gB_eq rfl]
    by_cases hji : j = i
    · rw [upd_eq hji, hji]
    · rw [upd_ne hji]; exact z7 j (by omega)
