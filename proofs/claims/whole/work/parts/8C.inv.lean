/-! WHAT HOLDS BETWEEN CALLS -/
def JJ (σ : Mm) : Prop := PtC σ ∧ PtM σ ∧ TapeR σ ∧ gS σ 320 = gS σ 4035 ∧ PicR σ ∧ Turns σ ∧ Stat σ ∧ Rng σ ∧ CodC 13 fixL 288 σ ∧ CodC 17 (fun _ => 5) 32 σ
theorem notC {k : Nat} (h : 4032 ≤ k) : cptr.all (fun q => q.1 != k) = true := List.all_eq_true.mpr (fun q hq => by have := cptr_lt q hq; simp; omega)
theorem notM {k : Nat} (h : k < 4032) : mptr.all (fun q => q.1 != k) = true := List.all_eq_true.mpr (fun q hq => by have := mptr_ge q hq; simp; omega)
theorem JJ.of {P A : Nat → Prop} {σ s : Mm} (h : JJ σ) (F : Fr P A σ s) (hC : PtC s) (hM : PtM s) (hT : TapeR s) (hP : PicR s) (hR : Rng s) (n1 : ∀ k ∈ [320, 4035, 835, 836, 1091, 1092], ¬ P k) (n2 : ∀ a ∈ [4, 14, 15, 18, 19], ¬ A a) (n3 : ∀ a, A a → a < 100) : JJ s := by
  obtain ⟨h1, h2, h3, h4, h5, h6, h7, h8, h9, h10⟩ := h
  exact ⟨hC, hM, hT, ((F.S (n1 _ (by decide))).trans h4).trans (F.S (n1 _ (by decide))).symm, hP, fun i hi => by rw [F.B (n2 _ (by decide))]; exact h6 i hi, h7.fr F n3, hR, h9.fr F (n1 _ (by decide)) (n1 _ (by decide)) (n2 _ (by decide)) (n2 _ (by decide)), h10.fr F (n1 _ (by decide)) (n1 _ (by decide)) (n2 _ (by decide)) (n2 _ (by decide))⟩
theorem PicR.frG {P A : Nat → Prop} {σ σ' : Mm} (h : PicR σ) (hF : Fr P A σ σ') (h1 : ∀ k ∈ [70, 71, 72, 4037], ¬ P k) (h2 : ∀ p, isP p → ∀ k, UPc p k → ¬ P k) (h3 : ∀ p, isP p → ∀ a, UAc p a → ¬ A a) (h4 : ∀ k, UPm k → ¬ P k) (h5 : ∀ a, UAm a → ¬ A a) : PicR σ' := by
  obtain ⟨p, hp, r1, r2, ⟨e1, e2⟩ | ⟨e1, e2, w, h, kd, dp, lc, cc, tc, sm, co, th, hv, hC, hM⟩⟩ := h
  · exact ⟨p, hp, (hF.R (h1 _ (by decide))).trans r1, (hF.R (h1 _ (by decide))).trans r2, Or.inl ⟨(hF.S (h1 _ (by decide))).trans e1, (hF.S (h1 _ (by decide))).trans e2⟩⟩
  · exact ⟨p, hp, (hF.R (h1 _ (by decide))).trans r1, (hF.R (h1 _ (by decide))).trans r2, Or.inr ⟨(hF.S (h1 _ (by decide))).trans e1, (hF.S (h1 _ (by decide))).trans e2, w, h, kd, dp, lc, cc, tc, sm, co, th, hv, hC.fr hF (h2 p hp) (h3 p hp), hM.fr hF h4 h5⟩⟩
theorem isP_b {p : Nat} (h : isP p) : 38 ≤ p ∧ p ≤ 50 := by rcases h with rfl | rfl <;> decide
/-- calls of the tape -/
theorem JJ.tape {σ s : Mm} (h : JJ σ) (F : Fr PTm ATm σ s) (hC : PtC s) (hM : PtM s) (hT : TapeR s) : JJ s :=
  h.of F hC hM hT (h.2.2.2.2.1.frG F (by decide) (fun p hp k hk z => by have := isP_b hp; unfold UPc PLay at hk; unfold PTm at z; omega) (fun p hp a ha z => by have := isP_b hp; unfold UAc ALay at ha; unfold ATm at z; omega) (fun k hk z => by unfold UPm at hk; unfold PTm at z; omega) (fun a ha z => by unfold UAm at ha; unfold ATm at z; omega)) (h.2.2.2.2.2.2.2.1.fr F (by decide)) (by decide) (by decide) (fun a z => by unfold ATm at z; omega)
/-- calls that ask -/
theorem JJ.ask {σ s : Mm} (h : JJ σ) (F : Fr PRo ARo σ s) (hR : Rng s) : JJ s :=
  h.of F (h.1.fr' F PRo_C) (h.2.1.fr' F PRo_M) (h.2.2.1.fr F (by decide) (by decide) (by decide) (by decide)) (h.2.2.2.2.1.ro F) hR (by decide) (by decide) (fun a z => by unfold ARo ARw at z; omega)
theorem PPic_C {p : Nat} (hp : isP p) (k : Nat) (h : PPic p k) : cptr.all (fun q => q.1 != k) = true := by
  unfold PPic at h
  rcases h with h | h | h | h | h
  · exact PRo_C k h
  · exact UPc_C hp k h
  · exact notC (by unfold UPm at h; omega)
  · subst h; decide
  · exact notC (by omega)
theorem PPic_M {p : Nat} (hp : isP p) (k : Nat) (h : PPic p k) : mptr.all (fun q => q.1 != k) = true := by
  have hb := isP_b hp
  unfold PPic at h
  rcases h with h | h | h | h | h
  · exact PRo_M k h
  · exact notM (by unfold UPc PLay at h; omega)
  · unfold UPm at h
    have hk : k ∈ [4038, 4039, 4040, 4041, 4042, 4045, 4047] := by simp; omega
    clear h
    revert k
    decide
  · subst h; decide
  · subst h; decide
/-- calls that change a picture -/
theorem JJ.pic {σ s : Mm} {p : Nat} (h : JJ σ) (hp : isP p) (F : Fr (PPic p) (APic p) σ s) (hP : PicR s) (hR : Rng s) : JJ s := by
  have hb := isP_b hp
  have nP : ∀ k, k < 1200 → k ≠ 72 → ¬ PPic p k := fun k h1 h2 z => by unfold PPic PRo UPc PLay UPm at z; omega
  have nA : ∀ a, a < 30 → a ≠ 8 → ¬ APic p a := fun a h1 h2 z => by unfold APic ARo ARw UAc ALay UAm at z; omega
  refine h.of F (h.1.fr' F (PPic_C hp)) (h.2.1.fr' F (PPic_M hp)) (h.2.2.1.fr F (nP _ (by decide) (by decide)) (fun z => by unfold PPic PRo UPc PLay UPm at z; omega) (nA _ (by decide) (by decide)) (fun z => by unfold APic ARo ARw UAc ALay UAm at z; omega)) hP hR (fun k hk => ?_) (fun a ha => nA a (by simp at ha; omega) (by simp at ha; omega)) (fun a z => by unfold APic ARo ARw UAc ALay UAm at z; omega)
  by_cases c : k < 1200
  · exact nP k c (by simp at hk; omega)
  · intro z
    simp at hk
    unfold PPic PRo UPc PLay UPm at z
    omega
theorem PWw_C (k : Nat) (h : PWw k) : cptr.all (fun q => q.1 != k) = true := by
  rcases h with h | h
  · exact PWf_C k h
  · exact notC (by unfold PMw PLm PRw PMb at h; omega)
theorem PWw_M (k : Nat) (h : PWw k) : mptr.all (fun q => q.1 != k) = true := by
  rcases h with h | h
  · exact notM (by unfold PWf PSh PCb PBd PT at h; omega)
  · unfold PMw PLm PRw PMb at h
    have hk : k ∈ [4070, 4071, 4084, 4085, 4034, 4087, 4088, 4086, 4032] := by simp; omega
    clear h
    revert k
    decide
theorem JJ.wri {σ s : Mm} (h : JJ σ) (F : Fr PWw AWw σ s) (hT : TapeR s) (hR : Rng s) : JJ s :=
  h.of F (h.1.fr' F PWw_C) (h.2.1.fr' F PWw_M) hT (h.2.2.2.2.1.frG F (fun k hk z => by simp at hk; unfold PWw PWf PSh PCb PBd PT PMw PLm PRw PMb at z; omega) (fun p hp k hk z => by have := isP_b hp; unfold UPc PLay at hk; unfold PWw PWf PSh PCb PBd PT PMw PLm PRw PMb at z; omega) (fun p hp a ha z => by have := isP_b hp; unfold UAc ALay at ha; unfold AWw AWf ASh AT A78 AMw ALm AMf ARw at z; omega) (fun k hk z => by unfold UPm at hk; unfold PWw PWf PSh PCb PBd PT PMw PLm PRw PMb at z; omega) (fun a ha z => by unfold UAm at ha; unfold AWw AWf ASh AT A78 AMw ALm AMf ARw at z; omega)) hR (fun k hk z => by simp at hk; unfold PWw PWf PSh PCb PBd PT PMw PLm PRw PMb at z; omega) (fun a ha z => by simp at ha; unfold AWw AWf ASh AT A78 AMw ALm AMf ARw at z; omega) (fun a z => by unfold AWw AWf ASh AT A78 AMw ALm AMf ARw at z; omega)
theorem Ok.seq {X Y : Type} {f : Option X} {g : X → Option Y} {R : X → Y → Prop} {P1 : X → Prop} {P2 : Y → Prop} (h : Ok f (fun r => Ok (g r) (fun s => R r s))) (h1 : Pr f P1) (h2 : ∀ r, P1 r → Pr (g r) P2) : Ok f (fun r => Ok (g r) (fun s => R r s ∧ P2 s)) := by
  obtain ⟨x, e, y, e2, hR⟩ := h
  exact ⟨x, e, y, e2, hR, h2 x (h1 x e) y e2⟩
theorem Rng.eq {σ s : Mm} (h : Rng σ) (e : gB s 73 = gB σ 73) : Rng s := fun i => by rw [e]; exact h i
theorem JJ.ki {σ : Mm} (h : JJ σ) {p : Nat} (r : gR σ 70 = some p) : KI p σ σ := ⟨⟨h.1, h.2.1⟩, r, rfl⟩
set_option maxHeartbeats 2000000 in
theorem step_read {n : Nat} (hn : 600000 < n) {σ : Mm} (h : JJ σ) : Ok (F_PF_read n 1 σ) (fun r => Ok (F_Md_read n 63 r.2) (fun s => r.1 = s.1 ∧ JJ s.2)) := by
  obtain ⟨h1, h2, ⟨T, len, hTC, hTM⟩, h4, hPR, h6, h7, h8, h9, h10⟩ := id h
  obtain ⟨p, hp, r1, r2, hpic⟩ := hPR
  have core : ∀ (q : Nat) (RP RA : List Nat), isP q → p + q = 88 → (∀ k ∈ RP, k < 4032 ∧ k ≠ 129 ∧ k ≠ 835 ∧ k ≠ 836 ∧ k ≠ 1091 ∧ k ≠ 1092 ∧ k ≠ 70 ∧ k ≠ 71 ∧ k ≠ 72 ∧ ¬ UPc p k) → (∀ a ∈ RA, a < 63 ∧ a ≠ 3 ∧ a ≠ 4 ∧ a ≠ 14 ∧ a ≠ 15 ∧ a ≠ 18 ∧ a ≠ 19 ∧ ¬ UAc p a) → (∀ τ : Mm, PtX τ → TapeM T len τ → Rng τ → Ok (F_PF_read n 1 σ) (fun x => Ok (F_Md_read n 63 τ) (fun y => RD p q RP RA σ τ x y))) → Ok (F_PF_read n 1 σ) (fun r => Ok (F_Md_read n 63 r.2) (fun s => r.1 = s.1 ∧ JJ s.2)) := by
    intro q RP RA hq hpq nP nA HR
    obtain ⟨x, ex, y0, -, hx⟩ := HR σ ⟨h1, h2⟩ hTM h8
    refine ⟨x, ex, ?_⟩
    have hXx : PtX x.2 := hx.2.2.1
    have F1 : FL (70 :: 71 :: 72 :: RP) RA σ x.2 := by
      rcases hx.2.2.2 with ⟨f, -⟩ | ⟨-, -, -, -, -, f⟩
      · exact f.mono (fun k hk => List.mem_cons_of_mem _ (List.mem_cons_of_mem _ (List.mem_cons_of_mem _ hk))) (fun _ h => h)
      · exact f
    clear hx
    have nP' : ∀ k, k ∈ 70 :: 71 :: 72 :: RP → k < 4032 ∧ k ≠ 129 ∧ k ≠ 835 ∧ k ≠ 836 ∧ k ≠ 1091 ∧ k ≠ 1092 := fun k hk => by
      simp only [List.mem_cons] at hk
      rcases hk with rfl | rfl | rfl | hk
      · decide
      · decide
      · decide
      · have := nP k hk
        exact ⟨this.1, this.2.1, this.2.2.1, this.2.2.2.1, this.2.2.2.2.1, this.2.2.2.2.2.1⟩
    have TMx : TapeM T len x.2 := ⟨(F1.S (fun z => by have := (nP' _ z).1; omega)).trans hTM.1, fun i hi => by rw [F1.B (fun z => by have := (nA _ z).1; omega)]; exact hTM.2 i hi⟩
    have Rx : Rng x.2 := h8.fr F1 (fun z => by have := (nA _ z).1; omega)
    obtain ⟨x', ex', y, ey, hy⟩ := HR x.2 hXx TMx Rx
    have exx : x = x' := Option.some.inj (ex.symm.trans ex')
    subst exx
    refine ⟨y, ey, hy.1, ?_⟩
    obtain ⟨g1, g2, g3⟩ := pr_Md_read (CM_IM x.2) (IM_0 hXx.2 Rx) y ey
    have GS : ∀ {k : Nat}, k < 4032 → gS y.2 k = gS x.2 k := fun hk => g3.S (fun z => by unfold PMd at z; omega)
    have GR : ∀ {k : Nat}, k < 4032 → gR y.2 k = gR x.2 k := fun hk => g3.R (fun z => by unfold PMd at z; omega)
    have GB : ∀ {a : Nat}, a < 64 ∨ 82 ≤ a → gB y.2 a = gB x.2 a := fun hk => g3.B (fun z => by unfold AMd at z; omega)
    have PCy : PtC y.2 := hXx.1.frM g3 (fun k hk => by unfold PMd at hk; omega)
    have FS : ∀ {k : Nat}, k < 4032 → ¬ k ∈ 70 :: 71 :: 72 :: RP → gS y.2 k = gS σ k := fun h1 h2 => (GS h1).trans (F1.S h2)
    have FB : ∀ {a : Nat}, a < 64 ∨ 82 ≤ a → ¬ a ∈ RA → gB y.2 a = gB σ a := fun h1 h2 => (GB h1).trans (F1.B h2)
    have cod : ∀ {c cnt : Nat} {ls : Nat → Nat}, CodC c ls cnt σ → (64 * c + 4 < 4032 ∧ ¬ (64 * c + 3) ∈ 70 :: 71 :: 72 :: RP ∧ ¬ (64 * c + 4) ∈ 70 :: 71 :: 72 :: RP) → (c + 2 < 64 ∧ ¬ (c + 1) ∈ RA ∧ ¬ (c + 2) ∈ RA) → CodC c ls cnt y.2 := fun hc h1 h2 => by
      obtain ⟨a1, a2, a3, a4, a5⟩ := hc
      exact ⟨by rw [FB (by omega) h2.2.1]; exact a1, fun L u v => by rw [FB (by omega) h2.2.1]; exact a2 L u v, fun k u v => by rw [FB (by omega) h2.2.2]; exact a3 k u v, (FS (by omega) h1.2.1).trans a4, (FS (by omega) h1.2.2).trans a5⟩
    have TMy : TapeM T len y.2 := by
      rcases hy.2.2.2 with ⟨-, f⟩ | ⟨-, -, -, -, -, -⟩
      · exact TMx.frL f (by decide) (by decide)
      · have f := fr_Md_read_63 hXx y ey
        exact TMx.frL f (by decide) (by decide)
    have hPRy : PicR y.2 := by
      rcases hy.2.2.2 with ⟨f, m⟩ | ⟨s1, s2, s3, s4, ⟨w, h, kd, dp, lc, cc, tc, sm, co, th, hv, hC, hM⟩, -⟩
      · have n3 : ∀ {k : Nat}, k = 70 ∨ k = 71 ∨ k = 72 → ¬ k ∈ RP := fun hk z => by have := nP _ z; omega
        have PM1 : ∀ {k : Nat}, 4032 ≤ k → gS x.2 k = gS σ k := fun hk => f.S (fun z => by have := (nP _ z).1; omega)
        refine ⟨p, hp, ((GR (by decide)).trans (f.R (n3 (by omega)))).trans r1, ((GR (by decide)).trans (f.R (n3 (by omega)))).trans r2, ?_⟩
        rcases hpic with ⟨e1, e2⟩ | ⟨e1, e2, w, h, kd, dp, lc, cc, tc, sm, co, th, hv, hC, hM⟩
        · exact Or.inl ⟨((GS (by decide)).trans (f.S (n3 (by omega)))).trans e1, ((m.2.S (by decide)).trans (PM1 (by decide))).trans e2⟩
        · refine Or.inr ⟨((GS (by decide)).trans (f.S (n3 (by omega)))).trans e1, ((m.2.S (by decide)).trans (PM1 (by decide))).trans e2, w, h, kd, dp, lc, cc, tc, sm, co, th, hv, ?_, ?_⟩
          · have hb := isP_b hp
            exact (hC.fr f (fun k hk z => (nP k z).2.2.2.2.2.2.2.2.2 hk) (fun a ha z => (nA a z).2.2.2.2.2.2.2 ha)).fr g3 (fun k hk z => by unfold UPc PLay at hk; unfold PMd at z; omega) (fun a ha z => by unfold UAc ALay at ha; unfold AMd at z; omega)
          · exact (hM.fr f (fun k hk z => by have := (nP k z).1; unfold UPm at hk; omega) (fun a ha z => by have := (nA a z).1; unfold UAm at ha; omega)).fr m.2 (fun k hk z => by unfold UPm at hk; simp at z; omega) (fun a ha z => by unfold UAm at ha; simp at z; omega)
      · have hb := isP_b hq
        refine ⟨q, hq, (GR (by decide)).trans s1, ((GR (by decide)).trans s2).trans (by rw [show p = 88 - q by omega]), Or.inr ⟨(GS (by decide)).trans s3, s4, w, h, kd, dp, lc, cc, tc, sm, co, th, hv, ?_, hM⟩⟩
        exact hC.fr g3 (fun k hk z => by unfold UPc PLay at hk; unfold PMd at z; omega) (fun a ha z => by unfold UAc ALay at ha; unfold AMd at z; omega)
    have nP6 : ∀ {k : Nat}, k = 129 ∨ k = 835 ∨ k = 836 ∨ k = 1091 ∨ k = 1092 → ¬ k ∈ 70 :: 71 :: 72 :: RP := fun hk z => by have := nP' _ z; omega
    have nA7 : ∀ {a : Nat}, a = 3 ∨ a = 4 ∨ a = 14 ∨ a = 15 ∨ a = 18 ∨ a = 19 → ¬ a ∈ RA := fun hk z => by have := nA _ z; omega
    refine ⟨PCy, g1, ⟨T, len, ⟨(FS (by decide) (nP6 (by omega))).trans hTC.1, hTC.2.1, hTC.2.2.1, fun i hi => by rw [FB (by omega) (nA7 (by omega))]; exact hTC.2.2.2 i hi⟩, TMy⟩, (GS (by decide)).trans hy.2.1, hPRy, fun i hi => by rw [FB (by omega) (nA7 (by omega))]; exact h6 i hi, fun a ha => (FB (Or.inr (by omega)) (fun z => by have := (nA a z).1; omega)).trans (h7 a ha), g2, cod h9 ⟨by decide, nP6 (by omega), nP6 (by omega)⟩ ⟨by decide, nA7 (by omega), nA7 (by omega)⟩, cod h10 ⟨by decide, nP6 (by omega), nP6 (by omega)⟩ ⟨by decide, nA7 (by omega), nA7 (by omega)⟩⟩
  rcases hp with rfl | rfl
  · refine core 50 RP_50 RA_50 (Or.inr rfl) rfl ?_ ?_ (fun τ a b c => L_read_50 hn ⟨h1, h2⟩ hTC h6 h7 h9 h10 r1 r2 a b c)
    · intro k hk
      have : ∀ k ∈ RP_50, k < 4032 ∧ k ≠ 129 ∧ k ≠ 835 ∧ k ≠ 836 ∧ k ≠ 1091 ∧ k ≠ 1092 ∧ k ≠ 70 ∧ k ≠ 71 ∧ k ≠ 72 ∧ ¬ ((2432 ≤ k ∧ k ≤ 2439) ∨ k = 2688 ∨ k = 2689 ∨ k = 2690) := by decide
      exact this k hk
    · intro a ha
      have : ∀ a ∈ RA_50, a < 63 ∧ a ≠ 3 ∧ a ≠ 4 ∧ a ≠ 14 ∧ a ≠ 15 ∧ a ≠ 18 ∧ a ≠ 19 ∧ ¬ ((39 ≤ a ∧ a ≤ 41) ∨ (43 ≤ a ∧ a ≤ 49)) := by decide
      exact this a ha
  · refine core 38 RP_38 RA_38 (Or.inl rfl) rfl ?_ ?_ (fun τ a b c => L_read_38 hn ⟨h1, h2⟩ hTC h6 h7 h9 h10 r1 r2 a b c)
    · intro k hk
      have : ∀ k ∈ RP_38, k < 4032 ∧ k ≠ 129 ∧ k ≠ 835 ∧ k ≠ 836 ∧ k ≠ 1091 ∧ k ≠ 1092 ∧ k ≠ 70 ∧ k ≠ 71 ∧ k ≠ 72 ∧ ¬ ((3200 ≤ k ∧ k ≤ 3207) ∨ k = 3456 ∨ k = 3457 ∨ k = 3458) := by decide
      exact this k hk
    · intro a ha
      have : ∀ a ∈ RA_38, a < 63 ∧ a ≠ 3 ∧ a ≠ 4 ∧ a ≠ 14 ∧ a ≠ 15 ∧ a ≠ 18 ∧ a ≠ 19 ∧ ¬ ((51 ≤ a ∧ a ≤ 53) ∨ (55 ≤ a ∧ a ≤ 61)) := by decide
      exact this a ha
