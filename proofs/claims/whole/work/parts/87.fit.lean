/-! A WHOLE PIECE IS TAKEN, BOTH SIDES -/
def PicB (q hc ht : Nat) (s t : Mm) : Prop := ∃ (w h kd dp lc cc tc : Nat) (co th : Nat → Nat), PV w h kd dp lc cc tc co th ∧ PicC q w h kd dp lc cc tc z0 co th s ∧ NewM w h kd dp lc cc tc co th t ∧ (hc = 0 → cc = 0) ∧ (ht = 0 → tc = 0)
def FitP (q : Nat) (T : Nat → Nat) (len at2 m : Nat) (wh : Nat → Nat) (ck bf hc ht pc ty : Nat) (s t : Mm) : Prop := WC q T len m wh ck bf hc ht (if pc = 0 then 0 else 1) s ∧ WM T len m wh ck hc ht pc t ∧ hc < 2 ∧ ht < 2 ∧ pc < 3 ∧ (ty = 1229209940 ↔ pc = 1) ∧ (ty = 1229278788 → 0 < pc) ∧ m + 8 ≤ at2 ∧ PicB q hc ht s t
def LI (q : Nat) (T : Nat → Nat) (len at' m : Nat) (wh : Nat → Nat) (ck bf hc ht pc : Nat) (s t : Mm) : Prop := WC q T len m wh ck bf hc ht (if pc = 0 then 0 else 1) s ∧ WM T len m wh ck hc ht pc t ∧ hc < 2 ∧ ht < 2 ∧ pc < 3 ∧ bf < 4294967296 ∧ (bf = 0 ↔ at' = 8) ∧ (bf = 1229209940 ↔ pc = 1) ∧ m + 8 ≤ at' ∧ (at' = 8 → gS t 4055 = N 0 ∧ gS t 4057 = N 0 ∧ hc = 0 ∧ ht = 0 ∧ pc = 0) ∧ (at' ≠ 8 → PicB q hc ht s t)
theorem kd_5 {kd dp : Nat} (h : kdOk kd dp) : kd = 0 ∨ kd = 2 ∨ kd = 3 ∨ kd = 4 ∨ kd = 6 := by unfold kdOk at h; omega
theorem PicC.frC {P A : Nat → Prop} {σ σ' : Mm} {p w h kd dp lc cc tc cc' tc' : Nat} {sm co th co' th' : Nat → Nat} (hp : isP p) (h0 : PicC p w h kd dp lc cc tc sm co th σ) (hF : Fr P A σ σ') (hP : ∀ k, P k → k < 1000 ∨ k = 64 * p + 6 ∨ k = 64 * p + 7) (hA : ∀ a, A a → a < 30 ∨ a = p + 2 ∨ a = p + 3) (n6 : gS σ' (64 * p + 6) = N cc') (n7 : gS σ' (64 * p + 7) = N tc') (n2 : ∀ i, i < 3 * cc' → gB σ' (p + 2) i = N (co' i)) (n3 : ∀ i, i < tc' → gB σ' (p + 3) i = N (th' i)) : PicC p w h kd dp lc cc' tc' sm co' th' σ' := by
  have hq2 : 38 ≤ p ∧ p ≤ 50 := by rcases hp with rfl | rfl <;> decide
  refine h0.upd hF (fun k hk z => ?_) (fun a ha z => ?_) n6 n7 (fun i hi => ?_) n2 n3
  · have := hP k z
    unfold PLay at hk
    omega
  · have := hA a z
    unfold ALay at ha
    omega
  · rw [hF.B (fun z => by have := hA _ z; omega)]
    exact h0.2.2.2.2.2.2.2.2.2.1 i hi
theorem MS.a {at' ty kd hc ht pc : Nat} (h : MS at' ty kd hc ht pc) (c : at' = 8) : ty = 1229472850 := h.1 c
theorem MS.b {at' ty kd hc ht pc : Nat} (h : MS at' ty kd hc ht pc) (c : ty = 1229472850) : at' = 8 := by
  by_cases z : at' = 8
  · exact z
  · exact absurd c (h.2 z).1
theorem MS.p {at' ty kd hc ht pc : Nat} (h : MS at' ty kd hc ht pc) (z : at' ≠ 8) (c : ty = 1347179589) : (kd = 2 ∨ kd = 3 ∨ kd = 6) ∧ hc = 0 ∧ ht = 0 ∧ pc = 0 := (h.2 z).2.1 c
theorem MS.t {at' ty kd hc ht pc : Nat} (h : MS at' ty kd hc ht pc) (z : at' ≠ 8) (c : ty = 1951551059) : (kd = 0 ∨ kd = 2 ∨ kd = 3) ∧ ¬ (kd = 3 ∧ hc = 0) ∧ ht = 0 ∧ pc = 0 := (h.2 z).2.2.1 c
theorem MS.e {at' ty kd hc ht pc : Nat} (h : MS at' ty kd hc ht pc) (z : at' ≠ 8) (c : ty = 1229278788) : 0 < pc := (h.2 z).2.2.2.2 c
theorem knT_no {ty v : Nat} (h : ¬ (knT ty ∨ 97 ≤ v)) : ty ≠ 1229472850 ∧ ty ≠ 1347179589 ∧ ty ≠ 1951551059 ∧ ty ≠ 1229209940 ∧ ty ≠ 1229278788 ∧ v < 97 := by
  unfold knT at h
  refine ⟨fun z => h (Or.inl (Or.inl z)), fun z => h (Or.inl (Or.inr (Or.inl z))), fun z => h (Or.inl (Or.inr (Or.inr (Or.inl z)))), fun z => h (Or.inl (Or.inr (Or.inr (Or.inr (Or.inl z))))), fun z => h (Or.inl (Or.inr (Or.inr (Or.inr (Or.inr z))))), ?_⟩
  by_cases z : 97 ≤ v
  · exact absurd (Or.inr z) h
  · omega
theorem knT_yes {ty v : Nat} (h : knT ty ∨ 97 ≤ v) (c1 : ¬ ty = 1229472850) (c2 : ¬ ty = 1347179589) (c3 : ¬ ty = 1951551059) (c4 : ¬ ty = 1229209940) (c5 : ¬ ty = 1229278788) : 97 ≤ v := by
  rcases h with h | h
  · unfold knT at h
    rcases h with h | h | h | h | h
    · exact absurd h c1
    · exact absurd h c2
    · exact absurd h c3
    · exact absurd h c4
    · exact absurd h c5
  · exact h
set_option maxHeartbeats 4000000 in
theorem L_fit {n q len at' m ck bf hc ht pc : Nat} {T wh : Nat → Nat} {s t : Mm} {X Y : Type} {fk : Int32 → Mm → Option X} {gk gk0 : Mm → Option Y} {Q : X → Y → Prop} (hn : 600000 < n) (hq : isP q) (hI : LI q T len at' m wh ck bf hc ht pc s t) (hW : WholeOk T len at')
  (hgood : ∀ m' wh' ck' hc' ht' pc' s' t', FitP q T len (at' + 12 + num T at') m' wh' ck' bf hc' ht' pc' (num T (at' + 4)) s' t' → Ok (fk 1 s') (fun a => Ok (gk t') (fun b => Q a b)))
  (hbad : ∀ cd pl s' t', FC cd pl s' → FV cd pl t' → Ok (fk 0 s') (fun a => Ok (gk0 t') (fun b => Q a b))) :
  Ok (kf_c2 (F_Pieces_isFit n 11 (N at') s) fk) (fun a => Ok (kf_c2 (F_Md_mayStand n 63 (N at') t) fun x18 σ19 => if x18 = 0 then gk0 σ19 else (kf_c2 (F_Md_readPiece n 63 (N at') σ19) fun x20 σ21 => if x20 = 0 then gk0 σ21 else gk σ21)) (fun b => Q a b)) := by
  obtain ⟨hC, hM, hcb, htb, hpb, hbb, hb0, hb1, hmat, h8a, h8b⟩ := hI
  obtain ⟨w1, w2, w3, w4⟩ := hW
  obtain ⟨⟨hX, hT, -⟩, -, r2, r3, r4, r5, r6, r7, r8, -⟩ := id hC
  obtain ⟨hXM, hTM, m3, -, -, -, m7, m8, m9, m10⟩ := id hM
  have hl := hT.2.1
  have h3 := hT.2.2.1
  have hp := hX.1.1
  have hty := num_lt h3 (at' + 4)
  have hq2 : 38 ≤ q ∧ q ≤ 50 := by rcases hq with rfl | rfl <;> decide
  -- the kind, where there is one
  obtain ⟨kd, kd5, kdC, kdM⟩ : ∃ kd : Nat, (kd = 0 ∨ kd = 2 ∨ kd = 3 ∨ kd = 4 ∨ kd = 6) ∧ (at' ≠ 8 → gS s (64 * q + 2) = N kd) ∧ (at' ≠ 8 → gS t 4050 = N kd) := by
    by_cases c : at' = 8
    · exact ⟨0, Or.inl rfl, fun z => absurd c z, fun z => absurd c z⟩
    · obtain ⟨w, h, kd, dp, lc, cc, tc, co, th, hv, hPc, hN, -, -⟩ := h8b c
      exact ⟨kd, kd_5 hv.2.1, fun _ => hPc.2.2.1, fun _ => hN.2.2.1⟩
  obtain ⟨b, eb, hb⟩ := C_may (n := n) (at' := at') (ty := num T (at' + 4)) (kd := kd) (pc := pc) rfl hty hX r3 r4 r5 r6 kdC (by omega) hbb hb0 hb1 rfl hcb htb hpb
  have hmay := M_may (n := n) (kd := kd) rfl hn hXM.2 hTM hl h3 (by omega) m8 m9 m10 kdM (Or.inr (by omega)) kd5 hcb htb hpb
  have e4 : N at' + 4 = N (at' + 4) := by rw [show (4 : Int32) = N 4 from rfl, N_add]
  have kd6 : kd ≤ 6 := by clear hb hmay eb h8a h8b hb0 hb1; omega
  clear kd5 hb0 hb1
  unfold F_Pieces_isFit
  refine Ok.c2' ?_
  refine Ok.inn ?_
  refine s_R hp.Pieces_tape ?_
  refine s_c (C_number e4 hp hT (by omega)) ?_
  refine s_R hp.Pieces_tape ?_
  refine s_c (C_number rfl hp hT (by omega)) ?_
  refine s_c eb ?_
  refine Ok.sw ?_
  refine hmay.c2 ?_
  rintro r1 t1 hr1
  rcases hr1 with ⟨hMS, hkn, he⟩ | ⟨hMS, hkn, he, hf⟩ | ⟨hMS, he, hf⟩
  case inr.inr =>
    dsimp only at he hf
    subst he
    have hb' : b = 0 := by rcases hb with h | h; exact absurd h.2 hMS; exact h.1
    subst hb'
    refine s_pos rfl ?_
    refine Ok.sw ?_
    refine s_pos rfl ?_
    refine s_R hp.Pieces_fault ?_
    refine (C_ref (c := 6) rfl e4).c2 ?_
    rintro r s8 ⟨e8, h8⟩
    dsimp only at e8 h8 ⊢
    subst e8
    refine s_z (Or.inl rfl) (Ok.some ?_)
    exact (hbad _ _ _ _ h8 hf).sw
  case inr.inl =>
    dsimp only at he hf
    subst he
    have hb' : b = 1 := by rcases hb with h | h; exact h.1; exact absurd hMS h.2
    subst hb'
    obtain ⟨n1, n2, n3, n4, n5, n6⟩ := knT_no hkn
    clear hkn hb hmay eb
    refine s_pos rfl ?_
    refine Ok.sw ?_
    refine s_neg (by decide) ?_
    refine s_neg (N_ne (b := 1229209940) (by omega) (by omega) n4) ?_
    refine s_neg (N_ne (b := 1229278788) (by omega) (by omega) n5) ?_
    refine s_neg (N_ne (b := 1229472850) (by omega) (by omega) n1) ?_
    refine s_neg (N_ne (b := 1347179589) (by omega) (by omega) n2) ?_
    refine s_neg (N_ne (b := 1951551059) (by omega) (by omega) n3) ?_
    have b4 := h3 (at' + 4)
    refine s_R hp.Pieces_tape ?_
    refine s_R hp.Tape_bytes ?_
    refine s_let (fun x9 hx9 => ?_)
    rw [e4] at hx9
    subst hx9
    refine s_in rfl (by rw [kd_3]; omega) (by omega) ?_
    rw [N_nat (by omega), hT.2.2.2 _ (by omega)]
    refine s_ji ?_
    refine s_ji ?_
    refine s_neg (by rw [show (97 : Int32) = N 97 from rfl, N_le (by omega) (by omega)]; omega) ?_
    refine s_R hp.Pieces_fault ?_
    refine (C_ref (c := 7) rfl e4).c2 ?_
    rintro r s8 ⟨e8, h8⟩
    dsimp only at e8 h8 ⊢
    refine s_pos e8 (s_z (Or.inl rfl) (Ok.some ?_))
    exact (hbad _ _ _ _ h8 hf).sw
  case inl =>
  injection he with he1 he2
  subst he1 he2
  have hb' : b = 1 := by rcases hb with h | h; exact h.1; exact absurd hMS h.2
  subst hb'
  clear hb eb hmay
  refine s_neg (by decide) ?_
  refine Ok.sw ?_
  refine s_neg (by decide) ?_
  generalize hlne : num T at' = ln at w2 w4 hgood
  -- pieces told apart
  by_cases cD : num T (at' + 4) = 1229209940
  · have hn8 : at' ≠ 8 := fun c => by have := hMS.a c; omega
    obtain ⟨w, h, kd', dp, lc, cc, tc, co, th, hv, hPc, hN, z1, z2⟩ := h8b hn8
    clear h8a h8b hkn
    refine s_pos (by rw [cD]; rfl) ?_
    refine (C_data rfl rfl hn hC hmat (by omega)).c2 ?_
    rintro r s1 ⟨e1, hC1, f1⟩
    dsimp only at e1 hC1 f1 ⊢
    subst e1
    refine s_z (Or.inr rfl) (Ok.some ?_)
    refine (M_data hlne cD hn hl h3 hM hmat (by omega)).c2 ?_
    rintro r t2 ⟨e2, hM2, f2⟩
    dsimp only at e2 hM2 f2 ⊢
    subst e2
    refine s_neg (by decide) ?_
    refine (hgood _ _ _ _ _ 1 _ _ ⟨hC1, hM2, hcb, htb, by omega, by omega, by omega, by omega, w, h, kd', dp, lc, cc, tc, co, th, hv, ?_, hN.fr f2.2 (by decide) (by decide), z1, z2⟩).sw
    exact hPc.fr f1 (fun k hk z => by unfold UPc PLay at hk; unfold PDt at z; omega) (fun a ha z => by unfold UAc ALay at ha; unfold ADt at z; omega)
  refine s_neg (N_ne (b := 1229209940) (by omega) (by omega) cD) ?_
  -- header
  by_cases cI : num T (at' + 4) = 1229472850
  · have ha8 : at' = 8 := hMS.b cI
    obtain ⟨y1, y2, y3, y4, y5⟩ := h8a ha8
    subst y3 y4 y5
    refine s_neg (N_ne (b := 1229278788) (by omega) (by omega) (by omega)) ?_
    refine s_pos (by rw [cI]; rfl) ?_
    have tI := M_type (n := n) (T := T) (x := N at') (K := 1229472850) rfl (show (73 : Int32) = N 73 from rfl) (show (72 : Int32) = N 72 from rfl) (show (68 : Int32) = N 68 from rfl) (show (82 : Int32) = N 82 from rfl) (by decide) (by decide) (by decide) (by decide) (by decide) hXM.2 hTM hl h3 (by omega)
    rw [if_pos cI] at tI
    have pre : ∀ {QQ : Int32 × Mm → Prop}, Ok (kf_j (α := Int32) (fun x62 σ63 => kf_z x62 (some (x62, σ63))) fun k61 => if (L ln).toInt32 = 13 then (kf_c2 (F_Md_readHeader n 63 (N at' + 8) t1) fun x66 σ67 => k61 x66 σ67) else (kf_c2 (F_Md_flaw n 63 8 (N at') t1) fun x64 σ65 => k61 x64 σ65)) QQ → Ok (F_Md_readPiece n 63 (N at') t1) QQ := fun h => by
      unfold F_Md_readPiece
      refine s_c (M_number rfl hXM.2 hTM hl h3 (by omega)) ?_
      rw [hlne]
      refine s_c tI ?_
      refine s_neg (by decide) ?_
      exact h
    by_cases c13 : ln = 13
    · subst c13
      obtain ⟨x, ex, y, ey, hxy⟩ := L_header (n := n) (at' := at') rfl rfl (show N at' + 8 = N (at' + 8) by rw [show (8 : Int32) = N 8 from rfl, N_add]) hn hq hX hT r8 hXM hTM (by omega)
      refine s_c (r := x.1) (σ := x.2) ex ?_
      have hRP : ∀ {v : Int32}, y.1 = v → (v = 0 ∨ v = 1) → F_Md_readPiece n 63 (N at') t1 = some (v, y.2) := fun {v} hv hz => by
        apply Ok.eq
        refine pre ?_
        refine s_ji ?_
        refine s_pos (by rw [L_int]; rfl) ?_
        refine s_c (r := y.1) (σ := y.2) ey ?_
        rw [hv]
        exact s_z hz (Ok.some rfl)
      rcases hxy with ⟨w, h, kd', dp, lc, p1, p2, p3, p4, p5, p6, p7, p8, p9, p10, p11, p12⟩ | ⟨p1, p2, cd, pl, p3, p4⟩
      · rw [p3]
        refine s_z (Or.inr rfl) (Ok.some ?_)
        refine s_c (hRP p4 (Or.inr rfl)) ?_
        refine s_neg (by decide) ?_
        have X1 : PtX x.2 := ⟨hp.fr' p6 (UPc_C hq), hX.1.2.frC p6 (fun k hk => by unfold UPc PLay at hk; omega)⟩
        have S1 : ∀ {k : Nat}, k < 2432 → gS x.2 k = gS s k := fun hk => p6.S (fun z => by unfold UPc PLay at z; omega)
        have hC1 : WC q T len m wh ck bf 0 0 0 x.2 := hC.upd p6 X1 ((p6.R (fun z => by unfold UPc PLay at z; omega)).trans hX.2) (fun k hk z => by simp at hk; unfold UPc PLay at z; omega) (fun a ha z => by simp at ha; unfold UAc ALay at z; omega) (fun a z => by unfold UAc ALay at z; omega) ((S1 (by decide)).trans r3) ((S1 (by decide)).trans r4) ((S1 (by decide)).trans r5) ((S1 (by decide)).trans r6)
        have hM1 : WM T len m wh ck 0 0 0 y.2 := hM.upd p12 (by decide) (by decide) id ((p12.2.S (by decide)).trans m7) ((p12.2.S (by decide)).trans m8) ((p12.2.S (by decide)).trans m9) ((p12.2.S (by decide)).trans m10)
        exact (hgood _ _ _ 0 0 0 _ _ ⟨hC1, hM1, by omega, by omega, by omega, by omega, by omega, by omega, w, h, kd', dp, lc, 0, 0, z0, z0, ⟨p1, p2, by omega, by omega, fun _ => ⟨Nat.zero_le _, Nat.le_refl _⟩, fun _ => (by decide : 0 < 256), fun _ => (by decide : 0 < 65536)⟩, p5, ⟨p7, p8, p9, p10, p11, (p12.2.S (by decide)).trans y1, (p12.2.S (by decide)).trans y2, fun i hi => by omega, fun i hi => by omega⟩, fun _ => rfl, fun _ => rfl⟩).sw
      · rw [p1]
        refine s_z (Or.inl rfl) (Ok.some ?_)
        refine s_c (hRP p2 (Or.inl rfl)) ?_
        refine s_pos rfl ?_
        exact (hbad _ _ _ _ p3 p4).sw
    · unfold F_Pieces_takeHeader
      refine Ok.c2' ?_
      refine s_neg (N_ne (b := 13) (by omega) (by omega) c13) ?_
      refine s_R hp.Pieces_fault ?_
      refine (C_ref (c := 8) rfl rfl).c2 ?_
      rintro r s8 ⟨e8, h8⟩
      dsimp only at e8 h8 ⊢
      subst e8
      refine s_z (Or.inl rfl) (Ok.some ?_)
      refine s_z (Or.inl rfl) (Ok.some ?_)
      have hRP : Ok (F_Md_readPiece n 63 (N at') t1) (fun z => z.1 = 0 ∧ FV 8 at' z.2) := by
        refine pre ?_
        refine s_ji ?_
        refine s_neg (by rw [L_int]; exact N_ne (b := 13) (by omega) (by omega) c13) ?_
        refine (M_flaw (c := 8) rfl rfl).c2 ?_
        rintro r t8 ⟨e8, g8⟩
        dsimp only at e8 g8 ⊢
        subst e8
        exact s_z (Or.inl rfl) (Ok.some ⟨rfl, g8⟩)
      refine hRP.c2 ?_
      rintro r t8 ⟨e8, g8⟩
      dsimp only at e8 g8 ⊢
      refine s_pos e8 ?_
      exact (hbad _ _ _ _ h8 g8).sw
  have hn8 : at' ≠ 8 := fun c => cI (hMS.a c)
  obtain ⟨w, h, kd', dp, lc, cc, tc, co, th, hv, hPc, hN, z1, z2⟩ := h8b hn8
  clear h8a h8b
  have hkk : kd' = kd := by
    have := (kdC hn8).symm.trans hPc.2.2.1
    exact ((N_inj (by omega) (by have := hv.2.1.b.1; omega)).mp this).symm
  subst hkk
  -- the reference, at what is neither header nor data
  obtain ⟨pc', hpc'⟩ : ∃ pc' : Nat, pc' = if pc = 1 then 2 else pc := ⟨_, rfl⟩
  have hpcb : pc' < 3 ∧ pc' ≠ 1 ∧ (pc' = 0 ↔ pc = 0) := by rw [hpc']; split <;> omega
  obtain ⟨t2, ht2⟩ : ∃ t2, t2 = pS t1 4074 (N pc') := ⟨_, rfl⟩
  have f2 : FM [4074] [] t1 t2 := by rw [ht2]; exact (FM.rfl hXM).wS (by decide) _
  have T2 := hTM.frL f2 (by decide) (by decide)
  have p2 : gS t2 4074 = N pc' := by rw [ht2]; exact gS_eq rfl
  have hMx : WM T len m wh ck hc ht pc' t2 := hM.upd f2 (by decide) (by decide) (by omega) ((f2.2.S (by decide)).trans m7) ((f2.2.S (by decide)).trans m8) ((f2.2.S (by decide)).trans m9) p2
  have hNx := hN.fr f2.2 (by decide) (by decide)
  have hdx : (if pc = 0 then 0 else 1) = (if pc' = 0 then 0 else 1) := by
    by_cases c : pc = 0
    · rw [if_pos c, if_pos (hpcb.2.2.mpr c)]
    · rw [if_neg c, if_neg (fun z => c (hpcb.2.2.mp z))]
  have PRE : ∀ {QQ : Int32 × Mm → Prop}, Ok (MdP n (N at') (L ln) t2) QQ → Ok (F_Md_readPiece n 63 (N at') t1) QQ := fun h => M_pre hXM.2 hTM hl h3 (by omega) m10 hpb cI cD (by rw [hlne, ← hpc', ← ht2]; exact h)
  have at7 : at' + 7 < len := by omega
  -- end
  by_cases cE : num T (at' + 4) = 1229278788
  · refine s_pos (by rw [cE]; rfl) ?_
    have RPE : ∀ {QQ : Int32 × Mm → Prop}, Ok (if (L ln).toInt32 = 0 then kf_z 1 (some ((1 : Int32), t2)) else (kf_c2 (F_Md_flaw n 63 8 (N at') t2) fun x24 σ25 => if x24 = 0 then kf_z 0 (some ((0 : Int32), σ25)) else kf_z 1 (some ((1 : Int32), σ25)))) QQ → Ok (F_Md_readPiece n 63 (N at') t1) QQ := fun h => by
      refine PRE ?_
      unfold MdP
      have a := tyP (n := n) f2.1.2 T2 hl h3 at7
      have b := tyT (n := n) f2.1.2 T2 hl h3 at7
      have c := tyE (n := n) f2.1.2 T2 hl h3 at7
      rw [if_neg (by omega)] at a b
      rw [if_pos cE] at c
      refine s_c a ?_
      refine s_ji ?_
      refine s_pos rfl ?_
      refine s_c b ?_
      refine s_pos rfl ?_
      refine s_c c ?_
      refine s_ji ?_
      refine s_ji ?_
      exact s_neg (by decide) h
    refine s_ji ?_
    refine s_ji ?_
    by_cases c0 : ln = 0
    · refine s_pos (by rw [c0]; rfl) ?_
      refine s_z (Or.inr rfl) (Ok.some ?_)
      have rp : Ok (F_Md_readPiece n 63 (N at') t1) (fun z => z = (1, t2)) := RPE (s_pos (by rw [c0, L_int]; rfl) (s_z (Or.inr rfl) (Ok.some rfl)))
      refine s_c (Ok.eq rp) ?_
      refine s_neg (by decide) ?_
      rw [hdx] at hC
      exact (hgood _ _ _ _ _ pc' _ _ ⟨hC, hMx, hcb, htb, by omega, by omega, fun _ => by have := hMS.e hn8 cE; omega, by omega, w, h, _, dp, lc, cc, tc, co, th, hv, hPc, hNx, z1, z2⟩).sw
    · refine s_neg (N_ne (b := 0) (by omega) (by omega) c0) ?_
      refine s_R hp.Pieces_fault ?_
      refine (C_ref (c := 8) rfl rfl).c2 ?_
      rintro r s8 ⟨e8, h8⟩
      dsimp only at e8 h8 ⊢
      refine s_pos e8 (s_z (Or.inl rfl) (Ok.some ?_))
      have rp : Ok (F_Md_readPiece n 63 (N at') t1) (fun z => z.1 = 0 ∧ FV 8 at' z.2) := by
        refine RPE ?_
        refine s_neg (by rw [L_int]; exact N_ne (b := 0) (by omega) (by omega) c0) ?_
        refine (M_flaw (c := 8) rfl rfl).c2 ?_
        rintro r t8 ⟨e8, g8⟩
        dsimp only at e8 g8 ⊢
        exact s_pos e8 (s_z (Or.inl rfl) (Ok.some ⟨rfl, g8⟩))
      refine rp.c2 ?_
      rintro r t8 ⟨e8, g8⟩
      dsimp only at e8 g8 ⊢
      refine s_pos e8 ?_
      exact (hbad _ _ _ _ h8 g8).sw
  refine s_neg (N_ne (b := 1229278788) (by omega) (by omega) cE) ?_
  refine s_neg (N_ne (b := 1229472850) (by omega) (by omega) cI) ?_
  -- colours
  by_cases cP : num T (at' + 4) = 1347179589
  · obtain ⟨d1, d2, d3, d4⟩ := hMS.p hn8 cP
    have hcc0 := z1 d2
    subst hcc0
    refine s_pos (by rw [cP]; rfl) ?_
    have ea := hpcb.2.2.mpr d4
    refine (C_cols (n := n) rfl rfl hn hq hX hT hPc.2.2.1 hPc.2.2.2.1 hv.2.1 hPc.2.2.2.2.2.2.1 (by omega)).c2 ?_
    rintro r s3 hs3
    dsimp only at hs3 ⊢
    have mcols := M_cols (n := n) hlne cP hn f2.1 T2 hl h3 hNx.2.2.1 hNx.2.2.2.1 hv.2.1 (by omega)
    rcases hs3 with ⟨G1, e3, a3, b3, c3, f3⟩ | ⟨G1, e3, g3⟩
    · subst e3
      refine s_z (Or.inr rfl) (Ok.some ?_)
      refine (PRE mcols).c2 ?_
      rintro r t3 ht3
      dsimp only at ht3 ⊢
      rcases ht3 with ⟨-, e4', a4, b4, c4, f4⟩ | ⟨G2, -⟩
      · subst e4'
        refine s_neg (by decide) ?_
        have X3 : PtX s3 := ⟨hp.fr' f3 (PCl_C hq), hX.1.2.frC f3 (fun k hk => by unfold PCl at hk; omega)⟩
        have S3 : ∀ {k : Nat}, k ≠ 709 → k < 2432 → gS s3 k = gS s k := fun h1 h2 => f3.S (fun z => by unfold PCl at z; omega)
        have hC3 : WC q T len m wh ck bf 1 ht (if pc = 0 then 0 else 1) s3 := hC.upd f3 X3 ((f3.R (fun z => by unfold PCl at z; omega)).trans hX.2) (fun k hk z => by simp at hk; unfold PCl at z; omega) (fun a ha z => by simp at ha; unfold ACl at z; omega) (fun a z => by unfold ACl at z; omega) ((S3 (by decide) (by decide)).trans r3) a3 ((S3 (by decide) (by decide)).trans r5) ((S3 (by decide) (by decide)).trans r6)
        rw [hdx] at hC3
        have S4 : ∀ {k : Nat}, ¬ k ∈ [4072, 4055] → gS t3 k = gS t2 k := fun hk => f4.2.S hk
        have hM4 : WM T len m wh ck 1 ht pc' t3 := hMx.upd f4 (by decide) (by decide) id ((S4 (by decide)).trans hMx.2.2.2.2.2.2.1) a4 ((S4 (by decide)).trans hMx.2.2.2.2.2.2.2.2.1) ((S4 (by decide)).trans p2)
        have hl3 : 3 * (ln / 3) = ln := by omega
        have htc := z2 d3
        have hmc : ln / 3 ≤ 256 := by
          have := G1.2.2
          have hd8 : kd' = 3 → dp ≤ 8 := fun c => by have := hv.2.1; unfold kdOk at this; omega
          by_cases c : kd' = 3
          · rw [if_pos c] at this
            have h2 : (2 : Nat) ^ dp ≤ 2 ^ 8 := Nat.pow_le_pow_right (by decide) (hd8 c)
            omega
          · rw [if_neg c] at this
            exact this
        refine (hgood _ _ _ 1 _ pc' _ _ ⟨hC3, hM4, by omega, htb, by omega, by omega, by omega, by omega, w, h, kd', dp, lc, ln / 3, tc, fun i => T (at' + 8 + i), th, ⟨hv.1, hv.2.1, hmc, hv.2.2.2.1, fun c => ⟨by have := G1.2.2; rw [if_pos c] at this; exact this, by omega⟩, fun i => h3 _, hv.2.2.2.2.2.2⟩, ?_, ?_, by omega, z2⟩).sw
        · refine hPc.frC hq f3 (fun k hk => by unfold PCl at hk; omega) (fun a ha => by unfold ACl at ha; omega) b3 ((f3.S (fun z => by unfold PCl at z; omega)).trans hPc.2.2.2.2.2.2.2.1) (fun i hi => c3 i (by omega)) (fun i hi => ?_)
          rw [f3.B (fun z => by unfold ACl at z; omega)]
          exact hPc.2.2.2.2.2.2.2.2.2.2.2 i hi
        · exact ⟨(S4 (by decide)).trans hNx.1, (S4 (by decide)).trans hNx.2.1, (S4 (by decide)).trans hNx.2.2.1, (S4 (by decide)).trans hNx.2.2.2.1, (S4 (by decide)).trans hNx.2.2.2.2.1, b4, (S4 (by decide)).trans hNx.2.2.2.2.2.2.1, fun i hi => c4 i (by omega), fun i hi => by rw [f4.2.B (by decide)]; exact hNx.2.2.2.2.2.2.2.2 i hi⟩
      · exact absurd G1 G2
    · subst e3
      refine s_z (Or.inl rfl) (Ok.some ?_)
      refine (PRE mcols).c2 ?_
      rintro r t3 ht3
      dsimp only at ht3 ⊢
      rcases ht3 with ⟨G2, -⟩ | ⟨-, e4', g4⟩
      · exact absurd G2 G1
      · refine s_pos e4' ?_
        exact (hbad _ _ _ _ g3 g4).sw
  refine s_neg (N_ne (b := 1347179589) (by omega) (by omega) cP) ?_
  -- thin numbers
  by_cases cT : num T (at' + 4) = 1951551059
  · obtain ⟨d1, d2, d3, d4⟩ := hMS.t hn8 cT
    have htc0 := z2 d3
    subst htc0
    refine s_pos (by rw [cT]; rfl) ?_
    obtain ⟨x, ex, y, ey, hxy⟩ := L_thins (n := n) (at' := at') (ln := ln) rfl rfl rfl rfl hn hq hX hT hPc.2.2.1 hPc.2.2.2.1 hPc.2.2.2.2.2.1 hPc.2.2.2.2.2.2.1 hPc.2.2.2.2.2.2.2.1 hv.2.1 d1 hv.2.2.1 (by omega) f2.1 T2 hNx.2.2.1 hNx.2.2.2.1 hNx.2.2.2.2.2.1
    refine s_c (r := x.1) (σ := x.2) ex ?_
    have hRP : ∀ {v : Int32}, y.1 = v → (v = 0 ∨ v = 1) → F_Md_readPiece n 63 (N at') t1 = some (v, y.2) := fun {v} hv hz => by
      apply Ok.eq
      refine PRE ?_
      unfold MdP
      have a := tyP (n := n) f2.1.2 T2 hl h3 at7
      have b := tyT (n := n) f2.1.2 T2 hl h3 at7
      rw [if_neg cP] at a
      rw [if_pos cT] at b
      refine s_c a ?_
      refine s_ji ?_
      refine s_pos rfl ?_
      refine s_c b ?_
      refine s_neg (by decide) ?_
      rw [L_int]
      refine s_c (r := y.1) (σ := y.2) ey ?_
      rw [hv]
      exact s_z hz (Ok.some rfl)
    rcases hxy with ⟨tc', th', p1, p2', p3, p4, p5, p6, p7, p8, p9, p10, p11, p12, p13⟩ | ⟨p1, p2', cd, pl, p3, p4⟩
    · rw [p4]
      refine s_z (Or.inr rfl) (Ok.some ?_)
      refine s_c (hRP p5 (Or.inr rfl)) ?_
      refine s_neg (by decide) ?_
      have X3 : PtX x.2 := ⟨hp.fr' p9 (PTh_C hq), hX.1.2.frC p9 (fun k hk => by unfold PTh at hk; omega)⟩
      have S3 : ∀ {k : Nat}, k ≠ 710 → k < 2432 → gS x.2 k = gS s k := fun h1 h2 => p9.S (fun z => by unfold PTh at z; omega)
      have hC3 : WC q T len m wh ck bf hc 1 (if pc = 0 then 0 else 1) x.2 := hC.upd p9 X3 ((p9.R (fun z => by unfold PTh at z; omega)).trans hX.2) (fun k hk z => by simp at hk; unfold PTh at z; omega) (fun a ha z => by simp at ha; unfold ATh at z; omega) (fun a z => by unfold ATh at z; omega) ((S3 (by decide) (by decide)).trans r3) ((S3 (by decide) (by decide)).trans r4) p6 ((S3 (by decide) (by decide)).trans r6)
      rw [hdx] at hC3
      have S4 : ∀ {k : Nat}, ¬ k ∈ [4073, 4057] → gS y.2 k = gS t2 k := fun hk => p13.2.S hk
      have hM4 : WM T len m wh ck hc 1 pc' y.2 := hMx.upd p13 (by decide) (by decide) id ((S4 (by decide)).trans hMx.2.2.2.2.2.2.1) ((S4 (by decide)).trans hMx.2.2.2.2.2.2.2.1) p10 ((S4 (by decide)).trans p2)
      refine (hgood _ _ _ _ 1 pc' _ _ ⟨hC3, hM4, hcb, by omega, by omega, by omega, by omega, by omega, w, h, kd', dp, lc, cc, tc', co, th', ⟨hv.1, hv.2.1, hv.2.2.1, p1, fun c => ⟨(hv.2.2.2.2.1 c).1, p2' c⟩, hv.2.2.2.2.2.1, p3⟩, ?_, ?_, z1, by omega⟩).sw
      · refine hPc.frC hq p9 (fun k hk => by unfold PTh at hk; omega) (fun a ha => by unfold ATh at ha; omega) ((p9.S (fun z => by unfold PTh at z; omega)).trans hPc.2.2.2.2.2.2.1) p7 (fun i hi => ?_) p8
        rw [p9.B (fun z => by unfold ATh at z; omega)]
        exact hPc.2.2.2.2.2.2.2.2.2.2.1 i hi
      · exact ⟨(S4 (by decide)).trans hNx.1, (S4 (by decide)).trans hNx.2.1, (S4 (by decide)).trans hNx.2.2.1, (S4 (by decide)).trans hNx.2.2.2.1, (S4 (by decide)).trans hNx.2.2.2.2.1, (S4 (by decide)).trans hNx.2.2.2.2.2.1, p11, fun i hi => by rw [p13.2.B (by decide)]; exact hNx.2.2.2.2.2.2.2.1 i hi, p12⟩
    · rw [p1]
      refine s_z (Or.inl rfl) (Ok.some ?_)
      refine s_c (hRP p2' (Or.inl rfl)) ?_
      refine s_pos rfl ?_
      exact (hbad _ _ _ _ p3 p4).sw
  refine s_neg (N_ne (b := 1951551059) (by omega) (by omega) cT) ?_
  -- a piece that is left out
  have b4 := h3 (at' + 4)
  have n97 := knT_yes hkn cI cP cT cD cE
  clear hkn
  refine s_R hp.Pieces_tape ?_
  refine s_R hp.Tape_bytes ?_
  refine s_let (fun x9 hx9 => ?_)
  rw [e4] at hx9
  subst hx9
  refine s_in rfl (by rw [kd_3]; omega) (by omega) ?_
  rw [N_nat (by omega), hT.2.2.2 _ (by omega)]
  refine s_ji ?_
  refine s_ji ?_
  refine s_pos (by rw [show (97 : Int32) = N 97 from rfl, N_le (by omega) (by omega)]; omega) ?_
  refine s_z (Or.inr rfl) (Ok.some ?_)
  have rp : Ok (F_Md_readPiece n 63 (N at') t1) (fun z => z = (1, t2)) := by
    refine PRE ?_
    unfold MdP
    have a := tyP (n := n) f2.1.2 T2 hl h3 at7
    have b := tyT (n := n) f2.1.2 T2 hl h3 at7
    have c := tyE (n := n) f2.1.2 T2 hl h3 at7
    rw [if_neg cP] at a
    rw [if_neg cT] at b
    rw [if_neg cE] at c
    refine s_c a ?_
    refine s_ji ?_
    refine s_pos rfl ?_
    refine s_c b ?_
    refine s_pos rfl ?_
    refine s_c c ?_
    refine s_ji ?_
    refine s_ji ?_
    exact s_pos rfl (s_z (Or.inr rfl) (Ok.some rfl))
  refine s_c (Ok.eq rp) ?_
  refine s_neg (by decide) ?_
  rw [hdx] at hC
  exact (hgood _ _ _ _ _ pc' _ _ ⟨hC, hMx, hcb, htb, by omega, by omega, by omega, by omega, w, h, _, dp, lc, cc, tc, co, th, hv, hPc, hNx, z1, z2⟩).sw
