/-! THE REFERENCE'S SAMPLES -/
def MdTail (n : Nat) (σ16 : Mm) : Option (Int32 × Mm) :=
kf_c2 (F_Md_channels n (gS σ16 (64 * 63 + 18)) σ16) fun x17 σ18 =>
kf_l (α := Int32) n (fun k19 x20 σ21 =>
if (gS σ21 (64 * 63 + 38)) ≤ x20 then (
kf_l (α := Int32) n (fun k22 x23 σ24 =>
kf_j (α := Unit) (fun x26 σ27 =>
Option.bind (F_Md_takeOver n 63 σ27) fun σ28 =>
some (-1, σ28)) fun k25 =>
if ((gS σ24 (64 * 63 + 16)) * (gS σ24 (64 * 63 + 17))) ≤ x23 then (
k25 () σ24) else (
if (gS σ24 (64 * 63 + 18)) = 3 then (
Option.bind (gR σ24 (64 * 63 + 21)) fun o29 =>
kf_in x23 (mm_kd o29).2.2 <|
if (gB σ24 o29 x23.toNatClampNeg) < (gS σ24 (64 * 63 + 23)) then (
kf_let (x23 + Int32.ofInt 1) fun x30 =>
k22 x30 σ24) else (
kf_let (pS σ24 (64 * 63 + 3) 31) fun σ31 =>
some (x23, σ31))) else (
k25 () σ24))) 0 σ21) else (
kf_l (α := Int32) n (fun k32 x33 σ34 =>
Option.bind (gR σ34 (64 * 63 + 37)) fun o35 =>
kf_in x20 (mm_kd o35).2.2 <|
if (gB σ34 o35 x20.toNatClampNeg) ≤ x33 then (
kf_let (x20 + Int32.ofInt 1) fun x36 =>
k19 x36 σ34) else (
kf_l (α := Int32) n (fun k37 x38 σ39 =>
if x17 ≤ x38 then (
kf_let (x33 + Int32.ofInt 1) fun x40 =>
k32 x40 σ39) else (
Option.bind (gR σ39 (64 * 63 + 21)) fun o41 =>
kf_c2 (F_Md_pointOf n 63 x20 x33 (gS σ39 (64 * 63 + 16)) σ39) fun x42 σ43 =>
kf_c2 (F_Md_sampleOf n 63 x20 x33 x38 σ43) fun x44 σ45 =>
kf_in ((x42 * x17) + x38) (mm_kd o41).2.2 <| kf_let (pB σ45 o41 ((x42 * x17) + x38).toNatClampNeg x44) fun σ46 =>
kf_let (x38 + Int32.ofInt 1) fun x47 =>
k37 x47 σ46)) 0 σ34)) 0 σ21)) 0 σ18
def dnX (w h lc : Nat) (r i0 c0 q l i c : Nat) : Prop := bs w h lc q + l < r ∨ (bs w h lc q + l = r ∧ (i < i0 ∨ (i = i0 ∧ c < c0)))
set_option maxHeartbeats 2000000 in
theorem M_tail {n w h kd dp lc cc tc : Nat} {sm co th Fl : Nat → Nat} {t : Mm} (hn : 600000 < n) (hX : PtX t) (hv : PicV w h kd dp lc cc tc sm co th) (hN : NewM w h kd dp lc cc tc co th t) (hRM : RowsM w h lc (ch kd * dp) t) (hrk : gS t 4084 = N kd) (hrd : gS t 4085 = N dp) (hF : ∀ j, Fl j < 256) (hraw : ∀ q l, q < 8 → l < ln w h lc q → ∀ i, i < rb w (ch kd * dp) q → gB t 73 (ro w h lc (ch kd * dp) q l + 1 + i) &&& N 255 = N (Fl (ro w h lc (ch kd * dp) q l + 1 + i))) (hsm : ∀ q l, q < 8 → l < ln w h lc q → ∀ i c, i < pn w q → c < ch kd → sm (ix w kd q l i c) = sv Fl dp (ro w h lc (ch kd * dp) q l + 1) (i * ch kd + c)) : Ok (MdTail n t) (fun r => (goodS w h kd cc sm ∧ r.1 = -1 ∧ PicM w h kd dp lc cc tc sm co th r.2 ∧ gS r.2 4037 = N 1 ∧ FM [4037, 4038, 4039, 4040, 4041, 4042, 4045, 4047] [65, 66, 67, 68] t r.2) ∨ (∃ p0, badS w h kd cc sm p0 ∧ r.1 = N p0 ∧ gS r.2 4035 = N 31 ∧ FM [4035] [68] t r.2)) := by
  obtain ⟨v1, v2, v3, v4, v5, v6, v7, v8⟩ := id hv
  have hwh := whc (kd := kd) v1
  have hk6 := v2.b.1
  have hpw := pw_le v2
  have hB8 := bs_8 v1
  have hT8 := bt_8 v1 (ch_mul v2).2
  have hch := ch_b kd
  unfold MdTail
  rw [show gS t (64 * 63 + 18) = N kd from hN.2.2.1]
  refine s_c (Md_channels_eq (by omega)) ?_
  have fld : ∀ {t' : Mm}, FM [] [68] t t' → PtM t' ∧ NewM w h kd dp lc cc tc co th t' ∧ RowsM w h lc (ch kd * dp) t' ∧ gS t' 4084 = N kd ∧ gS t' 4085 = N dp := fun f => ⟨f.1.2, hN.fr f.2 (by decide) (by decide), hRM.fr f.2 (by decide) (by decide) (fun a ha z => by unfold ARw at ha; simp at z; omega), (f.2.S (by decide)).trans hrk, (f.2.S (by decide)).trans hrd⟩
  refine ok_for 0 (bs w h lc 8) (fun r x t1 => x = N r ∧ (∀ q l i c, q < 8 → l < ln w h lc q → i < pn w q → c < ch kd → dnX w h lc r 0 0 q l i c → gB t1 68 (ix w kd q l i c) = N (sm (ix w kd q l i c))) ∧ FM [] [68] t t1) ?_ (by omega) (by omega) ⟨rfl, fun q l i c _ _ _ _ h => by unfold dnX at h; omega, FM.rfl hX⟩
  rintro r k9 x t1 - hr ⟨rfl, z1, f1⟩ ih
  obtain ⟨hp1, hN1, hR1, hrk1, hrd1⟩ := fld f1
  rw [show gS t1 (64 * 63 + 38) = N (bs w h lc 8) from hR1.1]
  by_cases hre : r = bs w h lc 8
  · subst hre
    refine s_pos (Int32.le_refl _) ?_
    have hs1 : ∀ j, j < w * h * ch kd → gB t1 68 j = N (sm j) := fun j hj => by
      obtain ⟨q, l, i, c, hq, hl, hi, hc, e⟩ := ix_sur v1 hj
      rw [e]
      exact z1 q l i c hq hl hi hc (Or.inl (bs_in hl hq))
    have TO : goodS w h kd cc sm → Ok (Option.bind (F_Md_takeOver n 63 t1) fun σ28 => some ((-1 : Int32), σ28)) (fun r => (goodS w h kd cc sm ∧ r.1 = -1 ∧ PicM w h kd dp lc cc tc sm co th r.2 ∧ gS r.2 4037 = N 1 ∧ FM [4037, 4038, 4039, 4040, 4041, 4042, 4045, 4047] [65, 66, 67, 68] t r.2) ∨ (∃ p0, badS w h kd cc sm p0 ∧ r.1 = N p0 ∧ gS r.2 4035 = N 31 ∧ FM [4035] [68] t r.2)) := fun hg => by
      refine (takeOver_ok hn f1.1 hv hN1 hs1).bind ?_
      rintro t2 ⟨y1, y2, y3⟩
      exact Ok.some (Or.inl ⟨hg, rfl, y1, y2, y3.1, (f1.2.mono (by decide) (by decide)).trans (y3.2.mono (by decide) (by decide))⟩)
    refine ok_for 0 (w * h) (fun i x t2 => x = N i ∧ t2 = t1 ∧ (kd = 3 → ∀ j, j < i → sm j < cc)) ?_ (by have := Nat.mul_le_mul_left (w * h) hch.1; omega) (by omega) ⟨rfl, rfl, fun _ j hj => by omega⟩
    rintro i k8 x t2 - hi ⟨rfl, rfl, hj⟩ ih2
    have hwh1 : w * h ≤ 16384 := by have := Nat.mul_le_mul_left (w * h) hch.1; omega
    rw [show gS t2 (64 * 63 + 16) = N w from hN1.1, show gS t2 (64 * 63 + 17) = N h from hN1.2.1, N_mul]
    refine s_ji ?_
    by_cases hie : w * h = i
    · subst hie
      refine s_pos (Int32.le_refl _) (TO hj)
    · refine s_neg (by rw [N_le (by omega) (by omega)]; omega) ?_
      rw [show gS t2 (64 * 63 + 18) = N kd from hN1.2.2.1]
      by_cases h3 : kd = 3
      · refine s_pos (by rw [h3]; rfl) ?_
        refine s_R hp1.newSamples ?_
        refine s_in rfl (by rw [kd_68]; omega) (by omega) ?_
        rw [N_nat (by omega), hs1 i (by rw [h3, ch_3]; omega), show gS t2 (64 * 63 + 23) = N cc from hN1.2.2.2.2.2.1]
        have h6 := v6 i
        by_cases hlt : sm i < cc
        · refine s_pos (by rw [N_lt (by omega) (by omega)]; exact hlt) ?_
          refine s_let (fun x9 hx9 => ?_)
          rw [N_one, N_add] at hx9
          subst hx9
          refine ih2 (by omega) _ _ ⟨rfl, rfl, fun _ j hj2 => ?_⟩
          by_cases hji : j = i
          · subst hji; exact hlt
          · exact hj h3 j (by omega)
        · refine s_neg (by rw [N_lt (by omega) (by omega)]; exact hlt) ?_
          refine s_let (fun t3 e3 => ?_)
          refine Ok.some (Or.inr ⟨i, ⟨h3, by omega, by omega, hj h3⟩, rfl, ?_, ?_⟩)
          · rw [e3]; exact gS_eq rfl
          · rw [e3]
            exact FM.wS ⟨f1.1, f1.2.mono (by decide) (by decide)⟩ (by decide) _
      · refine s_neg (N_ne (b := 3) (by omega) (by omega) h3) (TO (fun z => absurd z h3))
  · obtain ⟨q, l, hq, hl, hkq⟩ := row_ex (show r < bs w h lc 8 by omega)
    subst hkq
    have hpn := pn_le (q := q) v1.2.1 hq
    refine s_neg (by rw [N_le (by omega) (by omega)]; omega) ?_
    refine ok_for 0 (pn w q) (fun i0 x t2 => x = N i0 ∧ (∀ q' l' i c, q' < 8 → l' < ln w h lc q' → i < pn w q' → c < ch kd → dnX w h lc (bs w h lc q + l) i0 0 q' l' i c → gB t2 68 (ix w kd q' l' i c) = N (sm (ix w kd q' l' i c))) ∧ FM [] [68] t t2) ?_ (by omega) (by omega) ⟨rfl, z1, f1⟩
    rintro i0 k8 x t2 - hi0 ⟨rfl, z2, f2⟩ ih2
    obtain ⟨hp2, hN2, hR2, hrk2, hrd2⟩ := fld f2
    obtain ⟨e1, e2, e3, e4, e5⟩ := hR2.2.2 q l hq hl
    refine s_R hp2.rowPoints ?_
    refine s_in rfl (by rw [kd_78]; omega) (by omega) ?_
    rw [N_nat (by omega), e4]
    by_cases hie : pn w q = i0
    · subst hie
      refine s_pos (Int32.le_refl _) ?_
      refine s_let (fun x9 hx9 => ?_)
      rw [N_one, N_add] at hx9
      subst hx9
      refine ih (by omega) _ _ ⟨rfl, fun q' l' i c a1 a2 a3 a4 hd => ?_, f2⟩
      refine z2 q' l' i c a1 a2 a3 a4 ?_
      unfold dnX at hd ⊢
      by_cases hs : bs w h lc q' + l' = bs w h lc q + l
      · obtain ⟨rfl, rfl⟩ := row_same hl a2 hs
        exact Or.inr ⟨rfl, Or.inl a3⟩
      · left; omega
    · refine s_neg (by rw [N_le (by omega) (by omega)]; omega) ?_
      refine ok_for 0 (ch kd) (fun c0 x t3 => x = N c0 ∧ (∀ q' l' i c, q' < 8 → l' < ln w h lc q' → i < pn w q' → c < ch kd → dnX w h lc (bs w h lc q + l) i0 c0 q' l' i c → gB t3 68 (ix w kd q' l' i c) = N (sm (ix w kd q' l' i c))) ∧ FM [] [68] t t3) ?_ (by omega) (by omega) ⟨rfl, z2, f2⟩
      rintro c0 k7 x t3 - hc0 ⟨rfl, z3, f3⟩ ih3
      obtain ⟨hp3, hN3, hR3, hrk3, hrd3⟩ := fld f3
      by_cases hce : ch kd = c0
      · refine s_pos (by rw [hce]; exact Int32.le_refl _) ?_
        refine s_let (fun x9 hx9 => ?_)
        rw [N_one, N_add] at hx9
        subst hx9
        refine ih2 (by omega) _ _ ⟨rfl, fun q' l' i c a1 a2 a3 a4 hd => ?_, f3⟩
        refine z3 q' l' i c a1 a2 a3 a4 ?_
        unfold dnX at hd ⊢
        omega
      · refine s_neg (by rw [N_le (by omega) (by omega)]; omega) ?_
        have hix := ix_lt (kd := kd) hq hl (show i0 < pn w q by omega) (show c0 < ch kd by omega)
        refine s_R hp3.newSamples ?_
        refine s_c (Md_pointOf_eq rfl rfl hN3.1 hp3 hq (by omega) (hR3.2.2 q l hq hl)) ?_
        refine s_c (sampleOf_eq (F := Fl) rfl rfl rfl (by omega) hp3 v1 v2 hR3 hrk3 hrd3 hq hl (show i0 < pn w q by omega) (show c0 < ch kd by omega) hF (fun k hk => by rw [f3.2.B (by decide)]; exact hraw q l hq hl k hk)) ?_
        rw [N_mul, N_add, show ((pY q + l * sY q) * w + (pX q + i0 * sX q)) * ch kd + c0 = ix w kd q l i0 c0 from rfl]
        refine s_in rfl (by rw [kd_68]; omega) (by omega) ?_
        rw [N_nat (by omega), ← hsm q l hq hl i0 c0 (by omega) (by omega)]
        refine s_let (fun t4 e4 => ?_)
        refine s_let (fun x9 hx9 => ?_)
        rw [N_one, N_add] at hx9
        subst hx9
        refine ih3 (by omega) _ _ ⟨rfl, fun q' l' i c a1 a2 a3 a4 hd => ?_, by rw [e4]; exact f3.wB (by decide) _ _⟩
        rw [e4, gB_eq rfl]
        by_cases hsame : ix w kd q' l' i c = ix w kd q l i0 c0
        · rw [upd_eq hsame, hsame]
        · rw [upd_ne hsame]
          refine z3 q' l' i c a1 a2 a3 a4 ?_
          unfold dnX at hd ⊢
          by_cases hs : bs w h lc q' + l' = bs w h lc q + l
          · obtain ⟨rfl, rfl⟩ := row_same hl a2 hs
            by_cases hcc : i = i0 ∧ c = c0
            · obtain ⟨rfl, rfl⟩ := hcc
              exact absurd rfl hsame
            · omega
          · left; omega
