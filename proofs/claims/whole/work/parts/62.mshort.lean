/-! THE REFERENCE'S SHORT PACKING -/
set_option maxHeartbeats 4000000 in
theorem writeShort_ok {n tot : Nat} {R : Nat → Nat} {S : (Nat → Nat) × Nat} {σ : Mm} (hn : 65536 < n) (hp : PtM σ) (ht : tot ≤ 32888) (hR : ∀ i, R i < 256) (hS : TapeM S.1 S.2 σ) (hra : gS σ 4071 = N tot) (hrg : Rng σ) (z : ∀ i, i < tot → gB σ 73 i &&& N 255 = N (R i)) (hl : 8 * S.2 + 11 * tot + 400 < 524288) : Ok (F_Md_writeShort n 63 σ) (fun s => TapeM (srt S R tot).1 (srt S R tot).2 s ∧ Fr PMb AMf σ s) := by
  have q0 : ∀ {s : Mm}, Fr PMb AMf σ s → PtM s ∧ gS s 4071 = N tot ∧ (∀ i, i < tot → gB s 73 i &&& N 255 = N (R i)) ∧ Rng s := fun f => ⟨hp.fr' f PMb_M, (f.S (by decide)).trans hra, fun i hi => by rw [f.B (by decide)]; exact z i hi, hrg.fr f (by decide)⟩
  unfold F_Md_writeShort
  refine s_let (fun s1 h1 => ?_)
  refine s_let (fun s2 h2 => ?_)
  have f2 : Fr PMb AMf σ s2 := by
    rw [h2, h1]
    exact Fr.wS (Fr.wS Fr.rfl (Or.inr (Or.inl rfl)) _) (Or.inr (Or.inr rfl)) _
  have b2 : BM (S, 0, 0) s2 := by
    refine ⟨⟨?_, ?_⟩, ?_, ?_⟩
    · rw [h2, h1, gS_ne (by decide), gS_ne (by decide)]; exact hS.1
    · intro i hi
      rw [h2, h1]
      exact hS.2 i hi
    · rw [h2, h1, gS_ne (by decide)]; exact gS_eq rfl
    · rw [h2]; exact gS_eq rfl
  clear h1 h2 s1
  have h0 : Bok ((S, 0, 0) : ((Nat → Nat) × Nat) × Nat × Nat) := ⟨(by decide : 0 < 8), (by decide : 0 < 2 ^ 0)⟩
  have o2 := nmB_ok (v := 3) (m := 3) h0
  have bl0 : bl ((S, 0, 0) : ((Nat → Nat) × Nat) × Nat × Nat) = 8 * S.2 := rfl
  refine (nm_M (v := 3) (m := 3) rfl rfl (by omega) (q0 f2).1 b2 h0 (by decide) (by decide) (by show S.2 + 10 < _; omega)).bind ?_
  rintro s6 ⟨b6, f6⟩
  have f6' := f2.trans f6
  have bl6 : bl (nmB ((S, 0, 0) : ((Nat → Nat) × Nat) × Nat × Nat) 3 3) ≤ 8 * S.2 + 3 + 11 * 0 := by rw [o2.2, bl0]; omega
  refine ok_l (fun m x s => ∃ p B, m = tot - p ∧ p ≤ tot ∧ x = N p ∧ BM B s ∧ Bok B ∧ bl B ≤ 8 * S.2 + 3 + 11 * p ∧ (∀ f, tot - p ≤ f → shR R tot f p B = srB S R tot) ∧ Fr PMb AMf σ s) ?_ n (tot - 0) 0 s6 (by omega) ⟨0, _, rfl, by omega, rfl, b6, o2.1, bl6, fun f hf => shR_key f tot 0 _ hf (by omega), f6'⟩
  clear b6 bl6 f6 f6' f2 b2 o2 h0
  rintro m k9 x s ⟨p, B, rfl, hpt, rfl, hb, hB, hbl, hsh, f⟩ ih
  obtain ⟨x1, x2, x3, x4⟩ := q0 f
  have hlen : B.1.2 + 30 < 65536 := by unfold bl at hbl; omega
  by_cases hpe : tot ≤ p
  · have hpp : p = tot := by omega
    subst hpp
    have hBe : B = srB S R p := hsh 0 (by omega)
    refine s_pos (by rw [x2]; exact Int32.le_refl _) ?_
    have o3 := sg_ok (s := 256) hB
    refine (M_sign (s := 256) rfl (by omega) x1 hb hB (by decide) (by omega)).bind ?_
    rintro s7 ⟨b7, f7⟩
    have f7' := f.trans f7
    have h8 := o3.1.1
    have lb7 : (sg B 256).1.2 + 10 < 65536 := by have := o3.2; unfold bl at *; omega
    have zb : ∀ i, (fun _ => 0 : Nat → Nat) i < 2 := fun _ => by show 0 < 2; decide
    have ez : ∀ k, pbs (sg B 256) (fun k => (0 >>> k) % 2) k = pbs (sg B 256) (fun _ => 0) k := fun k => pbs_ext (fun j _ => by show (0 >>> j) % 2 = 0; rw [Nat.zero_shiftRight])
    refine ok_for 0 ((8 - (sg B 256).2.2) % 8) (fun j x s => BM (pbs (sg B 256) (fun _ => 0) j) s ∧ Fr PMb AMf σ s) ?_ (by omega) (by omega) ⟨b7, f7'⟩
    rintro j k8 x s8 - hj ⟨b8, f8⟩ ih2
    have oj := pbs_ok o3.1 zb j
    have lj := pbs_len (B := sg B 256) (f := fun _ => 0) (k := j)
    have oj8 := oj.1
    have g8 : gS s8 4088 = N (pbs (sg B 256) (fun _ => 0) j).2.2 := b8.2.2
    by_cases hje : j = (8 - (sg B 256).2.2) % 8
    · refine s_pos ?_ (Ok.some ⟨?_, f8⟩)
      · rw [g8, show (pbs (sg B 256) (fun _ => 0) j).2.2 = 0 by omega]
        decide
      · have : srt S R p = (pbs (sg B 256) (fun _ => 0) j).1 := by
          unfold srt pd nmB
          rw [← hBe, ez, ← hje]
        rw [this]
        exact b8.1
    · refine s_neg (by rw [g8, show (0 : Int32) = N 0 from rfl, N_le (by omega) (by decide)]; omega) ?_
      refine (M_putBit (b := 0) rfl (q0 f8).1 b8 oj (by decide) (by omega)).bind ?_
      rintro s9 ⟨b9, f9⟩
      exact ih2 (by omega) _ _ ⟨b9, f8.trans f9⟩
  · refine s_neg (by rw [x2, N_le (by omega) (by omega)]; exact hpe) ?_
    obtain ⟨c, hc⟩ : ∃ c, min 258 (tot - p) = c := ⟨_, rfl⟩
    obtain ⟨dm, hdm⟩ : ∃ dm, min p 32768 = dm := ⟨_, rfl⟩
    have hBS : BS R tot p = bst R p c dm := by unfold BS; rw [hc, hdm]
    have fin : ∀ (d : Nat) (v : Int32), bst R p c d = BS R tot p → v = N (bst R p c d).2 → Ok (
kf_j (α := Int32) (fun x19 σ20 =>
k9 x19 σ20) fun k18 =>
if 3 ≤ N (bst R p c d).1 then (
Option.bind (F_Md_putCopy n 63 (N (bst R p c d).1) v s) fun σ21 =>
kf_let (N p + N (bst R p c d).1 : Int32) fun x22 =>
k18 x22 σ21) else (
Option.bind (gR s (64 * 63 + 30)) fun o23 =>
kf_in (N p) (mm_kd o23).2.2 <|
Option.bind (F_Md_putSign n 63 ((gB s o23 (N p).toNatClampNeg) &&& 255) s) fun σ24 =>
kf_let (N p + Int32.ofInt 1) fun x25 =>
k18 x25 σ24)) (fun s => TapeM (srt S R tot).1 (srt S R tot).2 s ∧ Fr PMb AMf σ s) := by
      intro d v hd hv
      rw [hd] at hv ⊢
      subst hv
      refine s_ji ?_
      by_cases h3 : 3 ≤ (BS R tot p).1
      · have hbb := BS_b h3
        refine s_pos (by rw [show (3 : Int32) = N 3 from rfl, N_le (by decide) (by omega)]; exact h3) ?_
        have oc := cpB_ok (l := (BS R tot p).1) (d := (BS R tot p).2) hB
        refine (M_copy rfl rfl (by omega) x1 hb hB h3 hbb.1 hbb.2.2.1 hbb.2.2.2.2 (by omega)).bind ?_
        rintro s8 ⟨b8, f8⟩
        refine s_let (fun x9 hx9 => ?_)
        rw [N_add] at hx9
        subst hx9
        refine ih (tot - (p + (BS R tot p).1)) _ _ (by omega) ⟨p + (BS R tot p).1, _, rfl, by omega, rfl, b8, oc.1, by omega, ?_, f.trans f8⟩
        intro f hf
        have := hsh (f + 258 + 1) (by omega)
        unfold shR at this
        rw [if_neg hpe, if_pos h3] at this
        rw [← this]
        exact shR_key _ _ _ _ hf (by omega)
      · have hble := bst_le (R := R) (p := p) (c := c) dm
        rw [← hBS] at hble
        refine s_neg (by rw [show (3 : Int32) = N 3 from rfl, N_le (by decide) (by omega)]; exact h3) ?_
        refine s_R x1.raw ?_
        refine s_in rfl (show p < 40000 by omega) (by omega) ?_
        have oc := sg_ok (s := R p) hB
        have hrp := hR p
        refine (M_sign (s := R p) (by rw [N_nat (by omega)]; exact x3 p (by omega)) (by omega) x1 hb hB (by omega) (by omega)).bind ?_
        rintro s8 ⟨b8, f8⟩
        refine s_let (fun x9 hx9 => ?_)
        rw [N_one, N_add] at hx9
        subst hx9
        refine ih (tot - (p + 1)) _ _ (by omega) ⟨p + 1, _, rfl, by omega, rfl, b8, oc.1, by omega, ?_, f.trans f8⟩
        intro f hf
        have := hsh (f + 1) (by omega)
        unfold shR at this
        rw [if_neg hpe, if_neg h3] at this
        exact this
    clear ih hsh
    refine ok_for 0 dm (fun j x s' => s = s' ∧ x = (N (bst R p c j).1, N (bst R p c j).2, N (j + 1))) ?_ (by omega) (by omega) ⟨rfl, rfl⟩
    rintro j k8 x s' - hj ⟨rfl, rfl⟩ ih
    have hble := bst_le (R := R) (p := p) (c := c) j
    refine s_ji ?_
    dsimp only
    by_cases hjd : j = dm
    · have hf := fin j _ (by rw [hBS, hjd]) rfl
      by_cases h1 : p < j + 1
      · refine s_pos ((N_lt (by omega) (by omega)).mpr h1) hf
      · refine s_neg (by rw [N_lt (by omega) (by omega)]; exact h1) ?_
        refine s_pos (by rw [show (32768 : Int32) = N 32768 from rfl, N_lt (by omega) (by omega)]; omega) hf
    · refine s_neg (by rw [N_lt (by omega) (by omega)]; omega) ?_
      refine s_neg (by rw [show (32768 : Int32) = N 32768 from rfl, N_lt (by omega) (by omega)]; omega) ?_
      by_cases h258 : 258 ≤ (bst R p c j).1
      · refine s_pos (by rw [show (258 : Int32) = N 258 from rfl, N_le (by omega) (by omega)]; exact h258) ?_
        refine fin j _ ?_ rfl
        have := bst_stop (R := R) (p := p) (c := c) (d := j) (by omega) (dm - j)
        rw [show j + (dm - j) = dm by omega] at this
        rw [hBS, this]
      · refine s_neg (by rw [show (258 : Int32) = N 258 from rfl, N_le (by omega) (by omega)]; exact h258) ?_
        clear fin
        have tail : ∀ t, ml R (p - (j + 1)) p c = t → Ok (
kf_j (α := Int32) (fun x33 σ34 =>
kf_c2 (F_Md_max n (N t) (N (bst R p c j).1) σ34) fun x35 σ36 =>
kf_let (N (j + 1) + Int32.ofInt 1) fun x37 =>
k8 (x35, x33, x37) σ36) fun k32 =>
if N t ≤ N (bst R p c j).1 then (
k32 (N (bst R p c j).2) s) else (
k32 (N (j + 1)) s)) (fun s => TapeM (srt S R tot).1 (srt S R tot).2 s ∧ Fr PMb AMf σ s) := by
          intro t htt
          have hml := ml_le (R := R) (q := p - (j + 1)) (p := p) c
          rw [htt] at hml
          have hst : bst R p c (j + 1) = if (bst R p c j).1 < t then (t, j + 1) else bst R p c j := by
            show (if (bst R p c j).1 < ml R (p - (j + 1)) p c then (ml R (p - (j + 1)) p c, j + 1) else bst R p c j) = _
            rw [htt]
          refine s_ji ?_
          by_cases hle : t ≤ (bst R p c j).1
          · refine s_pos ((N_le (by omega) (by omega)).mpr hle) ?_
            refine s_c (Md_max_eq rfl rfl (by omega) (by omega)) ?_
            refine s_let (fun x9 hx9 => ?_)
            rw [N_one, N_add] at hx9
            subst hx9
            refine ih (by omega) _ _ ⟨rfl, ?_⟩
            rw [hst, if_neg (show ¬ (bst R p c j).1 < t by omega)]
            by_cases hlt : t < (bst R p c j).1
            · rw [if_pos hlt]
            · rw [if_neg hlt, show t = (bst R p c j).1 by omega]
          · refine s_neg (by rw [N_le (by omega) (by omega)]; exact hle) ?_
            refine s_c (Md_max_eq rfl rfl (by omega) (by omega)) ?_
            refine s_let (fun x9 hx9 => ?_)
            rw [N_one, N_add] at hx9
            subst hx9
            refine ih (by omega) _ _ ⟨rfl, ?_⟩
            rw [hst, if_pos (show (bst R p c j).1 < t by omega), if_neg (show ¬ t < (bst R p c j).1 by omega)]
        clear ih
        refine ok_for 0 c (fun i x s' => s = s' ∧ x = N i ∧ ml R (p - (j + 1)) p i = i) ?_ (by omega) (by omega) ⟨rfl, rfl, rfl⟩
        rintro i k7 x s' - hi ⟨rfl, rfl, hm⟩ ih2
        refine s_ji ?_
        by_cases hic : i = c
        · have hf := tail i (by rw [← hic]; exact hm)
          by_cases h9 : 258 ≤ i
          · refine s_pos (by rw [show (258 : Int32) = N 258 from rfl, N_le (by omega) (by omega)]; exact h9) hf
          · refine s_neg (by rw [show (258 : Int32) = N 258 from rfl, N_le (by omega) (by omega)]; exact h9) ?_
            refine s_pos (by rw [x2, N_add, N_le (by omega) (by omega)]; omega) hf
        · refine s_neg (by rw [show (258 : Int32) = N 258 from rfl, N_le (by omega) (by omega)]; omega) ?_
          refine s_neg (by rw [x2, N_add, N_le (by omega) (by omega)]; omega) ?_
          refine s_R x1.raw ?_
          refine s_let (fun x9 hx9 => ?_)
          rw [N_add] at hx9
          subst hx9
          refine s_in rfl (show p + i < 40000 by omega) (by omega) ?_
          refine s_R x1.raw ?_
          refine s_let (fun x9 hx9 => ?_)
          rw [N_add, N_sub (by omega)] at hx9
          subst hx9
          refine s_in rfl (show p + i - (j + 1) < 40000 by omega) (by omega) ?_
          rw [N_nat (by omega), N_nat (by omega)]
          have z1 := x3 (p + i) (by omega)
          have z2 := x3 (p + i - (j + 1)) (by omega)
          have r1 := hR (p + i)
          have r2 := hR (p + i - (j + 1))
          have ei : p - (j + 1) + i = p + i - (j + 1) := by omega
          by_cases he : R (p + i - (j + 1)) = R (p + i)
          · refine s_pos (nar_inj (x4 _) (x4 _) (by rw [z1, z2, he])) ?_
            refine s_let (fun x9 hx9 => ?_)
            rw [N_one, N_add] at hx9
            subst hx9
            exact ih2 (by omega) _ _ ⟨rfl, rfl, ml_s hm (by rw [ei]; exact he)⟩
          · refine s_neg (fun h9 => he ?_) ?_
            · rw [h9, z2] at z1
              exact (N_inj (by omega) (by omega)).mp z1
            · exact tail i (ml_stop hm (by rw [ei]; exact he) c (by omega))
