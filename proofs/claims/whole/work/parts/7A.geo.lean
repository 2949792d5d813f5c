/-! WHERE SAMPLES LIE -/
def ix (w kd q l i c : Nat) : Nat := ((pY q + l * sY q) * w + (pX q + i * sX q)) * ch kd + c
/-- the pass of a point -/
def pq (X Y : Nat) : Nat := if Y % 2 = 1 then 6 else if X % 2 = 1 then 5 else if Y % 4 = 2 then 4 else if X % 4 = 2 then 3 else if Y % 8 = 4 then 2 else if X % 8 = 4 then 1 else 0
theorem pq_of {q i l : Nat} (hq : q < 7) : pq (pX q + i * sX q) (pY q + l * sY q) = q := by
  rcases (show q = 0 ∨ q = 1 ∨ q = 2 ∨ q = 3 ∨ q = 4 ∨ q = 5 ∨ q = 6 by omega) with rfl | rfl | rfl | rfl | rfl | rfl | rfl <;> (unfold pq pX pY sX sY; simp only [Nat.reduceEqDiff, Nat.reduceLT, if_true, if_false, reduceIte]; (repeat' split) <;> omega)
theorem ln_lc {w h lc q l : Nat} (hl : l < ln w h lc q) : (lc = 0 ∧ q = 7) ∨ (lc = 1 ∧ q < 7) := by
  unfold ln at hl
  split at hl
  · assumption
  · omega
theorem ix_inj {w h lc kd q l i c q' l' i' c' : Nat} (hq : q < 8) (hl : l < ln w h lc q) (hi : i < pn w q) (hc : c < ch kd) (hq' : q' < 8) (hl' : l' < ln w h lc q') (hi' : i' < pn w q') (hc' : c' < ch kd) (e : ix w kd q l i c = ix w kd q' l' i' c') : q = q' ∧ l = l' ∧ i = i' ∧ c = c' := by
  unfold ix at e
  have a := idx_pos (Y := pY q + l * sY q) ((ptsX_lt hq).mp hi) hc
  have b := idx_pos (Y := pY q' + l' * sY q') ((ptsX_lt hq').mp hi') hc'
  rw [e] at a
  have ec : c = c' := a.1.symm.trans b.1
  have eX := a.2.1.symm.trans b.2.1
  have eY := a.2.2.symm.trans b.2.2
  have eq : q = q' := by
    rcases ln_lc hl with ⟨h1, h2⟩ | ⟨h1, h2⟩
    · rcases ln_lc hl' with ⟨h3, h4⟩ | ⟨h3, h4⟩
      · omega
      · omega
    · rcases ln_lc hl' with ⟨h3, h4⟩ | ⟨h3, h4⟩
      · omega
      · rw [← pq_of (q := q) (i := i) (l := l) h2, eX, eY, pq_of h4]
  subst eq
  have s1 := (sX_b (q := q)).1
  have s2 := (sY_b (q := q)).1
  refine ⟨rfl, ?_, ?_, ec⟩
  · exact Nat.eq_of_mul_eq_mul_right s2 (Nat.add_left_cancel eY)
  · exact Nat.eq_of_mul_eq_mul_right s1 (Nat.add_left_cancel eX)
theorem pq_sur (X Y : Nat) : ∃ q l i, q < 7 ∧ X = pX q + i * sX q ∧ Y = pY q + l * sY q := by
  by_cases h6 : Y % 2 = 1
  · exact ⟨6, Y / 2, X, by omega, by unfold pX sX; simp only [Nat.reduceEqDiff, Nat.reduceLT, if_true, if_false, reduceIte]; omega, by unfold pY sY; simp only [Nat.reduceEqDiff, Nat.reduceLT, if_true, if_false, reduceIte]; omega⟩
  by_cases h5 : X % 2 = 1
  · exact ⟨5, Y / 2, X / 2, by omega, by unfold pX sX; simp only [Nat.reduceEqDiff, Nat.reduceLT, if_true, if_false, reduceIte]; omega, by unfold pY sY; simp only [Nat.reduceEqDiff, Nat.reduceLT, if_true, if_false, reduceIte]; omega⟩
  by_cases h4 : Y % 4 = 2
  · exact ⟨4, Y / 4, X / 2, by omega, by unfold pX sX; simp only [Nat.reduceEqDiff, Nat.reduceLT, if_true, if_false, reduceIte]; omega, by unfold pY sY; simp only [Nat.reduceEqDiff, Nat.reduceLT, if_true, if_false, reduceIte]; omega⟩
  by_cases h3 : X % 4 = 2
  · exact ⟨3, Y / 4, X / 4, by omega, by unfold pX sX; simp only [Nat.reduceEqDiff, Nat.reduceLT, if_true, if_false, reduceIte]; omega, by unfold pY sY; simp only [Nat.reduceEqDiff, Nat.reduceLT, if_true, if_false, reduceIte]; omega⟩
  by_cases h2 : Y % 8 = 4
  · exact ⟨2, Y / 8, X / 4, by omega, by unfold pX sX; simp only [Nat.reduceEqDiff, Nat.reduceLT, if_true, if_false, reduceIte]; omega, by unfold pY sY; simp only [Nat.reduceEqDiff, Nat.reduceLT, if_true, if_false, reduceIte]; omega⟩
  by_cases h1 : X % 8 = 4
  · exact ⟨1, Y / 8, X / 8, by omega, by unfold pX sX; simp only [Nat.reduceEqDiff, Nat.reduceLT, if_true, if_false, reduceIte]; omega, by unfold pY sY; simp only [Nat.reduceEqDiff, Nat.reduceLT, if_true, if_false, reduceIte]; omega⟩
  · exact ⟨0, Y / 8, X / 8, by omega, by unfold pX sX; simp only [Nat.reduceEqDiff, Nat.reduceLT, if_true, if_false, reduceIte]; omega, by unfold pY sY; simp only [Nat.reduceEqDiff, Nat.reduceLT, if_true, if_false, reduceIte]; omega⟩
theorem ln_get {w h lc q l i : Nat} (hq : q < 8) (hL : (lc = 0 ∧ q = 7) ∨ (lc = 1 ∧ q < 7)) (hi : i < pn w q) (hY : pY q + l * sY q < h) : l < ln w h lc q := by
  unfold ln
  rw [if_pos hL, if_neg (by omega)]
  exact (pts_lt hq).mpr hY
theorem ix_sur {w h lc kd t : Nat} (hh : Hd w h lc) (ht : t < w * h * ch kd) : ∃ q l i c, q < 8 ∧ l < ln w h lc q ∧ i < pn w q ∧ c < ch kd ∧ t = ix w kd q l i c := by
  have hc := (ch_b kd).1
  have hw := hh.1
  have hc1 : t % ch kd < ch kd := Nat.mod_lt _ hc
  have hX : t / ch kd % w < w := Nat.mod_lt _ hw
  have hY : t / ch kd / w < h := by
    rw [Nat.div_lt_iff_lt_mul hw, Nat.div_lt_iff_lt_mul hc]
    rw [Nat.mul_comm h w]
    exact ht
  have et : t = (t / ch kd / w * w + t / ch kd % w) * ch kd + t % ch kd := idx_uniq rfl rfl rfl
  obtain ⟨X, hXe⟩ : ∃ X, X = t / ch kd % w := ⟨_, rfl⟩
  obtain ⟨Y, hYe⟩ : ∃ Y, Y = t / ch kd / w := ⟨_, rfl⟩
  obtain ⟨c, hce⟩ : ∃ c, c = t % ch kd := ⟨_, rfl⟩
  rw [← hXe, ← hYe, ← hce] at et
  rw [← hXe] at hX
  rw [← hYe] at hY
  rw [← hce] at hc1
  have hlc := hh.2.2.2.2
  by_cases h0 : lc = 0
  · have ex : pX 7 = 0 := rfl
    have ey : pY 7 = 0 := rfl
    have sx : sX 7 = 1 := rfl
    have sy : sY 7 = 1 := rfl
    have hi : X < pn w 7 := (ptsX_lt (by decide)).mpr (by rw [ex, sx]; omega)
    refine ⟨7, Y, X, c, by decide, ln_get (i := X) (by decide) (Or.inl ⟨h0, rfl⟩) hi (by rw [ey, sy]; omega), hi, hc1, ?_⟩
    unfold ix
    rw [ex, ey, sx, sy, Nat.mul_one, Nat.mul_one, Nat.zero_add, Nat.zero_add]
    exact et
  · obtain ⟨q, l, i, hq, e1, e2⟩ := pq_sur X Y
    have hi : i < pn w q := (ptsX_lt (by omega)).mpr (by omega)
    refine ⟨q, l, i, c, by omega, ln_get (i := i) (by omega) (Or.inr ⟨by omega, hq⟩) hi (by omega), hi, hc1, ?_⟩
    unfold ix
    rw [← e1, ← e2]
    exact et
theorem ix_lt {w h lc kd q l i c : Nat} (hq : q < 8) (hl : l < ln w h lc q) (hi : i < pn w q) (hc : c < ch kd) : ix w kd q l i c < w * h * ch kd := idx_lt ((ptsX_lt hq).mp hi) (ln_lt hq hl) hc
/-- a picture of the class without its samples -/
def PicH (p w h kd dp lc cc tc : Nat) (co th : Nat → Nat) (σ : Mm) : Prop :=
  gS σ (64 * p + 0) = N w ∧ gS σ (64 * p + 1) = N h ∧ gS σ (64 * p + 2) = N kd ∧ gS σ (64 * p + 3) = N dp ∧ gS σ (64 * p + 4) = N lc ∧ gS σ (64 * p + 5) = N (ch kd) ∧ gS σ (64 * p + 6) = N cc ∧ gS σ (64 * p + 7) = N tc ∧ LayC p w h lc (ch kd * dp) σ ∧ (∀ i, i < 3 * cc → gB σ (p + 2) i = N (co i)) ∧ ∀ i, i < tc → gB σ (p + 3) i = N (th i)
theorem PicH.fr {P A : Nat → Prop} {σ σ' : Mm} {p w h kd dp lc cc tc : Nat} {co th : Nat → Nat} (h0 : PicH p w h kd dp lc cc tc co th σ) (hF : Fr P A σ σ') (hP : ∀ k, UPc p k → ¬ P k) (hA : ∀ a, UAc p a → a ≠ p + 1 → ¬ A a) : PicH p w h kd dp lc cc tc co th σ' := by
  obtain ⟨c0, c1, c2, c3, c4, c5, c6, c7, c8, c10, c11⟩ := h0
  have e : ∀ j, j ≤ 7 → gS σ' (64 * p + j) = gS σ (64 * p + j) := fun j h1 => hF.S (hP _ (Or.inl (by omega)))
  have e2 : ∀ j, 2 ≤ j → j ≤ 3 → gB σ' (p + j) = gB σ (p + j) := fun j h1 h2 => hF.B (hA _ (Or.inl (by omega)) (by omega))
  refine ⟨(e 0 (by decide)).trans c0, (e 1 (by decide)).trans c1, (e 2 (by decide)).trans c2, (e 3 (by decide)).trans c3, (e 4 (by decide)).trans c4, (e 5 (by decide)).trans c5, (e 6 (by decide)).trans c6, (e 7 (by decide)).trans c7, c8.fr hF (fun k hk => hP k (Or.inr hk)) (fun a ha => hA a (Or.inr ha) (by unfold ALay at ha; omega)), ?_, ?_⟩
  · rw [e2 2 (by decide) (by decide)]; exact c10
  · rw [e2 3 (by decide) (by decide)]; exact c11
theorem PicC.h {σ : Mm} {p w h kd dp lc cc tc : Nat} {sm co th : Nat → Nat} (h0 : PicC p w h kd dp lc cc tc sm co th σ) : PicH p w h kd dp lc cc tc co th σ := by
  obtain ⟨c0, c1, c2, c3, c4, c5, c6, c7, c8, c9, c10, c11⟩ := h0
  exact ⟨c0, c1, c2, c3, c4, c5, c6, c7, c8, c10, c11⟩
theorem PicH.c {σ : Mm} {p w h kd dp lc cc tc : Nat} {sm co th : Nat → Nat} (h0 : PicH p w h kd dp lc cc tc co th σ) (hs : ∀ i, i < w * h * ch kd → gB σ (p + 1) i = N (sm i)) : PicC p w h kd dp lc cc tc sm co th σ := by
  obtain ⟨c0, c1, c2, c3, c4, c5, c6, c7, c8, c10, c11⟩ := h0
  exact ⟨c0, c1, c2, c3, c4, c5, c6, c7, c8, hs, c10, c11⟩
abbrev AP1 (p a : Nat) : Prop := a = p + 1
set_option maxHeartbeats 1000000 in
theorem C_scatter {n p w h kd dp lc cc tc q l : Nat} {co th F : Nat → Nat} {s : Mm} {x : Int32} (ex : x = N (bs w h lc q + l)) (hn : 1000 < n) (hp : PtC s) (h38 : isP p) (hh : Hd w h lc) (hk : kdOk kd dp) (hH : PicH p w h kd dp lc cc tc co th s) (hq : q < 8) (hl : l < ln w h lc q) (hF : ∀ j, F j < 256) (hI : ∀ k, k < rb w (ch kd * dp) q → gB s 8 (ro w h lc (ch kd * dp) q l + 1 + k) = N (F (ro w h lc (ch kd * dp) q l + 1 + k))) : Ok (F_Rows_scatter n 6 p x s) (fun s' => (∀ i c, i < pn w q → c < ch kd → gB s' (p + 1) (ix w kd q l i c) = N (sv F dp (ro w h lc (ch kd * dp) q l + 1) (i * ch kd + c))) ∧ (∀ t, (∀ i c, i < pn w q → c < ch kd → t ≠ ix w kd q l i c) → gB s' (p + 1) t = gB s (p + 1) t) ∧ Fr PN (AP1 p) s s') := by
  subst ex
  have hB8 := bs_8 hh
  have hT8 := bt_8 hh (ch_mul hk).2
  have hbin := bs_in hl hq
  have hrt := ro_lt (bits := ch kd * dp) hq hl
  have hp50 : p ≤ 50 := by rcases h38 with rfl | rfl <;> decide
  have hp38 : 38 ≤ p := by rcases h38 with rfl | rfl <;> decide
  have hch := ch_b kd
  have hpn := pn_le (q := q) hh.2.1 hq
  have hwh := whc (kd := kd) hh
  have fld : ∀ {s' : Mm}, Fr PN (AP1 p) s s' → PtC s' ∧ PicH p w h kd dp lc cc tc co th s' := fun f => ⟨hp.fr' f PN_C, hH.fr f (fun k _ => id) (fun a _ hne => hne)⟩
  obtain ⟨d1, d2, d3, d4, d5, d6, d7⟩ := hH.2.2.2.2.2.2.2.2.1.2.2.2 q l hq hl
  unfold F_Rows_scatter
  refine s_R (hp.pic_layout h38) ?_
  refine s_R (hp.lay_at h38) ?_
  refine s_in rfl (by rw [kdp_9 h38]; omega) (by omega) ?_
  rw [N_nat (by omega), d5]
  refine s_let (fun x9 hx9 => ?_)
  rw [show (1 : Int32) = N 1 from rfl, N_add] at hx9
  subst hx9
  generalize hro : ro w h lc (ch kd * dp) q l + 1 = o at hI ⊢
  refine ok_for 0 (pn w q) (fun i x s' => x = (N (i * ch kd), N i) ∧ (∀ i' c', c' < ch kd → i' < i → gB s' (p + 1) (ix w kd q l i' c') = N (sv F dp o (i' * ch kd + c'))) ∧ (∀ t, (∀ i' c', c' < ch kd → i' < i → t ≠ ix w kd q l i' c') → gB s' (p + 1) t = gB s (p + 1) t) ∧ Fr PN (AP1 p) s s') ?_ (by omega) (by omega) ⟨by rw [Nat.zero_mul]; rfl, fun i' c' _ h => by omega, fun t _ => rfl, Fr.rfl⟩
  rintro i k9 x s1 - hi ⟨rfl, z1, z2, f1⟩ ih
  obtain ⟨hp1, hH1⟩ := fld f1
  obtain ⟨g1, g2, g3, g4, g5, g6, g7⟩ := hH1.2.2.2.2.2.2.2.2.1.2.2.2 q l hq hl
  refine s_R (hp1.lay_points h38) ?_
  refine s_in rfl (by rw [kdp_8 h38]; omega) (by omega) ?_
  rw [g4]
  by_cases hie : pn w q = i
  · subst hie
    refine s_pos (Int32.le_refl _) (Ok.some ⟨fun i c hi hc => z1 i c hc hi, fun t ht => z2 t (fun i c hc hi => ht i c hi hc), f1⟩)
  · refine s_neg (by rw [N_le (by omega) (by omega)]; omega) ?_
    have hXw := (ptsX_lt (z := w) (l := i) hq).mp (by omega)
    have hYh := ln_lt hq hl
    refine s_R (hp1.lay_x h38) ?_
    refine s_in rfl (by rw [kdp_5 h38]; omega) (by omega) ?_
    refine s_R (hp1.lay_step h38) ?_
    refine s_in rfl (by rw [kdp_7 h38]; omega) (by omega) ?_
    refine s_R (hp1.lay_y h38) ?_
    refine s_in rfl (by rw [kdp_6 h38]; omega) (by omega) ?_
    unfold F_Picture_indexOf
    refine s_c rfl ?_
    rw [g1, g2, g3, hH1.1, hH1.2.2.2.2.2.1, N_mul, N_mul, N_add, N_add, N_mul]
    refine ok_for 0 (ch kd) (fun c x s' => x = (N (i * ch kd + c), N c) ∧ (∀ i' c', c' < ch kd → (i' < i ∨ (i' = i ∧ c' < c)) → gB s' (p + 1) (ix w kd q l i' c') = N (sv F dp o (i' * ch kd + c'))) ∧ (∀ t, (∀ i' c', c' < ch kd → (i' < i ∨ (i' = i ∧ c' < c)) → t ≠ ix w kd q l i' c') → gB s' (p + 1) t = gB s (p + 1) t) ∧ Fr PN (AP1 p) s s') ?_ (by omega) (by omega) ⟨rfl, fun i' c' h1 h2 => z1 i' c' h1 (by omega), fun t ht => z2 t (fun i' c' h1 h2 => ht i' c' h1 (Or.inl h2)), f1⟩
    rintro c k8 x s2 - hc ⟨rfl, y1, y2, f2⟩ ih2
    obtain ⟨hp2, hH2⟩ := fld f2
    rw [hH2.2.2.2.2.2.1, hH2.2.2.2.1]
    by_cases hce : ch kd = c
    · subst hce
      refine s_pos (Int32.le_refl _) ?_
      refine s_let (fun x9 hx9 => ?_)
      rw [N_one, N_add] at hx9
      subst hx9
      refine ih (by omega) _ _ ⟨?_, fun i' c' h1 h2 => y1 i' c' h1 (by omega), fun t ht => y2 t (fun i' c' h1 h2 => ht i' c' h1 (by omega)), f2⟩
      rw [Nat.add_mul, Nat.one_mul]
    · refine s_neg (by rw [N_le (by omega) (by omega)]; omega) ?_
      have hm : i * ch kd + c < pn w q * ch kd := by
        have : (i + 1) * ch kd ≤ pn w q * ch kd := Nat.mul_le_mul_right _ (by omega)
        rw [Nat.add_mul, Nat.one_mul] at this
        omega
      have hbits := rb_bits hm hk.b.2.1
      have hix := ix_lt (kd := kd) hq hl (show i < pn w q by omega) (show c < ch kd by omega)
      refine s_R (hp2.pic_samples h38) ?_
      refine s_c (sampleAt_eq (len := rb w (ch kd * dp) q) (F := F) rfl rfl rfl hp2 hk.dp hF hbits (by omega) (fun k hk => by rw [f2.B (by unfold AP1; omega)]; exact hI k hk)) ?_
      rw [N_add, show ((pY q + l * sY q) * w + (pX q + i * sX q)) * ch kd + c = ix w kd q l i c from rfl]
      refine s_in rfl (by rw [kdp_1 h38]; omega) (by omega) ?_
      rw [N_nat (by omega)]
      refine s_let (fun s3 e3 => ?_)
      refine s_let (fun x9 hx9 => ?_)
      dsimp only at hx9
      rw [N_one, N_add] at hx9
      subst hx9
      refine s_let (fun x9 hx9 => ?_)
      dsimp only at hx9
      rw [N_one, N_add] at hx9
      subst hx9
      refine ih2 (by omega) _ _ ⟨by rw [Nat.add_assoc], fun i' c' h1 h2 => ?_, fun t ht => ?_, by rw [e3]; exact Fr.wB f2 rfl _ _⟩
      · rw [e3, gB_eq rfl]
        by_cases hsame : ix w kd q l i' c' = ix w kd q l i c
        · obtain ⟨-, -, ei, ec⟩ := ix_inj hq hl (show i' < pn w q by omega) h1 hq hl (show i < pn w q by omega) (show c < ch kd by omega) hsame
          subst ei ec
          exact upd_eq rfl
        · rw [upd_ne hsame]
          refine y1 i' c' h1 ?_
          by_cases hcc : i' = i ∧ c' = c
          · obtain ⟨rfl, rfl⟩ := hcc
            exact absurd rfl hsame
          · omega
      · rw [e3, gB_eq rfl, upd_ne (ht i c (by omega) (Or.inr ⟨rfl, by omega⟩))]
        exact y2 t (fun i' c' h1 h2 => ht i' c' h1 (by omega))
