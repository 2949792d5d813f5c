/-! ROWS RESTORED, BOTH SIDES -/
theorem add_and {a : Int32} {A b : Nat} (ha : a &&& N 255 = N A) (hA : A < 256) (hb : b < 256) : vp_nar .byte ((a + N b).toInt8.toInt32) &&& N 255 = N ((A + b) % 256) := by
  rw [sb_and]
  congr 1
  apply lob_eq _ (Nat.mod_lt _ (by decide))
  rw [← and255, ← N_and, ← N_add, ← ha]
  apply Int32.toBitVec_inj.1
  show (a.toBitVec + (N b).toBitVec) &&& 255#32 = ((a.toBitVec &&& 255#32) + (N b).toBitVec) &&& 255#32
  generalize a.toBitVec = x
  generalize (N b).toBitVec = y
  apply BitVec.eq_of_toNat_eq
  simp only [BitVec.toNat_and, BitVec.toNat_add, BitVec.toNat_ofNat]
  rw [show (255 % 2 ^ 32 : Nat) = 255 from rfl, and255, and255, and255]
  omega
theorem nar_small {x : Int32} {f : Nat} (hx : ∃ y, x = vp_nar .byte y) (h : x &&& N 255 = N f) (hf : f < 5) : x = N f := by
  refine nar_inj hx ⟨N f, ?_⟩ ?_
  · rcases (show f = 0 ∨ f = 1 ∨ f = 2 ∨ f = 3 ∨ f = 4 by omega) with rfl | rfl | rfl | rfl | rfl <;> decide
  · rw [h]
    rcases (show f = 0 ∨ f = 1 ∨ f = 2 ∨ f = 3 ∨ f = 4 by omega) with rfl | rfl | rfl | rfl | rfl <;> decide
/-- the class's last step: all colours there -/
def ClTail (n p : Nat) (σ7 : Mm) : Option (Int32 × Mm) :=
kf_j (α := Int32) (fun x9 σ10 =>
kf_z x9 (some (x9, σ10))) fun k8 =>
kf_j (α := Unit) (fun x12 σ13 =>
k8 1 σ13) fun k11 =>
if (gS σ7 (64 * p + 2)) = 3 then (
kf_c2 (F_Rows_allColoursThere n p 5 σ7) fun x14 σ15 =>
if x14 = 0 then (
k8 0 σ15) else (
k11 () σ15)) else (
k11 () σ7)
abbrev ARes (p a : Nat) : Prop := a = 8 ∨ a = p + 1
theorem row_same {w h lc q l q' l' : Nat} (hl : l < ln w h lc q) (hl' : l' < ln w h lc q') (he : bs w h lc q' + l' = bs w h lc q + l) : q' = q ∧ l' = l := by
  rcases Nat.lt_trichotomy q' q with c | rfl | c
  · have := bs_lt (l := l) hl' (Or.inl c); omega
  · exact ⟨rfl, by omega⟩
  · have := bs_lt (l := l') hl (Or.inl c); omega
set_option maxHeartbeats 4000000 in
theorem L_rows {n p w h kd dp lc cc tc : Nat} {co th R : Nat → Nat} {s t : Mm} {Q : Int32 × Mm → Int32 × Mm → Prop} (hn : 600000 < n) (hp : PtC s) (hpm : PtM t) (h38 : isP p) (hh : Hd w h lc) (hk : kdOk kd dp) (hH : PicH p w h kd dp lc cc tc co th s) (hR : ∀ i, R i < 256) (hraw : ∀ i, i < bt w h lc (ch kd * dp) 8 → gB s 7 i = N (R i)) (hRM : RowsM w h lc (ch kd * dp) t) (hrk : gS t 4084 = N kd) (hrd : gS t 4085 = N dp) (hrawM : ∀ i, i < bt w h lc (ch kd * dp) 8 → gB t 73 i &&& N 255 = N (R i)) (hrg : Rng t)
  (hbad : ∀ cd pl s' t', FC cd pl s' → FV cd pl t' → Q (0, s') (0, t'))
  (hgood : ∀ Fl s' t', (∀ j, Fl j < 256) → (∀ q l, q < 8 → l < ln w h lc q → ∀ i c, i < pn w q → c < ch kd → gB s' (p + 1) (ix w kd q l i c) = N (sv Fl dp (ro w h lc (ch kd * dp) q l + 1) (i * ch kd + c))) → (∀ q l, q < 8 → l < ln w h lc q → ∀ i, i < rb w (ch kd * dp) q → gB t' 73 (ro w h lc (ch kd * dp) q l + 1 + i) &&& N 255 = N (Fl (ro w h lc (ch kd * dp) q l + 1 + i))) → Fr PN (ARes p) s s' → Fr PN A73 t t' → Ok (ClTail n p s') (fun x => Q x (1, t'))) :
  Ok (F_Rows_restore n 6 p 5 s) (fun x => Ok (F_Md_isPlain n 63 t) (fun y => Q x y)) := by
  have hB8 := bs_8 hh
  have hcm := ch_mul hk
  have hT8 := bt_8 hh hcm.2
  have hp50 : p ≤ 50 := by rcases h38 with rfl | rfl <;> decide
  have hp38 : 38 ≤ p := by rcases h38 with rfl | rfl <;> decide
  have fldC : ∀ {s' : Mm}, Fr PN (ARes p) s s' → PtC s' ∧ PicH p w h kd dp lc cc tc co th s' := fun f => ⟨hp.fr' f PN_C, hH.fr f (fun k _ => id) (fun a ha hne z => by unfold UAc ALay at ha; unfold ARes at z; omega)⟩
  have fldM : ∀ {t' : Mm}, Fr PN A73 t t' → PtM t' ∧ RowsM w h lc (ch kd * dp) t' ∧ gS t' 4084 = N kd ∧ gS t' 4085 = N dp := fun f => ⟨hpm.fr' f (fun k h => h.elim), hRM.fr f id id (fun a ha z => by unfold ARw at ha; unfold A73 at z; omega), (f.S id).trans hrk, (f.S id).trans hrd⟩
  have rawC : ∀ {s' : Mm}, Fr PN (ARes p) s s' → ∀ i, i < bt w h lc (ch kd * dp) 8 → gB s' 7 i = N (R i) := fun f i hi => by rw [f.B (by unfold ARes; omega)]; exact hraw i hi
  unfold F_Rows_restore F_Md_isPlain
  refine s_R (hp.pic_layout h38) ?_
  refine ok_for2 0 (bs w h lc 8) (fun r x s' y t' => x = N r ∧ y = N r ∧ s' = s ∧ t' = t ∧ ∀ q l, q < 8 → l < ln w h lc q → bs w h lc q + l < r → R (ro w h lc (ch kd * dp) q l) < 5) ?_ (by omega) (by omega) (by omega) ⟨rfl, rfl, rfl, rfl, fun q l _ _ h => by omega⟩
  rintro r k1 k2 x s' y t' - hr ⟨rfl, rfl, rfl, rfl, hfl⟩ ih
  have d0 := hH.2.2.2.2.2.2.2.2.1.1
  by_cases hre : r = bs w h lc 8
  · subst hre
    refine s_pos (by rw [d0]; exact Int32.le_refl _) ?_
    refine Ok.sw ?_
    refine s_pos (by rw [show gS t' (64 * 63 + 38) = N (bs w h lc 8) from hRM.1]; exact Int32.le_refl _) ?_
    refine Ok.sw ?_
    clear ih
    refine ok_for2 0 (bs w h lc 8) (fun r x s1 y t1 => x = N r ∧ y = N r ∧ ∃ Fl : Nat → Nat, (∀ j, Fl j < 256) ∧ (∀ q l, q < 8 → l < ln w h lc q → bs w h lc q + l < r → (∀ i, i < rb w (ch kd * dp) q → gB s1 8 (ro w h lc (ch kd * dp) q l + 1 + i) = N (Fl (ro w h lc (ch kd * dp) q l + 1 + i))) ∧ ∀ i c, i < pn w q → c < ch kd → gB s1 (p + 1) (ix w kd q l i c) = N (sv Fl dp (ro w h lc (ch kd * dp) q l + 1) (i * ch kd + c))) ∧ (∀ q l, q < 8 → l < ln w h lc q → gB t1 73 (ro w h lc (ch kd * dp) q l) &&& N 255 = N (R (ro w h lc (ch kd * dp) q l)) ∧ ∀ i, i < rb w (ch kd * dp) q → gB t1 73 (ro w h lc (ch kd * dp) q l + 1 + i) &&& N 255 = N (if bs w h lc q + l < r then Fl (ro w h lc (ch kd * dp) q l + 1 + i) else R (ro w h lc (ch kd * dp) q l + 1 + i))) ∧ Fr PN (ARes p) s' s1 ∧ Fr PN A73 t' t1 ∧ Rng t1) ?_ (by omega) (by omega) (by omega) ⟨rfl, rfl, fun _ => 0, fun _ => (by decide : 0 < 256), fun q l _ _ h => by omega, fun q l hq hl => ⟨hrawM _ (by have := ro_lt (bits := ch kd * dp) hq hl; omega), fun i hi => by rw [if_neg (by omega)]; exact hrawM _ (by have := ro_lt (bits := ch kd * dp) hq hl; omega)⟩, Fr.rfl, Fr.rfl, hrg⟩
    rintro r k1 k2 x s1 y t1 - hr ⟨rfl, rfl, Fl, hF, hC1, hM1, f1, g1, rg1⟩ ih
    obtain ⟨hp1, hH1⟩ := fldC f1
    obtain ⟨hm1, hRM1, -, -⟩ := fldM g1
    by_cases hre : r = bs w h lc 8
    · subst hre
      refine s_pos (by rw [hH1.2.2.2.2.2.2.2.2.1.1]; exact Int32.le_refl _) ?_
      refine Ok.sw ?_
      refine s_pos (by rw [show gS t1 (64 * 63 + 38) = N (bs w h lc 8) from hRM1.1]; exact Int32.le_refl _) ?_
      refine s_z (Or.inr rfl) (Ok.some ?_)
      exact hgood Fl s1 t1 hF (fun q l hq hl => (hC1 q l hq hl (bs_in hl hq)).2) (fun q l hq hl i hi => by rw [(hM1 q l hq hl).2 i hi, if_pos (bs_in hl hq)]) f1 g1
    · obtain ⟨q, l, hq, hl, hkq⟩ := row_ex (show r < bs w h lc 8 by omega)
      subst hkq
      have hrt := ro_lt (bits := ch kd * dp) hq hl
      have hup : 0 < l → ro w h lc (ch kd * dp) q l = ro w h lc (ch kd * dp) q (l - 1) + (1 + rb w (ch kd * dp) q) := fun h0 => by
        have : ro w h lc (ch kd * dp) q l = ro w h lc (ch kd * dp) q (l - 1 + 1) := by congr 1; omega
        rw [this, ro_s]
      have hfar : 1 ≤ far (ch kd * dp) ∧ far (ch kd * dp) ≤ 8 := by unfold far; split <;> omega
      have hf5 := hfl q l hq hl (bs_in hl hq)
      obtain ⟨a1, a2, a3, a4, a5, a6, a7⟩ := hH1.2.2.2.2.2.2.2.2.1.2.2.2 q l hq hl
      refine s_neg (by rw [hH1.2.2.2.2.2.2.2.2.1.1, N_le (by omega) (by omega)]; omega) ?_
      refine s_R (hp1.lay_at h38) ?_
      refine s_in rfl (by rw [kdp_9 h38]; omega) (by omega) ?_
      (try rw [N_nat (by omega)])
      rw [a5]
      refine s_let (fun x9 hx9 => ?_)
      rw [show (1 : Int32) = N 1 from rfl, N_add] at hx9
      subst hx9
      refine s_R hp1.Rows_raw ?_
      refine s_let (fun x9 hx9 => ?_)
      rw [show (1 : Int32) = N 1 from rfl, N_sub (by omega), Nat.add_sub_cancel] at hx9
      subst hx9
      refine s_in rfl (by rw [kd_7]; omega) (by omega) ?_
      refine s_let (fun x9 hx9 => ?_)
      rw [N_nat (by omega), rawC f1 _ (by omega)] at hx9
      subst hx9
      clear a1 a2 a3 a4 a5 a7
      refine Ok.sw ?_
      refine s_neg (by rw [show gS t1 (64 * 63 + 38) = N (bs w h lc 8) from hRM1.1, N_le (by omega) (by omega)]; omega) ?_
      refine Ok.sw ?_
      generalize hrb : rb w (ch kd * dp) q = len at hrt hup a6
      generalize hroe : ro w h lc (ch kd * dp) q l = o at hrt hup hf5
      refine ok_for2 0 len (fun i x s2 y t2 => x = N i ∧ y = N i ∧ ∃ F' : Nat → Nat, (∀ j, F' j < 256) ∧ (∀ j, (j < o + 1 ∨ o + 1 + len ≤ j) → F' j = Fl j) ∧ (∀ k, k < i → gB s2 8 (o + 1 + k) = N (F' (o + 1 + k))) ∧ (∀ j, (j < o + 1 ∨ o + 1 + len ≤ j) → gB s2 8 j = gB s1 8 j) ∧ gB s2 (p + 1) = gB s1 (p + 1) ∧ (∀ k, k < len → gB t2 73 (o + 1 + k) &&& N 255 = N (if k < i then F' (o + 1 + k) else R (o + 1 + k))) ∧ (∀ j, (j < o + 1 ∨ o + 1 + len ≤ j) → gB t2 73 j = gB t1 73 j) ∧ Fr PN (ARes p) s' s2 ∧ Fr PN A73 t' t2 ∧ Rng t2) ?_ (by omega) (by omega) (by omega) ⟨rfl, rfl, Fl, hF, fun _ _ => rfl, fun k hk => by omega, fun _ _ => rfl, rfl, fun k hk => ?_, fun _ _ => rfl, f1, g1, rg1⟩
      · rintro i k3 k4 x s2 y t2 - hi ⟨rfl, rfl, F', b1, b2, b3, b4, b5, b6, b7, f2, g2, rg2⟩ ih2
        obtain ⟨hp2, hH2⟩ := fldC f2
        obtain ⟨hm2, hRM2, hrk2, hrd2⟩ := fldM g2
        obtain ⟨c1, c2, c3, c4, c5, c6, c7⟩ := hH2.2.2.2.2.2.2.2.2.1.2.2.2 q l hq hl
        obtain ⟨e1, e2, e3, e4, e5⟩ := hRM2.2.2 q l hq hl
        rw [hrb] at c6 e5
        rw [hroe] at e3
        have hbi := bs_in hl hq
        refine s_R (hp2.lay_length h38) ?_
        refine s_in rfl (by rw [kdp_10 h38]; omega) (by omega) ?_
        (try rw [N_nat (by omega)])
        rw [c6]
        by_cases hie : len = i
        · subst hie
          refine s_pos (Int32.le_refl _) ?_
          refine (C_scatter (F := F') (cc := cc) (tc := tc) (co := co) (th := th) rfl (by omega) hp2 h38 hh hk hH2 hq hl b1 (fun k hk => by rw [hroe]; exact b3 k (by rw [hrb] at hk; exact hk))).bind ?_
          rintro s3 ⟨z1, z2, z3⟩
          refine s_let (fun x9 hx9 => ?_)
          rw [N_one, N_add] at hx9
          subst hx9
          refine Ok.sw ?_
          refine s_R hm2.rowBytes ?_
          refine s_in rfl (by rw [kd_77]; omega) (by omega) ?_
          (try rw [N_nat (by omega)])
          rw [e5]
          refine s_pos (Int32.le_refl _) ?_
          refine s_let (fun x9 hx9 => ?_)
          rw [N_one, N_add] at hx9
          subst hx9
          refine Ok.sw ?_
          have flat3 : gB s3 8 = gB s2 8 := z3.B (by unfold AP1; omega)
          refine ih (by omega) _ _ _ _ ⟨rfl, rfl, F', b1, ?_, ?_, f2.trans (z3.mono (fun _ h => h) (fun a ha => Or.inr ha)), g2, rg2⟩
          · intro q' l' hq' hl' hlt
            by_cases hsame : bs w h lc q' + l' = bs w h lc q + l
            · obtain ⟨rfl, rfl⟩ := row_same hl hl' hsame
              rw [hroe] at z1 ⊢
              refine ⟨fun k hk => ?_, fun k c h1 h2 => z1 k c h1 h2⟩
              rw [flat3]
              exact b3 k (by rw [hrb] at hk; exact hk)
            · obtain ⟨o1, o2⟩ := hC1 q' l' hq' hl' (by omega)
              have hsep := ro_sep (bits := ch kd * dp) hl' (bs_lex hl (by omega : bs w h lc q' + l' < bs w h lc q + l))
              rw [hroe] at hsep
              refine ⟨fun k hk => ?_, fun k c h1 h2 => ?_⟩
              · rw [flat3, b4 _ (Or.inl (by omega)), b2 _ (Or.inl (by omega))]
                exact o1 k hk
              · rw [z2 _ (fun k' c' h3 h4 z => ?_), b5, o2 k c h1 h2]
                · refine congrArg N ?_
                  have hm : k * ch kd + c < pn w q' * ch kd := by
                    have : (k + 1) * ch kd ≤ pn w q' * ch kd := Nat.mul_le_mul_right _ h1
                    rw [Nat.add_mul, Nat.one_mul] at this
                    omega
                  exact sv_ext hk.dp (rb_bits hm hk.b.2.1) (fun k' hk' => (b2 _ (Or.inl (by omega))).symm)
                · obtain ⟨y1, y2, -, -⟩ := ix_inj hq' hl' h1 h2 hq hl h3 h4 z
                  subst y1 y2
                  exact hsame rfl
          · intro q' l' hq' hl'
            obtain ⟨o1, o2⟩ := hM1 q' l' hq' hl'
            by_cases hsame : bs w h lc q' + l' = bs w h lc q + l
            · obtain ⟨rfl, rfl⟩ := row_same hl hl' hsame
              rw [hroe] at o1
              rw [hroe, hrb] at o2 ⊢
              refine ⟨?_, fun k hk => ?_⟩
              · rw [b7 o (Or.inl (by omega))]; exact o1
              · rw [b6 k hk, if_pos hk, if_pos (by omega)]
            · have hsep : ro w h lc (ch kd * dp) q' l' + (1 + rb w (ch kd * dp) q') ≤ o ∨ o + (1 + len) ≤ ro w h lc (ch kd * dp) q' l' := by
                by_cases hlt : bs w h lc q' + l' < bs w h lc q + l
                · left
                  have := ro_sep (bits := ch kd * dp) hl' (bs_lex hl hlt)
                  rw [hroe] at this
                  exact this
                · right
                  have := ro_sep (bits := ch kd * dp) hl (bs_lex hl' (by omega : bs w h lc q + l < bs w h lc q' + l'))
                  rw [hroe, hrb] at this
                  exact this
              refine ⟨?_, fun k hk => ?_⟩
              · rw [b7 _ (by omega)]; exact o1
              · rw [b7 _ (by omega), o2 k hk]
                by_cases hlt : bs w h lc q' + l' < bs w h lc q + l
                · rw [if_pos hlt, if_pos (by omega), b2 _ (by omega)]
                · rw [if_neg hlt, if_neg (by omega)]
        · refine s_neg (by rw [N_le (by omega) (by omega)]; omega) ?_
          obtain ⟨A, hA⟩ : ∃ A, A = if far (ch kd * dp) ≤ i then F' (o + 1 + (i - far (ch kd * dp))) else 0 := ⟨_, rfl⟩
          obtain ⟨B, hBd⟩ : ∃ B, B = if 0 < l then F' (ro w h lc (ch kd * dp) q (l - 1) + 1 + i) else 0 := ⟨_, rfl⟩
          obtain ⟨C, hCd⟩ : ∃ C, C = if far (ch kd * dp) ≤ i ∧ 0 < l then F' (ro w h lc (ch kd * dp) q (l - 1) + 1 + (i - far (ch kd * dp))) else 0 := ⟨_, rfl⟩
          have hA2 : A < 256 := by rw [hA]; split; exact b1 _; decide
          have hB2 : B < 256 := by rw [hBd]; split; exact b1 _; decide
          have hC2 : C < 256 := by rw [hCd]; split; exact b1 _; decide
          have upC : 0 < l → ∀ k, k < len → gB s2 8 (ro w h lc (ch kd * dp) q (l - 1) + 1 + k) = N (F' (ro w h lc (ch kd * dp) q (l - 1) + 1 + k)) := fun h0 k hk => by
            have := hup h0
            rw [b4 _ (Or.inl (by omega)), b2 _ (Or.inl (by omega))]
            exact (hC1 q (l - 1) hq (by omega) (by omega)).1 k (by rw [hrb]; exact hk)
          have upM : 0 < l → ∀ k, k < len → gB t2 73 (ro w h lc (ch kd * dp) q (l - 1) + 1 + k) &&& N 255 = N (F' (ro w h lc (ch kd * dp) q (l - 1) + 1 + k)) := fun h0 k hk => by
            have := hup h0
            rw [b7 _ (Or.inl (by omega)), (hM1 q (l - 1) hq (by omega)).2 k (by rw [hrb]; exact hk), if_pos (by omega), b2 _ (Or.inl (by omega))]
          have GC : F_Rows_guess n 6 (p + 4) (N (bs w h lc q + l)) (N i) (N (R o)) s2 = some (N (gs (R o) A B C), s2) := by
            refine Rows_guess_eq rfl rfl rfl hp2 h38 hh hcm.2 hH2.2.2.2.2.2.2.2.2.1 hq hl (by omega) hf5 hA2 hB2 hC2 ?_ ?_ ?_
            · rw [hroe]
              by_cases c : far (ch kd * dp) ≤ i
              · rw [if_pos c, hA, if_pos c, ← b3 (i - far (ch kd * dp)) (by omega)]
                congr 1
                omega
              · rw [if_neg c, hA, if_neg c]
            · rw [hroe, hrb]
              by_cases c : 0 < l
              · have := hup c
                rw [if_pos c, hBd, if_pos c, ← upC c i (by omega)]
                congr 1
                omega
              · rw [if_neg c, hBd, if_neg c]
            · rw [hroe, hrb]
              by_cases c : far (ch kd * dp) ≤ i ∧ 0 < l
              · have := hup c.2
                rw [if_pos c, hCd, if_pos c, ← upC c.2 (i - far (ch kd * dp)) (by omega)]
                congr 1
                omega
              · rw [if_neg c, hCd, if_neg c]
          have GM : ∀ x : Int32, x = N (R o) → F_Md_guess n 63 x (N (bs w h lc q + l)) (N i) t2 = some (N (gs (R o) A B C), t2) := fun x hx => by
            refine Md_guess_eq hx rfl rfl hm2 hh hk hRM2 hrk2 hrd2 hq hl (by omega) hf5 hA2 hB2 hC2 ?_ ?_ ?_
            · rw [hroe]
              by_cases c : far (ch kd * dp) ≤ i
              · rw [if_pos c, hA, if_pos c, b6 _ (by omega), if_pos (by omega)]
              · rw [if_neg c, hA, if_neg c]
            · by_cases c : 0 < l
              · rw [if_pos c, hBd, if_pos c]
                exact upM c i (by omega)
              · rw [if_neg c, hBd, if_neg c]
            · by_cases c : far (ch kd * dp) ≤ i ∧ 0 < l
              · rw [if_pos c, hCd, if_pos c]
                exact upM c.2 _ (by omega)
              · rw [if_neg c, hCd, if_neg c]
          have hgl := gs_lt (f := R o) hA2 hB2 hC2
          generalize gs (R o) A B C = g at GC GM hgl
          clear hA hBd hCd hA2 hB2 hC2 upC upM
          refine s_R hp2.Rows_flat ?_
          refine s_R hp2.Rows_raw ?_
          refine s_let (fun x9 hx9 => ?_)
          rw [N_add] at hx9
          subst hx9
          refine s_in rfl (by rw [kd_7]; omega) (by omega) ?_
          refine s_c GC ?_
          rw [N_add]
          refine s_in rfl (by rw [kd_8]; omega) (by omega) ?_
          have hRi := hR (o + 1 + i)
          refine s_let (fun s3 e3' => ?_)
          rw [N_nat (by omega), rawC f2 _ (by omega), N_add, show (255 : Int32) = N 255 from rfl, N_and, and255] at e3'
          refine s_let (fun x9 hx9 => ?_)
          rw [N_one, N_add] at hx9
          subst hx9
          refine Ok.sw ?_
          refine s_R hm2.rowBytes ?_
          refine s_in rfl (by rw [kd_77]; omega) (by omega) ?_
          (try rw [N_nat (by omega)])
          rw [e5]
          refine s_neg (by rw [N_le (by omega) (by omega)]; omega) ?_
          refine s_R hm2.rowStarts ?_
          refine s_in rfl (by rw [kd_76]; omega) (by omega) ?_
          rw [e3]
          refine s_let (fun x9 hx9 => ?_)
          rw [show (1 : Int32) = N 1 from rfl, N_add, N_add] at hx9
          subst hx9
          refine s_R hm2.raw ?_
          refine s_R hm2.raw ?_
          refine s_in rfl (by rw [kd_73]; omega) (by omega) ?_
          refine s_R hm2.raw ?_
          refine s_R hm2.rowStarts ?_
          refine s_in rfl (by rw [kd_76]; omega) (by omega) ?_
          refine s_let (fun x9 hx9 => ?_)
          rw [e3] at hx9
          subst hx9
          refine s_in rfl (by rw [kd_73]; omega) (by omega) ?_
          have hfilt : gB t2 73 o = N (R o) := by
            refine nar_small (rg2 o) ?_ hf5
            rw [b7 o (Or.inl (by omega))]
            have := (hM1 q l hq hl).1
            rw [hroe] at this
            exact this
          refine s_c (GM _ (by rw [N_nat (by omega)]; exact hfilt)) ?_
          refine s_in rfl (by rw [kd_73]; omega) (by omega) ?_
          refine s_let (fun t3 d3 => ?_)
          rw [N_nat (by omega)] at d3
          refine s_let (fun x9 hx9 => ?_)
          rw [N_one, N_add] at hx9
          subst hx9
          refine Ok.sw ?_
          have hval : vp_nar .byte ((gB t2 73 (o + 1 + i) + N g).toInt8.toInt32) &&& N 255 = N ((R (o + 1 + i) + g) % 256) := add_and (by rw [b6 i (by omega), if_neg (by omega)]) hRi hgl
          refine ih2 (by omega) _ _ _ _ ⟨rfl, rfl, updN F' (o + 1 + i) ((R (o + 1 + i) + g) % 256), updN_lt b1 (Nat.mod_lt _ (by decide)), ?_, ?_, ?_, ?_, ?_, ?_, by rw [e3']; exact Fr.wB f2 (Or.inl rfl) _ _, by rw [d3]; exact Fr.wB g2 rfl _ _, by rw [d3]; exact rg2.pB (fun _ => ⟨_, rfl⟩)⟩
          · intro j hj
            unfold updN
            rw [if_neg (by omega)]
            exact b2 j hj
          · intro k hk
            rw [e3', gB_eq rfl]
            exact N_upd (fun hne => b3 k (by omega))
          · intro j hj
            rw [e3', gB_eq rfl, upd_ne (by omega)]
            exact b4 j hj
          · rw [e3', gB_ne (by omega)]
            exact b5
          · intro k hk
            rw [d3, gB_eq rfl]
            by_cases hki : k = i
            · subst hki
              rw [upd_eq rfl, if_pos (by omega), hval]
              unfold updN
              rw [if_pos rfl]
            · rw [upd_ne (by omega), b6 k hk]
              unfold updN
              rw [if_neg (show ¬ o + 1 + k = o + 1 + i by omega)]
              by_cases hlt : k < i
              · rw [if_pos hlt, if_pos (by omega)]
              · rw [if_neg hlt, if_neg (by omega)]
          · intro j hj
            rw [d3, gB_eq rfl, upd_ne (by omega)]
            exact b7 j hj
      · rw [if_neg (by omega)]
        have := (hM1 q l hq hl).2 k (by rw [hrb]; exact hk)
        rw [hroe, if_neg (by omega)] at this
        exact this
  · obtain ⟨q, l, hq, hl, hkq⟩ := row_ex (show r < bs w h lc 8 by omega)
    subst hkq
    have hrt := ro_lt (bits := ch kd * dp) hq hl
    obtain ⟨a1, a2, a3, a4, a5, a6, a7⟩ := hH.2.2.2.2.2.2.2.2.1.2.2.2 q l hq hl
    obtain ⟨e1, e2, e3, e4, e5⟩ := hRM.2.2 q l hq hl
    refine s_neg (by rw [d0, N_le (by omega) (by omega)]; omega) ?_
    refine s_R hp.Rows_raw ?_
    refine s_R (hp.lay_at h38) ?_
    refine s_in rfl (by rw [kdp_9 h38]; omega) (by omega) ?_
    refine s_let (fun x9 hx9 => ?_)
    (try rw [N_nat (by omega)] at hx9); rw [a5] at hx9
    subst hx9
    refine s_in rfl (by rw [kd_7]; omega) (by omega) ?_
    rw [N_nat (by omega), hraw _ (by omega)]
    refine Ok.sw ?_
    refine s_neg (by rw [show gS t' (64 * 63 + 38) = N (bs w h lc 8) from hRM.1, N_le (by omega) (by omega)]; omega) ?_
    refine s_R hpm.raw ?_
    refine s_R hpm.rowStarts ?_
    refine s_in rfl (by rw [kd_76]; omega) (by omega) ?_
    refine s_let (fun x9 hx9 => ?_)
    (try rw [N_nat (by omega)] at hx9); rw [e3] at hx9
    subst hx9
    refine s_in rfl (by rw [kd_73]; omega) (by omega) ?_
    rw [N_nat (by omega), show (255 : Int32) = N 255 from rfl, hrawM _ (by omega)]
    have hRr := hR (ro w h lc (ch kd * dp) q l)
    by_cases h5 : R (ro w h lc (ch kd * dp) q l) < 5
    · refine s_pos (by rw [show (4 : Int32) = N 4 from rfl, N_le (by omega) (by omega)]; omega) ?_
      refine s_let (fun x9 hx9 => ?_)
      rw [N_one, N_add] at hx9
      subst hx9
      refine Ok.sw ?_
      refine s_pos (by rw [show (5 : Int32) = N 5 from rfl, N_lt (by omega) (by omega)]; exact h5) ?_
      refine s_let (fun x9 hx9 => ?_)
      rw [N_one, N_add] at hx9
      subst hx9
      refine ih (by omega) _ _ _ _ ⟨rfl, rfl, rfl, rfl, fun q' l' hq' hl' hlt => ?_⟩
      by_cases hsame : bs w h lc q' + l' = bs w h lc q + l
      · obtain ⟨rfl, rfl⟩ := row_same hl hl' hsame
        exact h5
      · exact hfl q' l' hq' hl' (by omega)
    · refine s_neg (by rw [show (4 : Int32) = N 4 from rfl, N_le (by omega) (by omega)]; omega) ?_
      refine s_R hpm.rowStarts ?_
      refine s_in rfl (by rw [kd_76]; omega) (by omega) ?_
      (try rw [N_nat (by omega)])
      rw [e3]
      refine (M_flaw (c := 30) rfl rfl).c2 ?_
      rintro r t8 ⟨e8, g8⟩
      dsimp only at e8 g8 ⊢
      subst e8
      refine s_z (Or.inl rfl) (Ok.some ?_)
      refine s_neg (by rw [show (5 : Int32) = N 5 from rfl, N_lt (by omega) (by omega)]; exact h5) ?_
      refine s_R (hp.lay_at h38) ?_
      refine s_in rfl (by rw [kdp_9 h38]; omega) (by omega) ?_
      (try rw [N_nat (by omega)])
      rw [a5]
      refine (C_ref (c := 30) rfl rfl).c2 ?_
      rintro r s8 ⟨e8, h8⟩
      dsimp only at e8 h8 ⊢
      subst e8
      exact s_z (Or.inl rfl) (Ok.some (hbad _ _ _ _ h8 g8))
