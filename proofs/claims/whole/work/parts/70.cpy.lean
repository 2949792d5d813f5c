/-! A COPY, BOTH SIDES -/



/-- the codes of distances as both sides have them -/
def DsC (c : Nat) (dls : Nat → Nat) (scnt dcnt : Nat) (s t : Mm) : Prop := CodC c dls dcnt s ∧ (∀ k, k < dcnt → dls k ≤ 15) ∧ dcnt ≤ 32 ∧ scnt + dcnt ≤ 320 ∧ CdOk dls dcnt ∧ gS t 4079 = N scnt ∧ gS t 4080 = N dcnt ∧ ∀ k, k < dcnt → gB t 79 (scnt + k) = N (dls k)
theorem DsC.fr {q c scnt dcnt : Nat} {dls : Nat → Nat} {lp la lp' la' : List Nat} {s s' t t' : Mm} (hc : isK c) (h : DsC c dls scnt dcnt s t) (f : FI lp la q s s') (g : FM lp' la' t t') (hp : ∀ k ∈ lp, k < 800) (ha : ∀ a ∈ la, a < 10) (hp2 : ∀ k ∈ [4079, 4080], ¬ k ∈ lp') (ha2 : ¬ 79 ∈ la') : DsC c dls scnt dcnt s' t' := by
  obtain ⟨h1, h2, h3, h4, h5, h6, h7, h8⟩ := h
  have hcb := isK_le hc
  refine ⟨h1.frI f (fun z => ?_) (fun z => ?_) (fun z => ?_) (fun z => ?_), h2, h3, h4, h5, (g.2.S (hp2 _ (by decide))).trans h6, (g.2.S (hp2 _ (by decide))).trans h7, fun k hk => ?_⟩
  · have := hp _ z; omega
  · have := hp _ z; omega
  · have := ha _ z; omega
  · have := ha _ z; omega
  · rw [g.2.B ha2]; exact h8 k hk
set_option maxHeartbeats 2000000 in
theorem L_copy {n q len m ck tot win pos dn c scnt dcnt k at' : Nat} {T wh R dls : Nat → Nat} {s t : Mm} {x y z : Int32} (ex : x = N (257 + k)) (ey : y = N at') (ez : z = N (plc m wh ck at')) (hn : 70000 < n) (hc : isK c) (hC : SC q T len m wh ck tot win pos dn R s) (hM : SM T m wh ck tot win pos dn R t) (hD : DsC c dls scnt dcnt s t) (hk : k < 31) (hat : at' < 1000000) : Ok (F_Unpacker_takeCopy n 12 x y c s) (fun a => Ok (F_Md_copy n 63 x z t) (fun b => RR q T len m wh ck tot win pos a b)) := by
  subst ex ey ez
  have hpm := hC.pm
  have hT := hC.1.1.2.1.2.2.1
  have hS := hC.2.2.2.2.2.2.2.2.2
  unfold F_Unpacker_takeCopy F_Md_copy
  refine s_let (fun x1 hx1 => ?_)
  rw [show (257 : Int32) = N 257 from rfl, N_sub (by omega), show 257 + k - 257 = k by omega] at hx1
  subst hx1
  rw [kd_105, kd_106, kd_107, kd_108, N_ofNat, N_ofNat, show (285 : Int32) = N 285 from rfl]
  by_cases hk29 : k < 29
  · refine s_pos (by rw [N_lt (by omega) (by omega)]; exact hk29) ?_
    refine s_R hC.1.1.1.1.1.Unp_packed ?_
    refine s_in rfl (by omega) (by omega) ?_
    rw [N_nat (by omega), (hS.ln hk29).2]
    have hb := lnT_b k hk29
    refine Ok.sw ?_
    refine s_pos (by rw [N_le (by omega) (by omega)]; omega) ?_
    refine s_c (Md_moreBits_eq rfl hk29) ?_
    by_cases h1 : pos + lnX k ≤ 8 * m
    · refine s_c (M_h1 (k := lnX k) rfl hM.1 (by omega) h1) ?_
      refine s_neg (by decide) ?_
      refine s_c (Md_lengthFrom_eq rfl (by omega) hk29) ?_
      refine s_c (Md_moreBits_eq rfl hk29) ?_
      refine (SM_n1 (k := lnX k) rfl (by omega) hM hT (by omega) h1).c2 ?_
      rintro r t1 ⟨e1, g1, gf1⟩
      dsimp only at e1 g1 gf1 ⊢
      subst e1
      have hnb := nb'_lt (T := T) (wh := wh) (p := pos) (lnX k)
      have hnb2 : (2 : Nat) ^ lnX k ≤ 2 ^ 5 := Nat.pow_le_pow_right (by decide) hb.2
      refine s_let (fun x9 hx9 => ?_)
      rw [N_add] at hx9
      subst hx9
      refine s_c (M_plc (i := pos + lnX k) g1.1.2.1 g1.1.1 (by omega)) ?_
      refine Ok.sw ?_
      refine (SC_n1 (k := lnX k) rfl (by omega) hC (by omega) h1).c2 ?_
      rintro r s1 ⟨e1, h2, f1⟩
      dsimp only at e1 h2 f1 ⊢
      subst e1
      refine s_neg (nb_m1 (by omega)) ?_
      refine s_in rfl (by omega) (by omega) ?_
      refine s_let (fun x9 hx9 => ?_)
      rw [(h2.2.2.2.2.2.2.2.2.2.ln hk29).1, N_add] at hx9
      subst hx9
      obtain ⟨Lc, hLc⟩ : ∃ Lc, Lc = lnT k + nb' T wh pos (lnX k) := ⟨_, rfl⟩
      rw [← hLc]
      have hLb : Lc ≤ 290 := by omega
      refine s_R h2.1.1.1.1.1.Unp_packed ?_
      refine s_let (fun x9 hx9 => ?_)
      rw [h2.1.2.1] at hx9
      subst hx9
      refine s_R h2.1.1.1.1.1.Unp_packed ?_
      have hD1 := hD.fr hc f1 gf1 (by decide) (by decide) (by decide) (by decide)
      clear hC hM hD f1 gf1 hS hLc hnb hnb2
      have hp1 : pos ≤ pos + lnX k := by omega
      generalize pos + lnX k = p1 at h1 h2 g1 hp1
      refine Ok.c22 (L_code (ls := dls) hD1.2.2.2.2.2.1 hD1.2.2.2.2.2.2.1 (by omega) hc h2.1 hD1.1 (by have := hD1.2.2.1; omega) g1.1 hD1.2.2.2.1 hD1.2.1 hD1.2.2.2.2.2.2.2 hD1.2.2.2.2.1) ?_
      rintro ⟨a, s2⟩ ⟨b, t2⟩ ⟨hor, f2, gf2⟩
      dsimp only at hor f2 gf2 ⊢
      rcases hor with ⟨i, v, hi, hv, rfl, rfl, gfd, hU2, hV2⟩ | ⟨rfl, rfl, cd, pl, q1, q2⟩
      · have hd32 := hD1.2.2.1
        have h3 := h2.fr f2 hU2 (by decide) (by decide) (by decide)
        have g3 := g1.fr gf2 hV2 (by decide) (by decide)
        clear h2 g1 hD1 f2 gf2 hU2 hV2
        refine s_neg (N_m1' (by omega)) ?_
        refine Ok.sw ?_
        refine s_neg (by decide) ?_
        refine s_let (fun x9 hx9 => ?_)
        rw [gfd] at hx9
        subst hx9
        have hpm3 := h3.pm
        rw [show (29 : Int32) = N 29 from rfl]
        by_cases hv30 : v < 30
        · have hds := dsT_b v hv30
          refine s_pos (by rw [N_le (by omega) (by omega)]; omega) ?_
          refine s_c (Md_moreDistance_eq rfl hv30) ?_
          by_cases h4 : p1 + i + dsX v ≤ 8 * m
          · refine s_c (M_h1 (k := dsX v) rfl g3.1 (by omega) h4) ?_
            refine s_neg (by decide) ?_
            refine s_c (Md_distanceFrom_eq rfl (by omega) hv30) ?_
            refine s_c (Md_moreDistance_eq rfl hv30) ?_
            refine (SM_n1 (k := dsX v) rfl (by omega) g3 hT (by omega) h4).c2 ?_
            rintro r t4 ⟨e4, g4, -⟩
            dsimp only at e4 g4 ⊢
            subst e4
            have hnb := nb'_lt (T := T) (wh := wh) (p := p1 + i) (dsX v)
            have hnb2 : (2 : Nat) ^ dsX v ≤ 2 ^ 13 := Nat.pow_le_pow_right (by decide) hds.2
            refine s_let (fun x9 hx9 => ?_)
            rw [N_add] at hx9
            subst hx9
            refine Ok.sw ?_
            refine s_pos (by rw [N_lt (by omega) (by omega)]; exact hv30) ?_
            refine s_R h3.1.1.1.1.1.Unp_packed ?_
            refine s_in rfl (by omega) (by omega) ?_
            rw [N_nat (by omega), (h3.2.2.2.2.2.2.2.2.2.ds hv30).2]
            refine (SC_n1 (k := dsX v) rfl (by omega) h3 (by omega) h4).c2 ?_
            rintro r s4 ⟨e4, h5, -⟩
            dsimp only at e4 h5 ⊢
            subst e4
            refine s_neg (nb_m1 (by omega)) ?_
            refine s_in rfl (by omega) (by omega) ?_
            refine s_let (fun x9 hx9 => ?_)
            rw [(h5.2.2.2.2.2.2.2.2.2.ds hv30).1, N_add] at hx9
            subst hx9
            have hdp : 1 ≤ dsT v := by
              have := dsT_m 0 (by decide) v hv30 (Nat.zero_le _)
              exact this
            obtain ⟨D, hDD⟩ : ∃ D, D = dsT v + nb' T wh (p1 + i) (dsX v) := ⟨_, rfl⟩
            rw [← hDD]
            have hDb : 1 ≤ D ∧ D ≤ 40000 := by omega
            clear hDD hnb hnb2 h3 g3
            have hpge : pos ≤ p1 + i + dsX v := by omega
            generalize p1 + i + dsX v = p2 at h5 g4 hpge
            have hpm5 := h5.pm
            obtain ⟨a1, a2, a3, a4, a5, a6, a7, -⟩ := id h5
            refine s_ji ?_
            refine Ok.sw ?_
            refine s_ji ?_
            rw [a2, a3, a4, g4.2.1, g4.2.2.1, g4.2.2.2.1]
            by_cases c1 : dn < D
            · refine s_pos (by rw [N_lt (by omega) (by omega)]; exact c1) ?_
              refine (M_flaw (c := 25) rfl rfl).c2 ?_
              rintro r t5 ⟨e5, g5⟩
              dsimp only at e5 g5 ⊢
              subst e5
              refine s_z (Or.inl rfl) (Ok.some ?_)
              refine s_pos (by rw [N_lt (by omega) (by omega)]; exact c1) ?_
              refine s_R h5.1.1.1.1.1.Unp_fault ?_
              refine s_R h5.1.1.1.1.1.Unp_packed ?_
              refine s_c (C_plc (i := p1) rfl h5.1.1 (by omega)) ?_
              refine (C_ref (c := 25) rfl rfl).c2 ?_
              rintro r s5 ⟨e5, h6⟩
              dsimp only at e5 h6 ⊢
              subst e5
              exact s_z (Or.inl rfl) (Ok.some (RR.no rfl rfl h6 g5))
            refine s_neg (by rw [N_lt (by omega) (by omega)]; exact c1) ?_
            by_cases c2 : D ≤ win
            · refine s_pos (by rw [N_le (by omega) (by omega)]; exact c2) ?_
              rw [N_add]
              by_cases c3 : dn + Lc ≤ tot
              · refine s_pos (by rw [N_le (by omega) (by omega)]; exact c3) ?_
                refine Ok.sw ?_
                refine s_neg (by rw [N_lt (by omega) (by omega)]; exact c1) ?_
                refine s_pos (by rw [N_le (by omega) (by omega)]; exact c2) ?_
                refine s_pos (by rw [N_sub (by omega), N_le (by omega) (by omega)]; omega) ?_
                refine ok_for2 0 Lc (fun j x s' y t' => x = N Lc - N j ∧ y = N j ∧ ∃ R, SC q T len m wh ck tot win p2 (dn + j) R s' ∧ SM T m wh ck tot win p2 (dn + j) R t') ?_ (by omega) (by omega) (by omega) ⟨by rw [N_sub (by omega)]; rfl, rfl, _, h5, g4⟩
                clear h5 g4 a1 a2 a3 a4 a6 a7
                rintro j k1 k2 x s' y t' - hj ⟨rfl, rfl, R, h6, g6⟩ ih
                obtain ⟨a1, a2, a3, a4, a5, a6, a7, -⟩ := id h6
                by_cases hje : Lc = j
                · subst hje
                  refine s_pos (by rw [N_sub (by omega), Nat.sub_self]; decide) (s_z (Or.inr rfl) (Ok.some ?_))
                  refine s_pos (Int32.le_refl _) (s_z (Or.inr rfl) (Ok.some ?_))
                  exact RR.yes hpge h6 g6
                · refine s_neg (by rw [N_sub (by omega), show (0 : Int32) = N 0 from rfl, N_le (by omega) (by omega)]; omega) ?_
                  refine s_R h6.1.1.1.1.1.Unp_raw ?_
                  refine s_R h6.1.1.1.1.1.Unp_raw ?_
                  refine s_let (fun x9 hx9 => ?_)
                  rw [a3, N_sub (by omega)] at hx9
                  subst hx9
                  refine s_in rfl (show dn + j - D < 32888 by omega) (by omega) ?_
                  refine s_in a3 (show dn + j < 32888 by omega) (by omega) ?_
                  refine s_let (fun s7 e7 => ?_)
                  rw [a3, N_nat (by omega), N_nat (by omega), a7 _ (by omega)] at e7
                  refine s_let (fun s8 e8 => ?_)
                  have e9 : gS s7 779 = N (dn + j) := by rw [e7]; exact a3
                  rw [e9, show (1 : Int32) = N 1 from rfl, N_add, e7] at e8
                  refine s_let (fun x9 hx9 => ?_)
                  rw [sub_m1] at hx9
                  subst hx9
                  have h8 : SC q T len m wh ck tot win p2 (dn + (j + 1)) (updN R (dn + j) (R (dn + j - D))) s8 := by rw [e8]; exact h6.put (a6 _) (by omega)
                  clear e7 e8 e9
                  refine Ok.sw ?_
                  refine s_neg (by rw [N_le (by omega) (by omega)]; omega) ?_
                  refine s_R g6.1.1.1.2.raw ?_
                  refine s_R g6.1.1.1.2.raw ?_
                  refine s_let (fun x9 hx9 => ?_)
                  rw [g6.2.2.1, N_sub (by omega)] at hx9
                  subst hx9
                  refine s_in rfl (show dn + j - D < 40000 by omega) (by omega) ?_
                  refine s_in g6.2.2.1 (show dn + j < 40000 by omega) (by omega) ?_
                  refine s_let (fun t7 e7 => ?_)
                  rw [g6.2.2.1, N_nat (by omega), N_nat (by omega)] at e7
                  refine s_let (fun t8 e8 => ?_)
                  have e9 : gS t7 4063 = N (dn + j) := by rw [e7]; exact g6.2.2.1
                  rw [e9, show (1 : Int32) = N 1 from rfl, N_add, e7] at e8
                  refine s_let (fun x9 hx9 => ?_)
                  rw [N_one, N_add] at hx9
                  subst hx9
                  refine Ok.sw ?_
                  refine ih (by omega) _ _ _ _ ⟨rfl, rfl, _, h8, ?_⟩
                  rw [e8]
                  refine g6.put ?_
                  show (gB t' 73 (dn + j - D)).toInt8.toInt32 &&& N 255 = _
                  rw [i8_and]
                  have := g6.2.2.2.2 (dn + j - D) (by omega)
                  rw [lob_eq this (a6 _)]
              · refine s_neg (by rw [N_le (by omega) (by omega)]; exact c3) ?_
                refine (M_flaw (c := 26) rfl rfl).c2 ?_
                rintro r t5 ⟨e5, g5⟩
                dsimp only at e5 g5 ⊢
                subst e5
                refine s_z (Or.inl rfl) (Ok.some ?_)
                refine s_neg (by rw [N_lt (by omega) (by omega)]; exact c1) ?_
                refine s_pos (by rw [N_le (by omega) (by omega)]; exact c2) ?_
                refine s_neg (by rw [N_sub (by omega), N_le (by omega) (by omega)]; omega) ?_
                refine s_R h5.1.1.1.1.1.Unp_fault ?_
                refine s_R h5.1.1.1.1.1.Unp_packed ?_
                refine s_c (C_plc (i := at') rfl h5.1.1 hat) ?_
                refine (C_ref (c := 26) rfl rfl).c2 ?_
                rintro r s5 ⟨e5, h6⟩
                dsimp only at e5 h6 ⊢
                subst e5
                exact s_z (Or.inl rfl) (Ok.some (RR.no rfl rfl h6 g5))
            · refine s_neg (by rw [N_le (by omega) (by omega)]; exact c2) ?_
              refine (M_flaw (c := 25) rfl rfl).c2 ?_
              rintro r t5 ⟨e5, g5⟩
              dsimp only at e5 g5 ⊢
              subst e5
              refine s_z (Or.inl rfl) (Ok.some ?_)
              refine s_neg (by rw [N_lt (by omega) (by omega)]; exact c1) ?_
              refine s_neg (by rw [N_le (by omega) (by omega)]; exact c2) ?_
              refine s_R h5.1.1.1.1.1.Unp_fault ?_
              refine s_R h5.1.1.1.1.1.Unp_packed ?_
              refine s_c (C_plc (i := p1) rfl h5.1.1 (by omega)) ?_
              refine (C_ref (c := 25) rfl rfl).c2 ?_
              rintro r s5 ⟨e5, h6⟩
              dsimp only at e5 h6 ⊢
              subst e5
              exact s_z (Or.inl rfl) (Ok.some (RR.no rfl rfl h6 g5))
          · refine (M_h0 (k := dsX v) rfl g3.1 (by omega) h4).c2 ?_
            rintro r t4 ⟨e4, g4⟩
            dsimp only at e4 g4 ⊢
            subst e4
            refine s_pos rfl (s_z (Or.inl rfl) (Ok.some ?_))
            refine s_pos (by rw [N_lt (by omega) (by omega)]; exact hv30) ?_
            refine s_R h3.1.1.1.1.1.Unp_packed ?_
            refine s_in rfl (by omega) (by omega) ?_
            rw [N_nat (by omega), (h3.2.2.2.2.2.2.2.2.2.ds hv30).2]
            refine (C_n0 (k := dsX v) rfl (by omega) h3.1 (by omega) h4).c2 ?_
            rintro r s4 ⟨e4, h5⟩
            dsimp only at e4 h5 ⊢
            subst e4
            exact s_pos rfl (s_z (Or.inl rfl) (Ok.some (RR.no rfl rfl h5 g4)))
        · refine s_neg (by rw [N_le (by omega) (by omega)]; omega) ?_
          refine (M_flaw (c := 25) rfl rfl).c2 ?_
          rintro r t5 ⟨e5, g5⟩
          dsimp only at e5 g5 ⊢
          subst e5
          refine s_z (Or.inl rfl) (Ok.some ?_)
          refine s_neg (by rw [N_lt (by omega) (by omega)]; exact hv30) ?_
          refine s_R h3.1.1.1.1.1.Unp_fault ?_
          refine s_R h3.1.1.1.1.1.Unp_packed ?_
          refine s_c (C_plc (i := p1) rfl h3.1.1 (by omega)) ?_
          refine (C_ref (c := 25) rfl rfl).c2 ?_
          rintro r s5 ⟨e5, h6⟩
          dsimp only at e5 h6 ⊢
          subst e5
          exact s_z (Or.inl rfl) (Ok.some (RR.no rfl rfl h6 g5))
      · refine s_pos rfl (s_z (Or.inl rfl) (Ok.some ?_))
        exact s_pos rfl (s_z (Or.inl rfl) (Ok.some (RR.no rfl rfl q1 q2)))
    · refine (M_h0 (k := lnX k) rfl hM.1 (by omega) h1).c2 ?_
      rintro r t1 ⟨e1, g1⟩
      dsimp only at e1 g1 ⊢
      subst e1
      refine s_pos rfl (s_z (Or.inl rfl) (Ok.some ?_))
      refine (C_n0 (k := lnX k) rfl (by omega) hC.1 (by omega) h1).c2 ?_
      rintro r s1 ⟨e1, h2⟩
      dsimp only at e1 h2 ⊢
      subst e1
      exact s_pos rfl (s_z (Or.inl rfl) (Ok.some (RR.no rfl rfl h2 g1)))
  · refine s_neg (by rw [N_lt (by omega) (by omega)]; exact hk29) ?_
    refine s_R hC.1.1.1.1.1.Unp_fault ?_
    refine s_R hC.1.1.1.1.1.Unp_packed ?_
    refine s_c (C_plc (i := at') rfl hC.1.1 hat) ?_
    refine (C_ref (c := 25) rfl rfl).c2 ?_
    rintro r s1 ⟨e1, h1⟩
    dsimp only at e1 h1 ⊢
    subst e1
    refine s_z (Or.inl rfl) (Ok.some ?_)
    refine s_neg (by rw [N_le (by omega) (by omega)]; omega) ?_
    refine (M_flaw (c := 25) rfl rfl).c2 ?_
    rintro r t1 ⟨e1, g1⟩
    dsimp only at e1 g1 ⊢
    subst e1
    exact s_z (Or.inl rfl) (Ok.some (RR.no rfl rfl h1 g1))
