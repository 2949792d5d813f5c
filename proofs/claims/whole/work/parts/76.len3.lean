/-! THE CODES OF A BLOCK OF KIND 2, BOTH SIDES -/


theorem SM.wS {m ck tot win pos dn k : Nat} {T wh R : Nat → Nat} {v : Int32} {t : Mm} (h : SM T m wh ck tot win pos dn R t) (hk : k = 4079 ∨ k = 4080) : SM T m wh ck tot win pos dn R (pS t k v) := by
  have f : FM [4079, 4080] [] t (pS t k v) := (FM.rfl h.1.1.1).wS (by rcases hk with rfl | rfl <;> decide) _
  exact h.fr f (h.1.fr f (by decide) (by decide)) (by decide) (by decide)
set_option maxHeartbeats 2000000 in
theorem L_lens {n q len m ck tot win pos dn : Nat} {T wh R : Nat → Nat} {s t : Mm} (hn : 600000 < n) (hC : SC q T len m wh ck tot win pos dn R s) (hM : SM T m wh ck tot win pos dn R t) : Ok (F_Unpacker_takeCodes n 12 s) (fun a => Ok (F_Md_readLengths n 63 t) (fun b => RL q T len m wh ck tot win dn R pos a b)) := by
  have hT := hC.1.1.2.1.2.2.1
  have hpm := hC.pm
  unfold F_Unpacker_takeCodes F_Md_readLengths
  refine s_R hC.1.1.1.1.1.Unp_packed ?_
  refine s_let (fun x9 hx9 => ?_)
  rw [hC.1.2.1] at hx9
  subst hx9
  refine s_R hC.1.1.1.1.1.Unp_packed ?_
  by_cases h5 : pos + 5 ≤ 8 * m
  · refine (SC_n1 (k := 5) rfl (by omega) hC (by decide) h5).c2 ?_
    rintro r s1 ⟨e1, h1, -⟩
    dsimp only at e1 h1 ⊢
    subst e1
    refine s_neg (nb_m1 (by decide)) ?_
    refine s_let (fun x9 hx9 => ?_)
    rw [N_i257, N_add] at hx9
    subst hx9
    refine Ok.sw ?_
    refine s_c (M_h1 (k := 5) rfl hM.1 (by decide) h5) ?_
    refine s_neg (by decide) ?_
    refine s_let (fun x9 hx9 => ?_)
    rw [hM.1.2.1] at hx9
    subst hx9
    refine (SM_n1 (k := 5) rfl (by omega) hM hT (by decide) h5).c2 ?_
    rintro r t1 ⟨e1, g1, -⟩
    dsimp only at e1 g1 ⊢
    subst e1
    have ha := nb'_lt (T := T) (wh := wh) (p := pos) 5
    refine s_let (fun t2 e2 => ?_)
    rw [show (257 : Int32) = N 257 from rfl, N_add, Nat.add_comm 257] at e2
    obtain ⟨sc, hsc⟩ : ∃ sc, sc = nb' T wh pos 5 + 257 := ⟨_, rfl⟩
    rw [← hsc] at e2 ⊢
    have g2 : SM T m wh ck tot win (pos + 5) dn R t2 := by rw [e2]; exact g1.wS (Or.inl rfl)
    have gsc : gS t2 4079 = N sc := by rw [e2]; exact gS_eq rfl
    clear e2 g1
    rw [show gS t2 (64 * 63 + 47) = N sc from gsc, show (286 : Int32) = N 286 from rfl]
    by_cases hs : sc ≤ 286
    · refine s_pos (by rw [N_le (by omega) (by omega)]; exact hs) ?_
      refine Ok.sw ?_
      refine s_pos (by rw [N_le (by omega) (by omega)]; exact hs) ?_
      refine s_R h1.1.1.1.1.1.Unp_packed ?_
      refine s_let (fun x9 hx9 => ?_)
      rw [h1.1.2.1] at hx9
      subst hx9
      refine s_R h1.1.1.1.1.1.Unp_packed ?_
      by_cases h10 : pos + 5 + 5 ≤ 8 * m
      · refine (SC_n1 (k := 5) rfl (by omega) h1 (by decide) h10).c2 ?_
        rintro r s2 ⟨e2, h2, -⟩
        dsimp only at e2 h2 ⊢
        subst e2
        refine s_neg (nb_m1 (by decide)) ?_
        refine s_let (fun x9 hx9 => ?_)
        rw [N_one, N_add] at hx9
        subst hx9
        refine Ok.sw ?_
        refine s_c (M_h1 (k := 5) rfl g2.1 (by decide) h10) ?_
        refine s_neg (by decide) ?_
        refine s_let (fun x9 hx9 => ?_)
        rw [g2.1.2.1] at hx9
        subst hx9
        refine (SM_n1 (k := 5) rfl (by omega) g2 hT (by decide) h10).c2 ?_
        rintro r t3 ⟨e3, g3, gf3⟩
        dsimp only at e3 g3 gf3 ⊢
        subst e3
        have hb := nb'_lt (T := T) (wh := wh) (p := pos + 5) 5
        refine s_let (fun t4 e4 => ?_)
        rw [show (1 : Int32) = N 1 from rfl, N_add, Nat.add_comm 1] at e4
        obtain ⟨dc, hdc⟩ : ∃ dc, dc = nb' T wh (pos + 5) 5 + 1 := ⟨_, rfl⟩
        rw [← hdc] at e4 ⊢
        have g4 : SM T m wh ck tot win (pos + 5 + 5) dn R t4 := by rw [e4]; exact g3.wS (Or.inr rfl)
        have gdc : gS t4 4080 = N dc := by rw [e4]; exact gS_eq rfl
        have gsc4 : gS t4 4079 = N sc := by rw [e4, gS_ne (by decide)]; exact (gf3.2.S (by decide)).trans gsc
        clear e4 g3 gf3 gsc g2 h1
        have hp10 : pos ≤ pos + 5 + 5 := by omega
        have p5 : pos + 5 ≤ 600000 := by omega
        generalize hp2 : pos + 5 + 5 = p2 at h2 g4 hp10
        rw [show gS t4 (64 * 63 + 48) = N dc from gdc, show (30 : Int32) = N 30 from rfl]
        by_cases hd : dc ≤ 30
        · refine s_pos (by rw [N_le (by omega) (by omega)]; exact hd) ?_
          refine Ok.sw ?_
          refine s_pos (by rw [N_le (by omega) (by omega)]; exact hd) ?_
          have hp2m := h2.pm
          unfold F_Unpacker_takeLengthCodes
          refine Ok.c2' ?_
          refine Ok.inn ?_
          have BAD : ∀ {s' t' : Mm} {cd pl : Nat}, FC cd pl s' → FV cd pl t' → RL q T len m wh ck tot win dn R pos (0, s') (0, t') := fun h1 h2 => RL.no rfl rfl h1 h2
          refine s_R h2.1.1.1.1.1.Unp_packed ?_
          by_cases h14 : p2 + 4 ≤ 8 * m
          · refine (SC_n1 (k := 4) rfl (by omega) h2 (by decide) h14).c2 ?_
            rintro r s3 ⟨e3, h3, -⟩
            dsimp only at e3 h3 ⊢
            subst e3
            refine s_neg (nb_m1 (by decide)) ?_
            refine s_R h3.1.1.1.1.1.Unp_packed ?_
            refine s_let (fun x9 hx9 => ?_)
            rw [h3.1.2.1] at hx9
            subst hx9
            refine s_R h3.1.1.1.1.1.Unp_lengths ?_
            refine ((Arr_fill_ok (a := 33) (v := 0) kd_33 (by omega) (by omega)).and (fr_Arr_fill_33 h3.1.1.1)).bind ?_
            rintro s4 ⟨⟨z4, -⟩, f4⟩
            have h4 := h3.fr f4 (h3.1.fr f4 (by decide) (by decide)) (by decide) (by decide) (by decide)
            refine Ok.sw ?_
            refine s_c (M_h1 (k := 4) rfl g4.1 (by decide) h14) ?_
            refine s_neg (by decide) ?_
            refine (SM_n1 (k := 4) rfl (by omega) g4 hT (by decide) h14).c2 ?_
            rintro r t5 ⟨e5, g5, gf5⟩
            dsimp only at e5 g5 gf5 ⊢
            subst e5
            have hc4 := nb'_lt (T := T) (wh := wh) (p := p2) 4
            refine s_let (fun x9 hx9 => ?_)
            rw [show (4 : Int32) = N 4 from rfl, N_add] at hx9
            subst hx9
            refine s_let (fun x9 hx9 => ?_)
            rw [g5.1.2.1] at hx9
            subst hx9
            have gsc5 : gS t5 4079 = N sc := (gf5.2.S (by decide)).trans gsc4
            have gdc5 : gS t5 4080 = N dc := (gf5.2.S (by decide)).trans gdc
            rw [show (4 : Int32) = N 4 from rfl, N_add, show N (4 + nb' T wh p2 4) = N (nb' T wh p2 4 + 4) by rw [Nat.add_comm]]
            obtain ⟨cc, hcc⟩ : ∃ cc, cc = nb' T wh p2 4 + 4 := ⟨_, rfl⟩
            rw [← hcc]
            have hccb : cc ≤ 19 := by omega
            clear hcc hc4 h2 g4 h3 gf5 gsc4 gdc f4
            generalize hp3 : p2 + 4 = p3 at h4 g5 h14
            refine ok_for 0 19 (fun i x t' => x = N i ∧ (∀ k, k < i → gB t' 79 k = N 0) ∧ FM [] [79] t5 t') ?_ (by omega) (by omega) ⟨rfl, fun k hk => by omega, FM.rfl g5.1.1.1⟩
            rintro i k9 x t6 - hi ⟨rfl, z6, f6⟩ ihz
            by_cases hi19 : i = 19
            · subst hi19
              refine s_pos (show N 19 ≤ N 19 from Int32.le_refl _) ?_
              have g6 := g5.fr f6 (g5.1.fr f6 (by decide) (by decide)) (by decide) (by decide)
              have gsc6 : gS t6 4079 = N sc := (f6.2.S (by decide)).trans gsc5
              have gdc6 : gS t6 4080 = N dc := (f6.2.S (by decide)).trans gdc5
              clear ihz g5 f6 gsc5 gdc5
              refine Ok.sw ?_
              refine ok_for2 0 cc (fun j x s' y t' => x = N j ∧ y = N j ∧ SC q T len m wh ck tot win (p3 + 3 * j) dn R s' ∧ SM T m wh ck tot win (p3 + 3 * j) dn R t' ∧ gS t' 4079 = N sc ∧ gS t' 4080 = N dc ∧ ∃ lcl : Nat → Nat, ∀ k, k < 19 → lcl k ≤ 15 ∧ gB s' 33 k = N (lcl k) ∧ gB t' 79 k = N (lcl k)) ?_ (by omega) (by omega) (by omega) ⟨rfl, rfl, h4, g6, gsc6, gdc6, fun _ => 0, fun k hk => ⟨Nat.zero_le _, z4 k (by omega), z6 k hk⟩⟩
              clear h4 g6 gsc6 gdc6 z4 z6
              rintro j k1 k2 x s5 y t7 - hj ⟨rfl, rfl, h5', g7, gsc7, gdc7, lcl, hl⟩ ih
              have hp5 := h5'.pm
              by_cases hje : cc = j
              · subst hje
                refine s_pos (Int32.le_refl _) ?_
                have q5 := h5'.1.1.1.1.1
                refine s_R q5.Unp_lengthCodes ?_
                refine s_R q5.Unp_lengths ?_
                rw [kd_109]
                refine ((Codes_assign_ok (ls := lcl) (from' := 0) (m := 19) rfl rfl (by omega) (q5.cod_ofLength isK21) (q5.cod_meanings isK21) (q5.cod_nextOfLength isK21) isK21 (by omega) (by omega) (fun k hk => (hl k hk).1) (fun k hk => by rw [Nat.zero_add]; exact (hl k hk).2.1)).and (fr_Codes_assign_21_33 h5'.1.1.1)).bind ?_
                rintro s6 ⟨⟨hc21, -⟩, f6⟩
                have h6 := h5'.fr f6 (h5'.1.fr f6 (by decide) (by decide)) (by decide) (by decide) (by decide)
                refine s_R h6.1.1.1.1.1.Unp_lengthCodes ?_
                refine s_c (isFull_ok (by omega) isK21 h6.1.1.1.1.1 hc21 (by omega)) ?_
                refine s_ji ?_
                refine s_ji ?_
                have GL := Gk_15 (ls := lcl) (cnt := 19) (by omega)
                have lefL := left_ok (n := n) (ls := lcl) (base := 0) (cnt := 19) rfl rfl (by omega) g7.1.1.1.2 (by omega) (fun k hk => (hl k hk).1) (fun k hk => by rw [Nat.zero_add]; exact (hl k hk).2.2)
                by_cases hF : Gk lcl 19 15 = 32768
                · rw [if_pos hF]
                  refine s_neg (by decide) (s_z (Or.inr rfl) (Ok.some ?_))
                  refine s_pos (Int32.le_refl _) ?_
                  refine s_c lefL ?_
                  refine s_pos ((lf0 GL).mpr hF) ?_
                  refine Ok.sw ?_
                  dsimp only
                  refine s_ji ?_
                  refine s_neg (by decide) ?_
                  have hS7 : SgC 21 lcl 19 s6 t7 := ⟨hc21, fun k hk => (hl k hk).1, by omega, Or.inl hF, fun k hk => by rw [Nat.zero_add]; exact (hl k hk).2.2⟩
                  refine Ok.c22 ((L_steps (tt := sc + dc) (by rw [N_add]) hn h6 g7 hS7 gsc7 gdc7 rfl (by omega)).and2 (fr_Unpacker_takeLengths_12 h6.1.1.1) (fr_Md_readSteps_63 g7.1.1.1)) ?_
                  rintro ⟨a, s8⟩ ⟨b, t8⟩ ⟨hr, f8, gf8⟩
                  dsimp only at hr f8 gf8 ⊢
                  rcases hr with ⟨rfl, rfl, p8, ls, hp8, h8, g8, hl8⟩ | ⟨rfl, rfl, cd, pl, q1, q2⟩
                  · dsimp only at h8 g8 hl8
                    have gsc8 : gS t8 4079 = N sc := (gf8.2.S (by decide)).trans gsc7
                    have gdc8 : gS t8 4080 = N dc := (gf8.2.S (by decide)).trans gdc7
                    refine s_neg (by decide) ?_
                    refine Ok.sw ?_
                    refine s_neg (by decide) ?_
                    refine Ok.mono (M_T3 (ls := ls) hn g8 gsc8 gdc8 (by omega) hs hd (fun k hk => (hl8 k hk).1) (fun k hk => (hl8 k hk).2.2)) ?_
                    rintro ⟨b, t9⟩ hb9
                    refine Ok.mono (C_T3 (ls := ls) rfl rfl hn h8 (by omega) hs hd (fun k hk => (hl8 k hk).1) (fun k hk => (hl8 k hk).2.1)) ?_
                    rintro ⟨a, s9⟩ ha9
                    rcases hb9 with ⟨G1, b1, b2, b3, b4, b5⟩ | ⟨G1, b1, b2⟩
                    · rcases ha9 with ⟨G2, a1, a2, a3, a4⟩ | ⟨G2, -⟩
                      · refine Or.inl ⟨a1, b1, p8, sc, dc, ls, fun k => ls (sc + k), by omega, a2, b2, ⟨a3, fun k hk => (hl8 k (by omega)).1, by omega, Or.inl G1.1, fun k hk => by rw [Nat.zero_add]; exact b5 k (by omega)⟩, ⟨a4, fun k hk => (hl8 (sc + k) (by omega)).1, by omega, by omega, ?_, b3, b4, fun k hk => b5 (sc + k) (by omega)⟩⟩
                        rcases G1.2.2 with z | z | z
                        · exact Or.inl z
                        · exact CdOk_lo (Or.inr z)
                        · exact CdOk_lo (Or.inl z)
                      · exact (G2 G1).elim
                    · rcases ha9 with ⟨G2, -⟩ | ⟨G2, a1, a2⟩
                      · exact (G1 G2).elim
                      · exact Or.inr ⟨a1, b1, _, _, a2, b2⟩
                  · refine s_pos rfl (s_z (Or.inl rfl) (Ok.some ?_))
                    exact s_pos rfl (s_z (Or.inl rfl) (Ok.some (BAD q1 q2)))
                · rw [if_neg hF]
                  refine s_pos rfl ?_
                  refine s_R h6.1.1.1.1.1.Unp_fault ?_
                  refine s_R h6.1.1.1.1.1.Unp_packed ?_
                  refine s_c (C_plc (i := p3) rfl h6.1.1 (by omega)) ?_
                  refine (C_ref (c := 24) rfl rfl).c2 ?_
                  rintro r s8 ⟨e8, h8⟩
                  dsimp only at e8 h8 ⊢
                  refine s_pos e8 (s_z (Or.inl rfl) (Ok.some ?_))
                  refine s_pos (Int32.le_refl _) ?_
                  refine s_c lefL ?_
                  refine s_neg (fun z => hF ((lf0 GL).mp z)) ?_
                  refine s_c (M_plc (i := p3) rfl g7.1.1 (by omega)) ?_
                  refine (M_flaw (c := 24) rfl rfl).c2 ?_
                  rintro r t8 ⟨e8, g8⟩
                  dsimp only at e8 g8 ⊢
                  subst e8
                  refine s_z (Or.inl rfl) (Ok.some ?_)
                  refine s_ji ?_
                  exact s_pos rfl (s_z (Or.inl rfl) (Ok.some (BAD h8 g8)))
              · have ho := ordT_b j (by omega)
                refine s_neg (by rw [N_le (by omega) (by omega)]; omega) ?_
                refine s_R h5'.1.1.1.1.1.Unp_packed ?_
                by_cases hb3 : p3 + 3 * j + 3 ≤ 8 * m
                · refine (SC_n1 (k := 3) rfl (by omega) h5' (by decide) hb3).c2 ?_
                  rintro r s6 ⟨e6, h6, f6⟩
                  dsimp only at e6 h6 f6 ⊢
                  subst e6
                  refine s_neg (nb_m1 (by decide)) ?_
                  refine s_R h6.1.1.1.1.1.Unp_lengths ?_
                  rw [kd_109]
                  refine s_in rfl (show j < 19 by omega) (by omega) ?_
                  rw [N_nat (by omega), h6.2.2.2.2.2.2.2.2.2 109 (by decide), ordT_sc j (by omega)]
                  refine s_in rfl (by rw [kd_33]; omega) (by omega) ?_
                  rw [N_nat (by omega)]
                  have hv := nb'_lt (T := T) (wh := wh) (p := p3 + 3 * j) 3
                  refine s_let (fun s7 e7 => ?_)
                  have f7 : FI [] [33] q s6 s7 := by rw [e7]; exact (FI.rfl h6.1.1.1).wB (by decide) _ _
                  have h7 := h6.fr f7 (h6.1.fr f7 (by decide) (by decide)) (by decide) (by decide) (by decide)
                  refine s_let (fun x9 hx9 => ?_)
                  rw [N_one, N_add] at hx9
                  subst hx9
                  refine Ok.sw ?_
                  refine s_neg (by rw [N_le (by omega) (by omega)]; omega) ?_
                  refine s_c (M_h1 (k := 3) rfl g7.1 (by decide) hb3) ?_
                  refine s_neg (by decide) ?_
                  refine s_R g7.1.1.1.2.lengths ?_
                  refine s_c (orderOf_eq rfl (by omega)) ?_
                  refine (SM_n1 (k := 3) rfl (by omega) g7 hT (by decide) hb3).c2 ?_
                  rintro r t8 ⟨e8, g8, gf8⟩
                  dsimp only at e8 g8 gf8 ⊢
                  subst e8
                  refine s_in rfl (by rw [kd_79]; omega) (by omega) ?_
                  rw [N_nat (by omega)]
                  refine s_let (fun t9 e9 => ?_)
                  have f9 : FM [] [79] t8 t9 := by rw [e9]; exact (FM.rfl g8.1.1.1).wB (by decide) _ _
                  have g9 := g8.fr f9 (g8.1.fr f9 (by decide) (by decide)) (by decide) (by decide)
                  refine s_let (fun x9 hx9 => ?_)
                  rw [N_one, N_add] at hx9
                  subst hx9
                  refine Ok.sw ?_
                  refine ih (by omega) _ _ _ _ ⟨rfl, rfl, h7, g9, (f9.2.S (by decide)).trans ((gf8.2.S (by decide)).trans gsc7), (f9.2.S (by decide)).trans ((gf8.2.S (by decide)).trans gdc7), updN lcl (ordT j) (nb' T wh (p3 + 3 * j) 3), fun k hk => ⟨?_, ?_, ?_⟩⟩
                  · unfold updN
                    split
                    · omega
                    · exact (hl k hk).1
                  · rw [e7, gB_eq rfl]
                    exact N_upd (fun _ => by rw [f6.2.2.B (by decide)]; exact (hl k hk).2.1)
                  · rw [e9, gB_eq rfl]
                    exact N_upd (fun _ => by rw [gf8.2.B (by decide)]; exact (hl k hk).2.2)
                · refine (C_n0 (k := 3) rfl (by omega) h5'.1 (by decide) hb3).c2 ?_
                  rintro r s6 ⟨e6, h6⟩
                  dsimp only at e6 h6 ⊢
                  subst e6
                  refine s_pos rfl (s_z (Or.inl rfl) (Ok.some ?_))
                  refine s_neg (by rw [N_le (by omega) (by omega)]; omega) ?_
                  refine (M_h0 (k := 3) rfl g7.1 (by decide) hb3).c2 ?_
                  rintro r t8 ⟨e8, g8⟩
                  dsimp only at e8 g8 ⊢
                  subst e8
                  refine s_pos rfl (s_z (Or.inl rfl) (Ok.some ?_))
                  refine s_ji ?_
                  exact s_pos rfl (s_z (Or.inl rfl) (Ok.some (BAD h6 g8)))
            · refine s_neg (by rw [show (19 : Int32) = N 19 from rfl, N_le (by omega) (by omega)]; omega) ?_
              refine s_R f6.1.2.lengths ?_
              refine s_in rfl (by rw [kd_79]; omega) (by omega) ?_
              rw [N_nat (by omega)]
              refine s_let (fun t7 e7 => ?_)
              refine s_let (fun x9 hx9 => ?_)
              rw [N_one, N_add] at hx9
              subst hx9
              refine ihz (by omega) _ _ ⟨rfl, fun k hk => ?_, by rw [e7]; exact f6.wB (by decide) _ _⟩
              rw [e7, gB_eq rfl]
              by_cases hki : k = i
              · rw [upd_eq hki]; rfl
              · rw [upd_ne hki]; exact z6 k (by omega)
          · refine (C_n0 (k := 4) rfl (by omega) h2.1 (by decide) h14).c2 ?_
            rintro r s3 ⟨e3, h3⟩
            dsimp only at e3 h3 ⊢
            subst e3
            refine s_pos rfl (s_z (Or.inl rfl) (Ok.some ?_))
            refine (M_h0 (k := 4) rfl g4.1 (by decide) h14).c2 ?_
            rintro r t8 ⟨e8, g8⟩
            dsimp only at e8 g8 ⊢
            subst e8
            refine s_pos rfl (s_z (Or.inl rfl) (Ok.some ?_))
            refine s_ji ?_
            exact s_pos rfl (s_z (Or.inl rfl) (Ok.some (BAD h3 g8)))
        · refine s_neg (by rw [N_le (by omega) (by omega)]; exact hd) ?_
          refine s_c (M_plc (i := pos + 5) rfl g4.1.1 (by omega)) ?_
          refine (M_flaw (c := 24) rfl rfl).c2 ?_
          rintro r t8 ⟨e8, g8⟩
          dsimp only at e8 g8 ⊢
          subst e8
          refine s_z (Or.inl rfl) (Ok.some ?_)
          refine s_neg (by rw [N_le (by omega) (by omega)]; exact hd) ?_
          refine s_R h2.1.1.1.1.1.Unp_fault ?_
          refine s_R h2.1.1.1.1.1.Unp_packed ?_
          refine s_c (C_plc (i := pos + 5) rfl h2.1.1 (by omega)) ?_
          refine (C_ref (c := 24) rfl rfl).c2 ?_
          rintro r s8 ⟨e8, h8⟩
          dsimp only at e8 h8 ⊢
          subst e8
          exact s_z (Or.inl rfl) (Ok.some (RL.no rfl rfl h8 g8))
      · refine (C_n0 (k := 5) rfl (by omega) h1.1 (by decide) h10).c2 ?_
        rintro r s3 ⟨e3, h3⟩
        dsimp only at e3 h3 ⊢
        subst e3
        refine s_pos rfl (s_z (Or.inl rfl) (Ok.some ?_))
        refine (M_h0 (k := 5) rfl g2.1 (by decide) h10).c2 ?_
        rintro r t8 ⟨e8, g8⟩
        dsimp only at e8 g8 ⊢
        subst e8
        exact s_pos rfl (s_z (Or.inl rfl) (Ok.some (RL.no rfl rfl h3 g8)))
    · refine s_neg (by rw [N_le (by omega) (by omega)]; exact hs) ?_
      refine s_c (M_plc (i := pos) rfl g2.1.1 (by omega)) ?_
      refine (M_flaw (c := 24) rfl rfl).c2 ?_
      rintro r t8 ⟨e8, g8⟩
      dsimp only at e8 g8 ⊢
      subst e8
      refine s_z (Or.inl rfl) (Ok.some ?_)
      refine s_neg (by rw [N_le (by omega) (by omega)]; exact hs) ?_
      refine s_R h1.1.1.1.1.1.Unp_fault ?_
      refine s_R h1.1.1.1.1.1.Unp_packed ?_
      refine s_c (C_plc (i := pos) rfl h1.1.1 (by omega)) ?_
      refine (C_ref (c := 24) rfl rfl).c2 ?_
      rintro r s8 ⟨e8, h8⟩
      dsimp only at e8 h8 ⊢
      subst e8
      exact s_z (Or.inl rfl) (Ok.some (RL.no rfl rfl h8 g8))
  · refine (C_n0 (k := 5) rfl (by omega) hC.1 (by decide) h5).c2 ?_
    rintro r s3 ⟨e3, h3⟩
    dsimp only at e3 h3 ⊢
    subst e3
    refine s_pos rfl (s_z (Or.inl rfl) (Ok.some ?_))
    refine (M_h0 (k := 5) rfl hM.1 (by decide) h5).c2 ?_
    rintro r t8 ⟨e8, g8⟩
    dsimp only at e8 g8 ⊢
    subst e8
    exact s_pos rfl (s_z (Or.inl rfl) (Ok.some (RL.no rfl rfl h3 g8)))
