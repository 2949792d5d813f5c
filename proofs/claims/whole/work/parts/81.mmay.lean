/-! WHERE A PIECE MAY STAND: THE REFERENCE -/
def knT (ty : Nat) : Prop := ty = 1229472850 ∨ ty = 1347179589 ∨ ty = 1951551059 ∨ ty = 1229209940 ∨ ty = 1229278788
set_option maxHeartbeats 2000000 in
theorem M_may {n len at' kd hc ht pc : Nat} {T : Nat → Nat} {x : Int32} {t : Mm} (e : x = N at') (hn : 600000 < n) (hp : PtM t) (hT : TapeM T len t) (hl : len ≤ 65536) (h3 : ∀ i, T i < 256) (hk : at' + 7 < len) (g5 : gS t 4072 = N hc) (g6 : gS t 4073 = N ht) (g7 : gS t 4074 = N pc) (gk : at' ≠ 8 → gS t 4050 = N kd) (hkd : kdOk kd kd ∨ kd ≤ 6) (hk6 : kd = 0 ∨ kd = 2 ∨ kd = 3 ∨ kd = 4 ∨ kd = 6) (hcb : hc < 2) (htb : ht < 2) (hpb : pc < 3) : Ok (F_Md_mayStand n 63 x t) (fun r => (MS at' (num T (at' + 4)) kd hc ht pc ∧ (knT (num T (at' + 4)) ∨ 97 ≤ T (at' + 4)) ∧ r = (1, t)) ∨ (MS at' (num T (at' + 4)) kd hc ht pc ∧ ¬ (knT (num T (at' + 4)) ∨ 97 ≤ T (at' + 4)) ∧ r.1 = 0 ∧ FV 7 (at' + 4) r.2) ∨ (¬ MS at' (num T (at' + 4)) kd hc ht pc ∧ r.1 = 0 ∧ FV 6 (at' + 4) r.2)) := by
  subst e
  have hty := num_lt h3 (at' + 4)
  have b4 := h3 (at' + 4)
  have tI := M_type (n := n) (T := T) (x := N at') (K := 1229472850) rfl (show (73 : Int32) = N 73 from rfl) (show (72 : Int32) = N 72 from rfl) (show (68 : Int32) = N 68 from rfl) (show (82 : Int32) = N 82 from rfl) (by decide) (by decide) (by decide) (by decide) (by decide) hp hT hl h3 hk
  have tP := M_type (n := n) (T := T) (x := N at') (K := 1347179589) rfl (show (80 : Int32) = N 80 from rfl) (show (76 : Int32) = N 76 from rfl) (show (84 : Int32) = N 84 from rfl) (show (69 : Int32) = N 69 from rfl) (by decide) (by decide) (by decide) (by decide) (by decide) hp hT hl h3 hk
  have tT := M_type (n := n) (T := T) (x := N at') (K := 1951551059) rfl (show (116 : Int32) = N 116 from rfl) (show (82 : Int32) = N 82 from rfl) (show (78 : Int32) = N 78 from rfl) (show (83 : Int32) = N 83 from rfl) (by decide) (by decide) (by decide) (by decide) (by decide) hp hT hl h3 hk
  have tD := M_type (n := n) (T := T) (x := N at') (K := 1229209940) rfl (show (73 : Int32) = N 73 from rfl) (show (68 : Int32) = N 68 from rfl) (show (65 : Int32) = N 65 from rfl) (show (84 : Int32) = N 84 from rfl) (by decide) (by decide) (by decide) (by decide) (by decide) hp hT hl h3 hk
  have tE := M_type (n := n) (T := T) (x := N at') (K := 1229278788) rfl (show (73 : Int32) = N 73 from rfl) (show (69 : Int32) = N 69 from rfl) (show (78 : Int32) = N 78 from rfl) (show (68 : Int32) = N 68 from rfl) (by decide) (by decide) (by decide) (by decide) (by decide) hp hT hl h3 hk
  have e4 : N at' + 4 = N (at' + 4) := by rw [show (4 : Int32) = N 4 from rfl, N_add]
  have hat := Md_at_eq (n := n) (k := at' + 4) hp hT hl e4 (by omega)
  generalize hnm : num T (at' + 4) = ty at hty tI tP tT tD tE ⊢
  unfold F_Md_mayStand
  refine s_c tI ?_
  obtain ⟨hI, hIe⟩ : ∃ hI : Nat, (hI = 1 ∧ ty = 1229472850) ∨ (hI = 0 ∧ ¬ ty = 1229472850) := by
    by_cases c : ty = 1229472850
    · exact ⟨1, Or.inl ⟨rfl, c⟩⟩
    · exact ⟨0, Or.inr ⟨rfl, c⟩⟩
  have eI : (if ty = 1229472850 then (1 : Int32) else 0) = N hI := by
    rcases hIe with ⟨h1, h2⟩ | ⟨h1, h2⟩
    · rw [if_pos h2, h1]; rfl
    · rw [if_neg h2, h1]; rfl
  rw [eI]
  clear eI tI
  refine s_j (fun k3 hk3 => ?_)
  obtain ⟨a8, ha8⟩ : ∃ a8 : Nat, (a8 = 1 ∧ at' = 8) ∨ (a8 = 0 ∧ ¬ at' = 8) := by
    by_cases c : at' = 8
    · exact ⟨1, Or.inl ⟨rfl, c⟩⟩
    · exact ⟨0, Or.inr ⟨rfl, c⟩⟩
  have step3 : ∀ (QQ : Int32 × Mm → Prop), Ok (k3 (N hI, N a8) t) QQ → Ok (if N at' = 8 then k3 (N hI, 1) t else k3 (N hI, 0) t) QQ := fun QQ h => by
    by_cases c8 : at' = 8
    · rw [show a8 = 1 by omega] at h
      exact s_pos (by rw [c8]; rfl) h
    · rw [show a8 = 0 by omega] at h
      exact s_neg (N_ne (b := 8) (by omega) (by omega) c8) h
  refine step3 _ ?_
  subst hk3
  dsimp only
  clear step3
  -- may at first
  obtain ⟨ma, hma⟩ : ∃ ma : Nat, (ma = 1 ∧ (at' = 8 ↔ ty = 1229472850)) ∨ (ma = 0 ∧ ¬ (at' = 8 ↔ ty = 1229472850)) := by
    by_cases c : at' = 8 ↔ ty = 1229472850
    · exact ⟨1, Or.inl ⟨rfl, c⟩⟩
    · exact ⟨0, Or.inr ⟨rfl, c⟩⟩
  refine s_j (fun k6 hk6' => ?_)
  have step1 : ∀ (QQ : Int32 × Mm → Prop), Ok (k6 (N ma) t) QQ → Ok (if N hI = N a8 then k6 1 t else k6 0 t) QQ := fun QQ h => by
    by_cases c : hI = a8
    · rw [show ma = 1 by omega] at h
      exact s_pos (by rw [c]) h
    · rw [show ma = 0 by omega] at h
      exact s_neg (N_ne (by omega) (by omega) c) h
  refine step1 _ ?_
  subst hk6'
  clear step1
  dsimp only
  refine s_j (fun k9 hk9 => ?_)
  have NO : ∀ y : Int32, ¬ MS at' ty kd hc ht pc → Ok (k9 (0, y) t) (fun r => (MS at' ty kd hc ht pc ∧ (knT ty ∨ 97 ≤ T (at' + 4)) ∧ r = (1, t)) ∨ (MS at' ty kd hc ht pc ∧ ¬ (knT ty ∨ 97 ≤ T (at' + 4)) ∧ r.1 = 0 ∧ FV 7 (at' + 4) r.2) ∨ (¬ MS at' ty kd hc ht pc ∧ r.1 = 0 ∧ FV 6 (at' + 4) r.2)) := fun y h => by
    rw [hk9]
    refine s_pos rfl ?_
    refine (M_flaw (c := 6) rfl e4).c2 ?_
    rintro r t8 ⟨e8, g8⟩
    dsimp only at e8 g8 ⊢
    subst e8
    exact s_z (Or.inl rfl) (Ok.some (Or.inr (Or.inr ⟨h, rfl, g8⟩)))
  have YES : MS at' ty kd hc ht pc → knT ty → Ok (k9 (1, 1) t) (fun r => (MS at' ty kd hc ht pc ∧ (knT ty ∨ 97 ≤ T (at' + 4)) ∧ r = (1, t)) ∨ (MS at' ty kd hc ht pc ∧ ¬ (knT ty ∨ 97 ≤ T (at' + 4)) ∧ r.1 = 0 ∧ FV 7 (at' + 4) r.2) ∨ (¬ MS at' ty kd hc ht pc ∧ r.1 = 0 ∧ FV 6 (at' + 4) r.2)) := fun h h2 => by
    rw [hk9]
    refine s_neg (show ¬ (1 : Int32) = 0 by decide) ?_
    refine s_ji ?_
    refine s_ji ?_
    refine s_neg (show ¬ (1 : Int32) = 0 by decide) ?_
    exact s_z (Or.inr rfl) (Ok.some (Or.inl ⟨h, Or.inl h2, rfl⟩))
  have UNK : MS at' ty kd hc ht pc → ¬ knT ty → Ok (k9 (1, 0) t) (fun r => (MS at' ty kd hc ht pc ∧ (knT ty ∨ 97 ≤ T (at' + 4)) ∧ r = (1, t)) ∨ (MS at' ty kd hc ht pc ∧ ¬ (knT ty ∨ 97 ≤ T (at' + 4)) ∧ r.1 = 0 ∧ FV 7 (at' + 4) r.2) ∨ (¬ MS at' ty kd hc ht pc ∧ r.1 = 0 ∧ FV 6 (at' + 4) r.2)) := fun h h2 => by
    rw [hk9]
    refine s_neg (show ¬ (1 : Int32) = 0 by decide) ?_
    refine s_ji ?_
    refine s_ji ?_
    refine s_pos rfl ?_
    refine s_c hat ?_
    by_cases c : 97 ≤ T (at' + 4)
    · refine s_pos (by rw [show (97 : Int32) = N 97 from rfl, N_le (by omega) (by omega)]; exact c) ?_
      exact s_z (Or.inr rfl) (Ok.some (Or.inl ⟨h, Or.inr c, rfl⟩))
    · refine s_neg (by rw [show (97 : Int32) = N 97 from rfl, N_le (by omega) (by omega)]; exact c) ?_
      refine (M_flaw (c := 7) rfl e4).c2 ?_
      rintro r t8 ⟨e8, g8⟩
      dsimp only at e8 g8 ⊢
      refine s_pos e8 ?_
      exact s_z (Or.inl rfl) (Ok.some (Or.inr (Or.inl ⟨h, fun z => z.elim h2 c, rfl, g8⟩)))
  clear hk9
  generalize hQ : (fun r : Int32 × Mm => (MS at' ty kd hc ht pc ∧ (knT ty ∨ 97 ≤ T (at' + 4)) ∧ r = (1, t)) ∨ (MS at' ty kd hc ht pc ∧ ¬ (knT ty ∨ 97 ≤ T (at' + 4)) ∧ r.1 = 0 ∧ FV 7 (at' + 4) r.2) ∨ (¬ MS at' ty kd hc ht pc ∧ r.1 = 0 ∧ FV 6 (at' + 4) r.2)) = Q at NO YES UNK ⊢
  clear hQ
  unfold MS at NO
  unfold MS knT at YES UNK
  refine s_ji ?_
  by_cases c0 : ma = 0
  · rw [c0]
    refine s_pos rfl ?_
    refine s_ji ?_
    refine s_pos rfl ?_
    refine s_ji ?_
    refine s_pos rfl ?_
    refine s_pos rfl ?_
    exact NO _ (by omega)
  have c1 : ma = 1 := by omega
  rw [c1]
  refine s_neg (by decide) ?_
  refine s_c tP ?_
  rw [show gS t (64 * 63 + 40) = N hc from g5, show gS t (64 * 63 + 41) = N ht from g6, show gS t (64 * 63 + 42) = N pc from g7]
  by_cases cI : ty = 1229472850
  · -- the header, at its place
    rw [if_neg (show ¬ ty = 1347179589 by omega)]
    refine s_pos rfl ?_
    refine s_ji ?_
    refine s_neg (by decide) ?_
    refine s_c tT ?_
    rw [if_neg (show ¬ ty = 1951551059 by omega)]
    refine s_pos rfl ?_
    refine s_ji ?_
    refine s_neg (by decide) ?_
    refine s_c tD ?_
    rw [if_neg (show ¬ ty = 1229209940 by omega)]
    refine s_pos rfl ?_
    refine s_neg (by decide) ?_
    refine s_c tE ?_
    rw [if_neg (show ¬ ty = 1229278788 by omega)]
    refine s_pos rfl ?_
    rw [show hI = 1 by omega]
    exact YES (by omega) (by omega)
  have h8 : at' ≠ 8 := by omega
  have gk' := gk h8
  by_cases cP : ty = 1347179589
  · rw [if_pos cP]
    refine s_neg (by decide) ?_
    refine s_ji ?_
    refine s_ji ?_
    rw [show gS t (64 * 63 + 18) = N kd from gk']
    by_cases d1 : hc = 0
    · refine s_pos (by rw [d1]; rfl) ?_
      by_cases d2 : ht = 0
      · refine s_pos (by rw [d2]; rfl) ?_
        by_cases d3 : pc = 0
        · refine s_pos (by rw [d3]; rfl) ?_
          by_cases d4 : kd = 0
          · exact s_pos (by rw [d4]; rfl) (NO _ (by omega))
          · refine s_neg (N_ne (b := 0) (by omega) (by omega) d4) ?_
            by_cases d5 : kd = 4
            · exact s_pos (by rw [d5]; rfl) (NO _ (by omega))
            · exact s_neg (N_ne (b := 4) (by omega) (by omega) d5) (YES (by omega) (by omega))
        · exact s_neg (N_ne (b := 0) (by omega) (by omega) d3) (NO _ (by omega))
      · exact s_neg (N_ne (b := 0) (by omega) (by omega) d2) (NO _ (by omega))
    · exact s_neg (N_ne (b := 0) (by omega) (by omega) d1) (NO _ (by omega))
  rw [if_neg cP]
  refine s_pos rfl ?_
  refine s_ji ?_
  refine s_neg (by decide) ?_
  refine s_c tT ?_
  rw [show gS t (64 * 63 + 40) = N hc from g5, show gS t (64 * 63 + 41) = N ht from g6, show gS t (64 * 63 + 42) = N pc from g7]
  by_cases cT : ty = 1951551059
  · rw [if_pos cT]
    refine s_neg (by decide) ?_
    refine s_ji ?_
    refine s_ji ?_
    rw [show gS t (64 * 63 + 18) = N kd from gk']
    by_cases d1 : ht = 0
    · refine s_pos (by rw [d1]; rfl) ?_
      by_cases d2 : pc = 0
      · refine s_pos (by rw [d2]; rfl) ?_
        by_cases d3 : kd = 4
        · exact s_pos (by rw [d3]; rfl) (NO _ (by omega))
        · refine s_neg (N_ne (b := 4) (by omega) (by omega) d3) ?_
          by_cases d4 : kd = 6
          · exact s_pos (by rw [d4]; rfl) (NO _ (by omega))
          · refine s_neg (N_ne (b := 6) (by omega) (by omega) d4) ?_
            refine s_ji ?_
            by_cases d5 : kd = 3
            · refine s_pos (by rw [d5]; rfl) ?_
              by_cases d6 : hc = 0
              · exact s_pos (by rw [d6]; rfl) (NO _ (by omega))
              · exact s_neg (N_ne (b := 0) (by omega) (by omega) d6) (YES (by omega) (by omega))
            · exact s_neg (N_ne (b := 3) (by omega) (by omega) d5) (YES (by omega) (by omega))
      · exact s_neg (N_ne (b := 0) (by omega) (by omega) d2) (NO _ (by omega))
    · exact s_neg (N_ne (b := 0) (by omega) (by omega) d1) (NO _ (by omega))
  rw [if_neg cT]
  refine s_pos rfl ?_
  refine s_ji ?_
  refine s_neg (by decide) ?_
  refine s_c tD ?_
  rw [show gS t (64 * 63 + 40) = N hc from g5, show gS t (64 * 63 + 42) = N pc from g7]
  by_cases cD : ty = 1229209940
  · rw [if_pos cD]
    refine s_neg (by decide) ?_
    refine s_ji ?_
    refine s_ji ?_
    rw [show gS t (64 * 63 + 18) = N kd from gk']
    by_cases d1 : 2 ≤ pc
    · exact s_pos (by rw [show (2 : Int32) = N 2 from rfl, N_le (by omega) (by omega)]; exact d1) (NO _ (by omega))
    · refine s_neg (by rw [show (2 : Int32) = N 2 from rfl, N_le (by omega) (by omega)]; exact d1) ?_
      refine s_ji ?_
      by_cases d5 : kd = 3
      · refine s_pos (by rw [d5]; rfl) ?_
        by_cases d6 : hc = 0
        · exact s_pos (by rw [d6]; rfl) (NO _ (by omega))
        · exact s_neg (N_ne (b := 0) (by omega) (by omega) d6) (YES (by omega) (by omega))
      · exact s_neg (N_ne (b := 3) (by omega) (by omega) d5) (YES (by omega) (by omega))
  rw [if_neg cD]
  refine s_pos rfl ?_
  refine s_neg (by decide) ?_
  refine s_c tE ?_
  by_cases cE : ty = 1229278788
  · rw [if_pos cE]
    refine s_neg (by decide) ?_
    refine s_ji ?_
    rw [show gS t (64 * 63 + 42) = N pc from g7]
    by_cases d1 : pc = 0
    · exact s_pos (by rw [d1]; decide) (NO _ (by omega))
    · exact s_neg (by rw [show (0 : Int32) = N 0 from rfl, N_le (by omega) (by omega)]; omega) (YES (by omega) (by omega))
  · rw [if_neg cE]
    refine s_pos rfl ?_
    rw [show hI = 0 by omega]
    exact UNK (by omega) (by omega)
