/-! A PLAIN BLOCK, BOTH SIDES -/







theorem xor_all {a b : Nat} (ha : a < 65536) (hb : b < 65536) : a ^^^ b = 65535 ↔ b = 65535 - a := by
  have h : a ^^^ 65535 = 65535 - a := by
    apply Nat.eq_of_testBit_eq
    intro i
    have h1 := Nat.testBit_two_pow_sub_succ (n := 16) (x := a) ha i
    rw [show 65535 - a = 2 ^ 16 - (a + 1) by omega, h1, Nat.testBit_xor, show (65535 : Nat) = 2 ^ 16 - 1 from rfl, Nat.testBit_two_pow_sub_one]
    by_cases hi : i < 16
    · simp [hi]
    · have : a.testBit i = false := Nat.testBit_lt_two_pow (Nat.lt_of_lt_of_le ha (Nat.pow_le_pow_right (n := 2) (i := 16) (by decide) (by omega)))
      simp [hi, this]
  constructor
  · intro hx
    rw [← h, ← hx, ← Nat.xor_assoc, Nat.xor_self, Nat.zero_xor]
  · intro hx
    rw [hx, ← h, ← Nat.xor_assoc, Nat.xor_self, Nat.zero_xor]
theorem C_leave {n q len m ck tot win pos dn : Nat} {T wh R : Nat → Nat} {s : Mm} (h : SC q T len m wh ck tot win pos dn R s) : Ok (F_PackedBits_leaveByte n 9 s) (fun s' => SC q T len m wh ck tot win ((pos + 7) / 8 * 8) dn R s') := by
  obtain ⟨⟨hX, hT, hm, -⟩, hp, hpm, hf⟩ := id h.1
  unfold F_PackedBits_leaveByte
  refine s_nz (by decide) ?_
  refine s_let (fun s1 e1 => ?_)
  rw [hp, show (7 : Int32) = N 7 from rfl, show (8 : Int32) = N 8 from rfl, N_add, N_div (by omega) (by decide), N_mul] at e1
  have f : FI [581] [] q s s1 := by rw [e1]; exact (FI.rfl hX).wS (by decide) _
  refine Ok.some (h.fr f ⟨h.1.1.fr f (by decide) (by decide), ?_, by omega, ?_⟩ (by decide) (by decide) (by decide))
  · rw [e1]; exact gS_eq rfl
  · exact (f.2.2.S (by decide)).trans hf
theorem M_alg {n m ck tot win pos dn : Nat} {T wh R : Nat → Nat} {t : Mm} (h : SM T m wh ck tot win pos dn R t) : Ok (F_Md_align n 63 t) (fun s' => SM T m wh ck tot win ((pos + 7) / 8 * 8) dn R s') := by
  obtain ⟨⟨hX, hm, -⟩, hp, hpm, hf⟩ := id h.1
  unfold F_Md_align
  refine s_nzl (by decide) ?_
  refine s_let (fun s1 e1 => ?_)
  rw [hp, show (7 : Int64) = L 7 from rfl, show (8 : Int64) = L 8 from rfl, L_add, L_div (by omega) (by decide), L_mul] at e1
  have f : FM [4075] [] t s1 := by rw [e1]; exact (FM.rfl hX).wJ (by decide) _
  refine Ok.some (h.fr f ⟨h.1.1.fr f (by decide) (by decide), ?_, by omega, ?_⟩ (by decide) (by decide))
  · rw [e1]; exact gJ_eq rfl
  · exact (f.2.S (by decide)).trans hf
theorem SC.pm {q len m ck tot win pos dn : Nat} {T wh R : Nat → Nat} {s : Mm} (h : SC q T len m wh ck tot win pos dn R s) : pos ≤ 8 * m ∧ m ≤ 65536 := ⟨h.1.2.2.1, h.1.1.2.2.1⟩
/-- numbers of bits, with all that unpacking holds -/
theorem SC_n1 {n q len m ck tot win pos dn : Nat} {T wh R : Nat → Nat} {s : Mm} {k : Nat} {x : Int32} (e : x = N k) (hn : 100 < n) (h : SC q T len m wh ck tot win pos dn R s) (hk : k ≤ 16) (hh : pos + k ≤ 8 * m) : Ok (F_PackedBits_number n 9 x s) (fun r => r.1 = N (nb' T wh pos k) ∧ SC q T len m wh ck tot win (pos + k) dn R r.2 ∧ FI [320, 321, 581] [] q s r.2) := (C_n1 e hn h.1 hk hh).mono (fun _ hr => ⟨hr.1, h.fr hr.2.2 hr.2.1 (by decide) (by decide) (by decide), hr.2.2⟩)
theorem SM_n1 {n m ck tot win pos dn : Nat} {T wh R : Nat → Nat} {t : Mm} {k : Nat} {x : Int32} (e : x = N k) (hn : 100 < n) (h : SM T m wh ck tot win pos dn R t) (hT : ∀ i, T i < 256) (hk : k ≤ 16) (hh : pos + k ≤ 8 * m) : Ok (F_Md_bits n 63 x t) (fun r => r.1 = N (nb' T wh pos k) ∧ SM T m wh ck tot win (pos + k) dn R r.2 ∧ FM [4075] [] t r.2) := (M_bits e hn h.1 hT hk hh).mono (fun _ hr => ⟨hr.1, h.fr hr.2.2 hr.2.1 (by decide) (by decide), hr.2.2⟩)
theorem i8_N {v : Nat} (hv : v < 256) : vp_nar .byte ((N v).toInt8.toInt32) &&& N 255 = N v := by
  show (N v).toInt8.toInt32.toInt8.toInt32 &&& N 255 = N v
  rw [i8_and, show lob ((N v).toInt8.toInt32) = v from lob_eq (by rw [i8_and, lob_Nat, Nat.mod_eq_of_lt hv]) hv]
theorem RR.no {q len m ck tot win p0 cd pl : Nat} {T wh : Nat → Nat} {a b : Int32} {s t : Mm} (ha : a = 0) (hb : b = 0) (h1 : FC cd pl s) (h2 : FV cd pl t) : RR q T len m wh ck tot win p0 (a, s) (b, t) := Or.inr ⟨ha, hb, cd, pl, h1, h2⟩
theorem RR.yes {q len m ck tot win p0 pos dn : Nat} {T wh R : Nat → Nat} {s t : Mm} (hp : p0 ≤ pos) (h1 : SC q T len m wh ck tot win pos dn R s) (h2 : SM T m wh ck tot win pos dn R t) : RR q T len m wh ck tot win p0 (1, s) (1, t) := Or.inl ⟨rfl, rfl, pos, dn, R, hp, h1, h2⟩
set_option maxHeartbeats 1000000 in
theorem L_plain {n q len m ck tot win pos dn : Nat} {T wh R : Nat → Nat} {s t : Mm} (hn : 70000 < n) (hC : SC q T len m wh ck tot win pos dn R s) (hM : SM T m wh ck tot win pos dn R t) : Ok (F_Unpacker_takePlain n 12 s) (fun x => Ok (F_Md_readPlain n 63 t) (fun y => RR q T len m wh ck tot win pos x y)) := by
  have hX := hC.1.1.1.1.1
  unfold F_Unpacker_takePlain F_Md_readPlain
  refine s_R hX.Unp_packed ?_
  refine (C_leave hC).bind (fun s1 h1 => ?_)
  refine Ok.sw ?_
  refine (M_alg hM).bind (fun t1 g1 => ?_)
  refine Ok.sw ?_
  have hpm0 := hC.pm
  have hpm := h1.pm
  have hge : pos ≤ (pos + 7) / 8 * 8 := by omega
  generalize (pos + 7) / 8 * 8 = p1 at h1 g1 hpm hge
  have hT := h1.1.1.2.1.2.2.1
  refine s_R h1.1.1.1.1.1.Unp_packed ?_
  by_cases h32 : p1 + 32 ≤ 8 * m
  · refine (SC_n1 (k := 16) rfl (by omega) h1 (by decide) (by omega)).c2 ?_
    rintro r s2 ⟨e2, h2, -⟩
    dsimp only at e2 h2 ⊢
    subst e2
    refine s_neg (nb_m1 (by decide)) ?_
    refine s_R h2.1.1.1.1.1.Unp_packed ?_
    refine s_let (fun x9 hx9 => ?_)
    rw [h2.1.2.1] at hx9
    subst hx9
    refine s_R h2.1.1.1.1.1.Unp_packed ?_
    refine (SC_n1 (k := 16) rfl (by omega) h2 (by decide) (by omega)).c2 ?_
    rintro r s3 ⟨e3, h3, -⟩
    dsimp only at e3 h3 ⊢
    subst e3
    refine s_neg (nb_m1 (by decide)) ?_
    refine Ok.sw ?_
    refine s_c (M_h1 (k := 32) rfl g1.1 (by decide) h32) ?_
    refine s_neg (by decide) ?_
    refine (SM_n1 (k := 16) rfl (by omega) g1 hT (by decide) (by omega)).c2 ?_
    rintro r t2 ⟨e2, g2, -⟩
    dsimp only at e2 g2 ⊢
    subst e2
    refine s_c (M_plc (i := p1 + 16) g2.1.2.1 g2.1.1 (by omega)) ?_
    refine (SM_n1 (k := 16) rfl (by omega) g2 hT (by decide) (by omega)).c2 ?_
    rintro r t3 ⟨e3, g3, -⟩
    dsimp only at e3 g3 ⊢
    subst e3
    have ha := nb'_lt (T := T) (wh := wh) (p := p1) 16
    have hb := nb'_lt (T := T) (wh := wh) (p := p1 + 16) 16
    have hxor : nb' T wh p1 16 ^^^ nb' T wh (p1 + 16) 16 < 2 ^ 16 := Nat.xor_lt_two_pow ha hb
    have hal := xor_all ha hb
    rw [show p1 + 16 + 16 = p1 + 32 by omega] at h3 g3
    generalize nb' T wh p1 16 = a at ha hxor hal ⊢
    generalize nb' T wh (p1 + 16) 16 = b at hb hxor hal ⊢
    rw [show (65535 : Int32) = N 65535 from rfl, N_sub (by omega), N_xor]
    by_cases hab : b = 65535 - a
    · refine s_pos (by rw [hab]) ?_
      refine Ok.sw ?_
      refine s_pos (by rw [hal.mpr hab]) ?_
      refine ok_for2 0 a (fun i x s' y t' => x = N i ∧ y = N i ∧ p1 + 32 + 8 * i ≤ 8 * m ∧ ∃ dn R, SC q T len m wh ck tot win (p1 + 32 + 8 * i) dn R s' ∧ SM T m wh ck tot win (p1 + 32 + 8 * i) dn R t') ?_ (by omega) (by omega) (by omega) ⟨rfl, rfl, by omega, _, _, h3, g3⟩
      clear hC hM h1 g1 h2 g2 h3 g3 hpm0
      rintro i k1 k2 x s' y t' - hi ⟨rfl, rfl, hl, dn, R, h1, g1⟩ ih
      by_cases hie : a = i
      · subst hie
        refine s_pos (Int32.le_refl _) (s_z (Or.inr rfl) (Ok.some ?_))
        refine s_pos (Int32.le_refl _) (s_z (Or.inr rfl) (Ok.some ?_))
        exact RR.yes (by omega) h1 g1
      · refine s_neg (by rw [N_le (by omega) (by omega)]; omega) ?_
        refine s_R h1.1.1.1.1.1.Unp_packed ?_
        refine s_let (fun x9 hx9 => ?_)
        rw [h1.1.2.1] at hx9
        subst hx9
        refine s_R h1.1.1.1.1.1.Unp_packed ?_
        have h5 := h1.2.2.2.2.1
        by_cases h8 : p1 + 32 + 8 * i + 8 ≤ 8 * m
        · refine (SC_n1 (k := 8) rfl (by omega) h1 (by decide) h8).c2 ?_
          rintro r s2 ⟨e2, h2, -⟩
          dsimp only at e2 h2 ⊢
          subst e2
          refine s_ji ?_
          refine s_neg (nb_m1 (by decide)) ?_
          have hv := nb'_lt (T := T) (wh := wh) (p := p1 + 32 + 8 * i) 8
          by_cases hd : dn < tot
          · refine (C_put1 rfl h2 hv hd).c2 ?_
            rintro r s3 ⟨e3, h3⟩
            dsimp only at e3 h3 ⊢
            subst e3
            refine s_neg (by decide) ?_
            refine s_let (fun x9 hx9 => ?_)
            rw [N_one, N_add] at hx9
            subst hx9
            refine Ok.sw ?_
            refine s_neg (by rw [N_le (by omega) (by omega)]; omega) ?_
            refine s_c (M_h1 (k := 8) rfl g1.1 (by decide) h8) ?_
            refine s_neg (by decide) ?_
            refine s_neg (by rw [g1.2.2.1, g1.2.1]; exact N_ne (by omega) (by omega) (by omega)) ?_
            refine s_R g1.1.1.1.2.raw ?_
            refine (SM_n1 (k := 8) rfl (by omega) g1 hT (by decide) h8).c2 ?_
            rintro r t2 ⟨e2, g2, -⟩
            dsimp only at e2 g2 ⊢
            subst e2
            refine s_in (m := dn) g1.2.2.1 (show dn < 40000 by omega) (by omega) ?_
            refine s_let (fun t3 e3 => ?_)
            rw [g1.2.2.1, N_nat (by omega)] at e3
            refine s_let (fun t4 e4 => ?_)
            have e5 : gS t3 4063 = N dn := by rw [e3]; exact g2.2.2.1
            rw [e5, show (1 : Int32) = N 1 from rfl, N_add, e3] at e4
            refine s_let (fun x9 hx9 => ?_)
            rw [N_one, N_add] at hx9
            subst hx9
            refine Ok.sw ?_
            refine ih (by omega) _ _ _ _ ⟨rfl, rfl, by omega, _, _, h3, ?_⟩
            rw [e4]
            exact g2.put (i8_N hv)
          · refine (C_put0 (at' := p1 + 32 + 8 * i) rfl h2 (by omega) hd).c2 ?_
            rintro r s3 ⟨e3, h3⟩
            dsimp only at e3 h3 ⊢
            subst e3
            refine s_pos rfl (s_z (Or.inl rfl) (Ok.some ?_))
            refine s_neg (by rw [N_le (by omega) (by omega)]; omega) ?_
            refine s_c (M_h1 (k := 8) rfl g1.1 (by decide) h8) ?_
            refine s_neg (by decide) ?_
            refine s_pos (by rw [g1.2.2.1, g1.2.1, show dn = tot by omega]) ?_
            refine s_c (M_plc (i := p1 + 32 + 8 * i) g1.1.2.1 g1.1.1 (by omega)) ?_
            refine (M_flaw (c := 26) rfl rfl).c2 ?_
            rintro r t2 ⟨e2, g2⟩
            dsimp only at e2 g2 ⊢
            subst e2
            exact s_z (Or.inl rfl) (Ok.some (RR.no rfl rfl h3 g2))
        · refine (C_n0 (k := 8) rfl (by omega) h1.1 (by decide) h8).c2 ?_
          rintro r s2 ⟨e2, h2⟩
          dsimp only at e2 h2 ⊢
          subst e2
          refine s_ji ?_
          refine s_pos rfl (s_z (Or.inl rfl) (Ok.some ?_))
          refine s_neg (by rw [N_le (by omega) (by omega)]; omega) ?_
          refine (M_h0 (k := 8) rfl g1.1 (by decide) h8).c2 ?_
          rintro r t2 ⟨e2, g2⟩
          dsimp only at e2 g2 ⊢
          subst e2
          exact s_pos rfl (s_z (Or.inl rfl) (Ok.some (RR.no rfl rfl h2 g2)))
    · refine s_neg (N_ne (by omega) (by omega) hab) ?_
      refine (M_flaw (c := 23) rfl rfl).c2 ?_
      rintro r t4 ⟨e4, g4⟩
      dsimp only at e4 g4 ⊢
      subst e4
      refine s_z (Or.inl rfl) (Ok.some ?_)
      refine s_neg (N_ne (by omega) (by omega) (fun z => hab (hal.mp z))) ?_
      refine s_R h3.1.1.1.1.1.Unp_fault ?_
      refine s_R h3.1.1.1.1.1.Unp_packed ?_
      refine s_c (C_plc (i := p1 + 16) rfl h3.1.1 (by omega)) ?_
      refine (C_ref (c := 23) rfl rfl).c2 ?_
      rintro r s4 ⟨e4, h4⟩
      dsimp only at e4 h4 ⊢
      subst e4
      exact s_z (Or.inl rfl) (Ok.some (RR.no rfl rfl h4 g4))
  · refine Ok.sw ?_
    refine (M_h0 (k := 32) rfl g1.1 (by decide) h32).c2 ?_
    rintro r t2 ⟨e2, g2⟩
    dsimp only at e2 g2 ⊢
    subst e2
    refine s_pos rfl (s_z (Or.inl rfl) (Ok.some ?_))
    by_cases h16 : p1 + 16 ≤ 8 * m
    · refine (SC_n1 (k := 16) rfl (by omega) h1 (by decide) h16).c2 ?_
      rintro r s2 ⟨e2, h2, -⟩
      dsimp only at e2 h2 ⊢
      subst e2
      refine s_neg (nb_m1 (by decide)) ?_
      refine s_R h2.1.1.1.1.1.Unp_packed ?_
      refine s_let (fun x9 hx9 => ?_)
      refine s_R h2.1.1.1.1.1.Unp_packed ?_
      refine (C_n0 (k := 16) rfl (by omega) h2.1 (by decide) (by omega)).c2 ?_
      rintro r s3 ⟨e3, h3⟩
      dsimp only at e3 h3 ⊢
      subst e3
      exact s_pos rfl (s_z (Or.inl rfl) (Ok.some (RR.no rfl rfl h3 g2)))
    · refine (C_n0 (k := 16) rfl (by omega) h1.1 (by decide) h16).c2 ?_
      rintro r s2 ⟨e2, h2⟩
      dsimp only at e2 h2 ⊢
      subst e2
      exact s_pos rfl (s_z (Or.inl rfl) (Ok.some (RR.no rfl rfl h2 g2)))
