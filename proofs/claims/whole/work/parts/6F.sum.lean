/-! THE SUM BEHIND THE BLOCKS, BOTH SIDES -/



def sq (T wh : Nat → Nat) (p : Nat) : Nat → Nat
  | 0 => 0
  | i + 1 => 256 * sq T wh p i + nb' T wh (p + 8 * i) 8
theorem sq_lt {T wh : Nat → Nat} {p : Nat} (i : Nat) : sq T wh p i < 256 ^ i := by
  induction i with
  | zero => exact (by decide : 0 < 256 ^ 0)
  | succ i ih =>
    have h := nb'_lt (T := T) (wh := wh) (p := p + 8 * i) 8
    show 256 * sq T wh p i + _ < _
    rw [Nat.pow_succ]
    omega
theorem N_256 {a v : Nat} (hv : v < 256) : N a <<< (N 8 &&& N 31) ||| N v = N (256 * a + v) := by
  rw [N_shl (by decide), N_or, ← Nat.shiftLeft_add_eq_or_of_lt (i := 8) hv, Nat.shiftLeft_eq, Nat.mul_comm]
def RF (q : Nat) (T : Nat → Nat) (len m : Nat) (wh : Nat → Nat) (ck tot win : Nat) (x y : Int32 × Mm) : Prop := (x.1 = 1 ∧ y.1 = 1 ∧ ∃ pos R, SC q T len m wh ck tot win pos tot R x.2 ∧ SM T m wh ck tot win pos tot R y.2) ∨ (x.1 = 0 ∧ y.1 = 0 ∧ ∃ cd pl, FC cd pl x.2 ∧ FV cd pl y.2)
theorem RF.no {q len m ck tot win cd pl : Nat} {T wh : Nat → Nat} {a b : Int32} {s t : Mm} (ha : a = 0) (hb : b = 0) (h1 : FC cd pl s) (h2 : FV cd pl t) : RF q T len m wh ck tot win (a, s) (b, t) := Or.inr ⟨ha, hb, cd, pl, h1, h2⟩
set_option maxHeartbeats 1000000 in
theorem L_sum {n q len m ck tot win pos dn : Nat} {T wh R : Nat → Nat} {s t : Mm} (hn : 70000 < n) (hC : SC q T len m wh ck tot win pos dn R s) (hM : SM T m wh ck tot win pos dn R t) : Ok (F_Unpacker_takeSum n 12 s) (fun x => Ok (F_Md_readSum n 63 t) (fun y => RF q T len m wh ck tot win x y)) := by
  have hX := hC.1.1.1.1.1
  unfold F_Unpacker_takeSum F_Md_readSum
  refine s_R hX.Unp_packed ?_
  refine (C_leave hC).bind (fun s1 h1 => ?_)
  refine Ok.sw ?_
  refine (M_alg hM).bind (fun t1 g1 => ?_)
  refine Ok.sw ?_
  have hpm := h1.pm
  generalize (pos + 7) / 8 * 8 = p1 at h1 g1 hpm
  have hT := h1.1.1.2.1.2.2.1
  have h5 := h1.2.2.2.2.1
  refine s_R h1.1.1.1.1.1.Unp_packed ?_
  refine s_let (fun x9 hx9 => ?_)
  rw [h1.1.2.1] at hx9
  subst hx9
  by_cases ht : tot ≤ dn
  · have hdt : dn = tot := by omega
    subst hdt
    refine s_pos (by rw [h1.2.1, h1.2.2.1]; exact Int32.le_refl _) ?_
    refine Ok.sw ?_
    refine s_pos (by rw [g1.2.1, g1.2.2.1]; exact Int32.le_refl _) ?_
    by_cases h32 : p1 + 32 ≤ 8 * m
    · refine s_c (M_h1 (k := 32) rfl g1.1 (by decide) h32) ?_
      refine s_neg (by decide) ?_
      refine s_c (M_plc (i := p1) g1.1.2.1 g1.1.1 (by omega)) ?_
      refine Ok.sw ?_
      refine ok_for2 0 4 (fun i x s' y t' => x = (N (sq T wh p1 i), N i) ∧ y = (L (sq T wh p1 i), N i) ∧ SC q T len m wh ck dn win (p1 + 8 * i) dn R s' ∧ SM T m wh ck dn win (p1 + 8 * i) dn R t') ?_ (by omega) (by omega) (by omega) ⟨rfl, rfl, h1, g1⟩
      clear hC hM h1 g1
      rintro i k1 k2 x s' y t' - hi ⟨rfl, rfl, h1, g1⟩ ih
      have hsq := sq_lt (T := T) (wh := wh) (p := p1) i
      have hp4 : (256 : Nat) ^ i ≤ 256 ^ 4 := Nat.pow_le_pow_right (by decide) hi
      by_cases hi4 : i = 4
      · subst hi4
        have hsA := sumA_lt R dn
        refine s_pos (show N 4 ≤ N 4 from Int32.le_refl _) ?_
        refine s_R h1.1.1.1.1.1.Unp_rows ?_
        refine s_c (Rows_sumOf_eq (R := R) h1.2.1 (by omega) h1.1.1.1.1.1 h5.2.1 h1.2.2.2.2.2.1 h1.2.2.2.2.2.2.1) ?_
        refine Ok.sw ?_
        refine s_pos (show N 4 ≤ N 4 from Int32.le_refl _) ?_
        refine s_c (Md_sumOf_eq (R := R) g1.2.2.1 (by omega) g1.1.1.1.2 h5.2.1 h1.2.2.2.2.2.1 g1.2.2.2.2) ?_
        dsimp only
        by_cases hs : sq T wh p1 4 = sumA R dn
        · refine s_pos ((lg_eq (by omega) (by omega)).mpr hs) ?_
          refine s_ji ?_
          refine s_ji ?_
          rw [g1.1.2.1, g1.1.1.2.2.1, N_long (by omega), show (8 : Int64) = L 8 from rfl, L_mul]
          by_cases he : p1 + 8 * 4 = 8 * m
          · refine s_pos ((lg_eq (by omega) (by omega)).mpr he) ?_
            refine s_z (Or.inr rfl) (Ok.some ?_)
            refine s_pos (by rw [hs]) ?_
            refine s_R h1.1.1.1.1.1.Unp_packed ?_
            unfold F_PackedBits_isAtEnd
            refine Ok.c2' ?_
            refine s_ji ?_
            refine s_neg (by rw [h1.1.2.1, h1.1.1.2.2.2.2.1, show (8 : Int32) = N 8 from rfl, N_mul, N_lt (by omega) (by omega)]; omega) ?_
            refine s_z (Or.inr rfl) (Ok.some ?_)
            dsimp only
            refine s_ji ?_
            refine s_ji ?_
            refine s_neg (by decide) ?_
            exact s_z (Or.inr rfl) (Ok.some (Or.inl ⟨rfl, rfl, _, _, h1, g1⟩))
          · refine s_neg (by rw [lg_eq (by omega) (by omega)]; exact he) ?_
            refine s_c (M_plc (i := p1 + 8 * 4) rfl g1.1.1 (by omega)) ?_
            refine (M_flaw (c := 29) rfl rfl).c2 ?_
            rintro r t2 ⟨e2, g2⟩
            dsimp only at e2 g2 ⊢
            refine s_pos e2 (s_z (Or.inl rfl) (Ok.some ?_))
            refine s_pos (by rw [hs]) ?_
            refine s_R h1.1.1.1.1.1.Unp_packed ?_
            unfold F_PackedBits_isAtEnd
            refine Ok.c2' ?_
            refine s_ji ?_
            have hpm4 := h1.pm
            refine s_pos (by rw [h1.1.2.1, h1.1.1.2.2.2.2.1, show (8 : Int32) = N 8 from rfl, N_mul, N_lt (by omega) (by omega)]; omega) ?_
            refine s_z (Or.inl rfl) (Ok.some ?_)
            dsimp only
            refine s_ji ?_
            refine s_ji ?_
            refine s_pos rfl ?_
            refine s_R h1.1.1.1.1.1.Unp_fault ?_
            refine s_R h1.1.1.1.1.1.Unp_packed ?_
            refine s_R h1.1.1.1.1.1.Unp_packed ?_
            refine s_c (C_plc (i := p1 + 8 * 4) h1.1.2.1 h1.1.1 (by omega)) ?_
            refine (C_ref (c := 29) rfl rfl).c2 ?_
            rintro r s4 ⟨e4, h4⟩
            dsimp only at e4 h4 ⊢
            refine s_pos e4 ?_
            exact s_z (Or.inl rfl) (Ok.some (RF.no rfl rfl h4 g2))
        · refine s_neg (by rw [lg_eq (by omega) (by omega)]; exact hs) ?_
          refine (M_flaw (c := 28) rfl rfl).c2 ?_
          rintro r t2 ⟨e2, g2⟩
          dsimp only at e2 g2 ⊢
          subst e2
          refine s_z (Or.inl rfl) (Ok.some ?_)
          refine s_neg (by rw [N_inj (by omega) (by omega)]; exact hs) ?_
          refine s_R h1.1.1.1.1.1.Unp_fault ?_
          refine s_R h1.1.1.1.1.1.Unp_packed ?_
          refine s_c (C_plc (i := p1) rfl h1.1.1 (by omega)) ?_
          refine (C_ref (c := 28) rfl rfl).c2 ?_
          rintro r s4 ⟨e4, h4⟩
          dsimp only at e4 h4 ⊢
          subst e4
          exact s_z (Or.inl rfl) (Ok.some (RF.no rfl rfl h4 g2))
      · have hv := nb'_lt (T := T) (wh := wh) (p := p1 + 8 * i) 8
        have hp3 : (256 : Nat) ^ i ≤ 256 ^ 3 := Nat.pow_le_pow_right (by decide) (by omega)
        refine s_neg (by (try dsimp only); rw [show (4 : Int32) = N 4 from rfl, N_le (by omega) (by omega)]; omega) ?_
        refine s_R h1.1.1.1.1.1.Unp_packed ?_
        refine (SC_n1 (k := 8) rfl (by omega) h1 (by decide) (by omega)).c2 ?_
        rintro r s2 ⟨e2, h2, -⟩
        dsimp only at e2 h2 ⊢
        subst e2
        refine s_neg (nb_m1 (by decide)) ?_
        refine s_let (fun x9 hx9 => ?_)
        rw [show (8 : Int32) = N 8 from rfl, show (31 : Int32) = N 31 from rfl, N_256 hv] at hx9
        subst hx9
        refine s_let (fun x9 hx9 => ?_)
        rw [N_one, N_add] at hx9
        subst hx9
        refine Ok.sw ?_
        refine s_neg (by (try dsimp only); rw [show (4 : Int32) = N 4 from rfl, N_le (by omega) (by omega)]; omega) ?_
        refine (SM_n1 (k := 8) rfl (by omega) g1 hT (by decide) (by omega)).c2 ?_
        rintro r t2 ⟨e2, g2, -⟩
        dsimp only at e2 g2 ⊢
        subst e2
        refine s_let (fun x9 hx9 => ?_)
        rw [show (256 : Int64) = L 256 from rfl, L_mul, N_long (by omega), L_add] at hx9
        subst hx9
        refine s_let (fun x9 hx9 => ?_)
        rw [N_one, N_add] at hx9
        subst hx9
        refine Ok.sw ?_
        exact ih (by omega) _ _ _ _ ⟨rfl, rfl, h2, g2⟩
    · refine (M_h0 (k := 32) rfl g1.1 (by decide) h32).c2 ?_
      rintro r t2 ⟨e2, g2⟩
      dsimp only at e2 g2 ⊢
      subst e2
      refine s_pos rfl (s_z (Or.inl rfl) (Ok.some ?_))
      refine ok_for 0 4 (fun i x s' => x.2 = N i ∧ SC q T len m wh ck dn win (p1 + 8 * i) dn R s') ?_ (by omega) (by omega) ⟨rfl, h1⟩
      clear hC hM h1 g1
      rintro i k1 ⟨a, x⟩ s' - hi ⟨e, h1⟩ ih
      dsimp only at e
      subst e
      by_cases hi4 : i = 4
      · subst hi4
        have := h1.pm
        omega
      · refine s_neg (by rw [show (4 : Int32) = N 4 from rfl, N_le (by omega) (by omega)]; omega) ?_
        refine s_R h1.1.1.1.1.1.Unp_packed ?_
        by_cases h8 : p1 + 8 * i + 8 ≤ 8 * m
        · refine (SC_n1 (k := 8) rfl (by omega) h1 (by decide) h8).c2 ?_
          rintro r s2 ⟨e2, h2, -⟩
          dsimp only at e2 h2 ⊢
          subst e2
          refine s_neg (nb_m1 (by decide)) ?_
          refine s_let (fun x9 hx9 => ?_)
          refine s_let (fun x8 hx8 => ?_)
          rw [N_one, N_add] at hx8
          subst hx8
          exact ih (by omega) _ _ ⟨rfl, h2⟩
        · refine (C_n0 (k := 8) rfl (by omega) h1.1 (by decide) h8).c2 ?_
          rintro r s2 ⟨e2, h2⟩
          dsimp only at e2 h2 ⊢
          subst e2
          exact s_pos rfl (s_z (Or.inl rfl) (Ok.some (RF.no rfl rfl h2 g2)))
  · refine s_neg (by rw [h1.2.1, h1.2.2.1, N_le (by omega) (by omega)]; exact ht) ?_
    refine s_R h1.1.1.1.1.1.Unp_fault ?_
    refine s_R h1.1.1.1.1.1.Unp_packed ?_
    refine s_c (C_plc (i := p1) rfl h1.1.1 (by omega)) ?_
    refine (C_ref (c := 27) rfl rfl).c2 ?_
    rintro r s2 ⟨e2, h2⟩
    dsimp only at e2 h2 ⊢
    subst e2
    refine s_z (Or.inl rfl) (Ok.some ?_)
    refine s_neg (by rw [g1.2.1, g1.2.2.1, N_le (by omega) (by omega)]; exact ht) ?_
    refine s_c (M_plc (i := p1) g1.1.2.1 g1.1.1 (by omega)) ?_
    refine (M_flaw (c := 27) rfl rfl).c2 ?_
    rintro r t2 ⟨e2, g2⟩
    dsimp only at e2 g2 ⊢
    subst e2
    exact s_z (Or.inl rfl) (Ok.some (RF.no rfl rfl h2 g2))
