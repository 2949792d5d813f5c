/-! A PIECE IS WHOLE, BOTH SIDES -/
theorem N_big {v : Nat} (h1 : 2147483648 ≤ v) (h2 : v < 4294967296) : ¬ (0 : Int32) ≤ N v := by
  rw [Int32.not_le, Int32.lt_iff_toInt_lt]
  show (BitVec.ofNat 32 v).toInt < (0 : Int32).toInt
  rw [BitVec.toInt_eq_toNat_cond, BitVec.toNat_ofNat, Nat.mod_eq_of_lt h2, if_neg (by omega)]
  show (v : Int) - ((2 ^ 32 : Nat) : Int) < 0
  omega
theorem crC_b {T : Nat → Nat} (hT : ∀ i, T i < 256) (a k : Nat) : crC T a k < 4294967296 := crC_lt hT a k
def WholeOk (T : Nat → Nat) (len at' : Nat) : Prop := at' + 8 ≤ len ∧ num T at' < 2147483648 ∧ (∀ j, 4 ≤ j → j < 8 → letter (T (at' + j))) ∧ at' + 12 + num T at' ≤ len
set_option maxHeartbeats 1000000 in
theorem L_whole {n q len at' : Nat} {T : Nat → Nat} {s t : Mm} {x y : Int32} (ex : x = N at') (ey : y = N at') (hn : 600000 < n) (hX : PtX s ∧ gR s 707 = some q) (hT : TapeC T len s) (hTu : Turns s) (hm : PtM t) (hTM : TapeM T len t) (hat : at' ≤ len) : Ok (F_Pieces_isWhole n 11 x s) (fun a => Ok (F_Md_isPiece n 63 y t) (fun b => (WholeOk T len at' ∧ a = (1, s) ∧ b = (1, t)) ∨ (a.1 = 0 ∧ b.1 = 0 ∧ ∃ cd pl, FC cd pl a.2 ∧ FV cd pl b.2))) := by
  subst ex ey
  have hp := hX.1.1
  have hl := hT.2.1
  have h3 := hT.2.2.1
  have hnl := num_lt h3 at'
  have gl := hTM.1
  have q1 := hp.Pieces_tape
  have q2 := hp.Pieces_fault
  have sz : gS s (64 * 2 + 1) = N len := hT.1
  have szM : gS t (64 * 63 + 2) = N len := gl
  unfold F_Pieces_isWhole F_Md_isPiece
  refine s_R q1 ?_
  rw [sz, szM, show (8 : Int32) = N 8 from rfl, N_add]
  by_cases h8 : at' + 8 ≤ len
  · refine s_pos (by rw [N_le (by omega) (by omega)]; exact h8) ?_
    refine s_R q1 ?_
    refine s_c (C_number rfl hp hT (by omega)) ?_
    refine Ok.sw ?_
    refine s_pos (by rw [N_le (by omega) (by omega)]; exact h8) ?_
    refine s_c (M_number rfl hm hTM hl h3 (by omega)) ?_
    rw [show (2147483647 : Int64) = L 2147483647 from rfl]
    by_cases hneg : num T at' < 2147483648
    · refine s_pos ((lg_le (by omega) (by omega)).mpr (by omega)) ?_
      refine Ok.sw ?_
      refine s_pos (N_nonneg hneg) ?_
      refine s_let (fun x9 hx9 => ?_)
      rw [show (4 : Int32) = N 4 from rfl, N_add] at hx9
      subst hx9
      refine ok_for2 4 8 (fun j x s' y t' => x = N (at' + j) ∧ y = N j ∧ s' = s ∧ t' = t ∧ ∀ i, 4 ≤ i → i < j → letter (T (at' + i))) ?_ (by omega) (by omega) (by omega) ⟨rfl, rfl, rfl, rfl, fun i h1 h2 => by omega⟩
      rintro j k1 k2 x s' y t' hj1 hj2 ⟨rfl, rfl, rfl, rfl, hlt⟩ ih
      by_cases hje : j = 8
      · subst hje
        refine s_pos (Int32.le_refl _) ?_
        refine s_R q1 ?_
        rw [sz]
        refine Ok.sw ?_
        refine s_pos (Int32.le_refl _) ?_
        rw [szM, N_long (a := at') (by omega), N_long (a := len) (by omega), show (12 : Int64) = L 12 from rfl, L_add, L_add, N_sub hat, show (12 : Int32) = N 12 from rfl]
        by_cases hfit : at' + 12 + num T at' ≤ len
        · refine s_pos ((lg_le (by omega) (by omega)).mpr hfit) ?_
          refine s_let (fun x9 hx9 => ?_)
          rw [L_int, N_add] at hx9
          subst hx9
          refine s_c (M_number rfl hm hTM hl h3 (by omega)) ?_
          rw [L_int, show (4 : Int32) = N 4 from rfl, N_add, N_add]
          refine s_c (Md_check_eq rfl rfl hm hTM h3 hl (by omega) (by omega)) ?_
          refine Ok.sw ?_
          refine s_pos (by rw [N_sub (by omega), N_le (by omega) (by omega)]; omega) ?_
          refine s_let (fun x9 hx9 => ?_)
          rw [N_add] at hx9
          subst hx9
          refine s_R q1 ?_
          refine s_c (C_number rfl hp hT (by omega)) ?_
          refine s_R q1 ?_
          refine s_c (Tape_check_eq (k := num T at' + 4) rfl (by rw [show at' + 4 + (num T at' + 4) = at' + 8 + num T at' by omega]) hp hT hTu (by omega) (by omega)) ?_
          have c1 := num_lt h3 (at' + 8 + num T at')
          have c2 := crC_b h3 (at' + 4) (num T at' + 4)
          refine s_ji ?_
          refine s_ji ?_
          refine Ok.sw ?_
          refine s_ji ?_
          refine s_ji ?_
          by_cases he : num T (at' + 8 + num T at') = crC T (at' + 4) (num T at' + 4)
          · refine s_pos ((lg_eq (by omega) (by omega)).mpr he) ?_
            refine s_z (Or.inr rfl) (Ok.some ?_)
            refine s_pos (by rw [he]) ?_
            exact s_z (Or.inr rfl) (Ok.some (Or.inl ⟨⟨h8, hneg, hlt, hfit⟩, rfl, rfl⟩))
          · refine s_neg (by rw [lg_eq (by omega) (by omega)]; exact he) ?_
            refine (M_flaw (c := 5) rfl rfl).c2 ?_
            rintro r t8 ⟨e8, g8⟩
            dsimp only at e8 g8 ⊢
            refine s_pos e8 (s_z (Or.inl rfl) (Ok.some ?_))
            refine s_neg (N_ne (by omega) (by omega) he) ?_
            refine s_R q2 ?_
            refine (C_ref (c := 5) rfl rfl).c2 ?_
            rintro r s8 ⟨e8, h8⟩
            dsimp only at e8 h8 ⊢
            refine s_pos e8 ?_
            exact s_z (Or.inl rfl) (Ok.some (Or.inr ⟨rfl, rfl, _, _, h8, g8⟩))
        · refine s_neg (by rw [lg_le (by omega) (by omega)]; exact hfit) ?_
          refine (M_flaw (c := 2) rfl rfl).c2 ?_
          rintro r t8 ⟨e8, g8⟩
          dsimp only at e8 g8 ⊢
          subst e8
          refine s_z (Or.inl rfl) (Ok.some ?_)
          have hno : ¬ N (num T at') ≤ N (len - at') - N 12 := by
            by_cases h12 : 12 ≤ len - at'
            · rw [N_sub h12, N_le (by omega) (by omega)]
              omega
            · rw [Int32.not_le]
              exact Int32.lt_of_lt_of_le (N_sub_neg (by omega) (by omega)) (N_nonneg hneg)
          refine s_neg hno ?_
          refine s_R q2 ?_
          refine s_R q1 ?_
          refine (C_ref (c := 2) rfl sz).c2 ?_
          rintro r s8 ⟨e8, h8⟩
          dsimp only at e8 h8 ⊢
          subst e8
          exact s_z (Or.inl rfl) (Ok.some (Or.inr ⟨rfl, rfl, _, _, h8, g8⟩))
      · refine s_neg (by rw [N_le (by omega) (by omega)]; omega) ?_
        have hb := h3 (at' + j)
        refine s_R q1 ?_
        refine s_R hp.Tape_bytes ?_
        refine s_in rfl (by rw [kd_3]; omega) (by omega) ?_
        rw [N_nat (by omega), hT.2.2.2 _ (by omega)]
        obtain ⟨b1, eb1, hb1⟩ := C_letter (n := n) (s := s') (v := T (at' + j)) rfl hb
        refine s_c eb1 ?_
        refine Ok.sw ?_
        refine s_neg (by rw [N_le (by omega) (by omega)]; omega) ?_
        rw [N_add]
        refine s_c (Md_at_eq hm hTM hl rfl (by omega)) ?_
        obtain ⟨b2, eb2, hb2⟩ := M_letter (n := n) (s := t') (v := T (at' + j)) rfl hb
        refine s_c eb2 ?_
        by_cases hlet : letter (T (at' + j))
        · have e1 : b1 = 1 := by rcases hb1 with h | h; exact h.1; exact absurd hlet h.2
          have e2 : b2 = 1 := by rcases hb2 with h | h; exact h.1; exact absurd hlet h.2
          subst e1 e2
          refine s_neg (by decide) ?_
          refine s_let (fun x9 hx9 => ?_)
          rw [N_one, N_add] at hx9
          subst hx9
          refine Ok.sw ?_
          refine s_neg (by decide) ?_
          refine s_let (fun x9 hx9 => ?_)
          rw [N_one, N_add] at hx9
          subst hx9
          refine ih (by omega) _ _ _ _ ⟨by rw [Nat.add_assoc], rfl, rfl, rfl, fun i h1 h2 => ?_⟩
          by_cases hij : i = j
          · rw [hij]; exact hlet
          · exact hlt i h1 (by omega)
        · have e1 : b1 = 0 := by rcases hb1 with h | h; exact absurd h.2 hlet; exact h.1
          have e2 : b2 = 0 := by rcases hb2 with h | h; exact absurd h.2 hlet; exact h.1
          subst e1 e2
          refine s_pos rfl ?_
          refine (M_flaw (c := 4) rfl rfl).c2 ?_
          rintro r t8 ⟨e8, g8⟩
          dsimp only at e8 g8 ⊢
          subst e8
          refine s_z (Or.inl rfl) (Ok.some ?_)
          refine s_pos rfl ?_
          refine s_R q2 ?_
          refine (C_ref (c := 4) rfl rfl).c2 ?_
          rintro r s8 ⟨e8, h8⟩
          dsimp only at e8 h8 ⊢
          subst e8
          exact s_z (Or.inl rfl) (Ok.some (Or.inr ⟨rfl, rfl, _, _, h8, g8⟩))
    · refine s_neg (by rw [lg_le (by omega) (by omega)]; omega) ?_
      refine (M_flaw (c := 3) rfl rfl).c2 ?_
      rintro r t8 ⟨e8, g8⟩
      dsimp only at e8 g8 ⊢
      subst e8
      refine s_z (Or.inl rfl) (Ok.some ?_)
      refine s_neg (N_big (by omega) (by omega)) ?_
      refine s_R q2 ?_
      refine (C_ref (c := 3) rfl rfl).c2 ?_
      rintro r s8 ⟨e8, h8⟩
      dsimp only at e8 h8 ⊢
      subst e8
      exact s_z (Or.inl rfl) (Ok.some (Or.inr ⟨rfl, rfl, _, _, h8, g8⟩))
  · refine s_neg (by rw [N_le (by omega) (by omega)]; exact h8) ?_
    refine s_R q2 ?_
    refine s_R q1 ?_
    refine (C_ref (c := 2) rfl sz).c2 ?_
    rintro r s8 ⟨e8, h9⟩
    dsimp only at e8 h9 ⊢
    subst e8
    refine s_z (Or.inl rfl) (Ok.some ?_)
    refine s_neg (by rw [N_le (by omega) (by omega)]; exact h8) ?_
    refine (M_flaw (c := 2) rfl rfl).c2 ?_
    rintro r t8 ⟨e8, g8⟩
    dsimp only at e8 g8 ⊢
    subst e8
    exact s_z (Or.inl rfl) (Ok.some (Or.inr ⟨rfl, rfl, _, _, h9, g8⟩))
