/-! THE TAPE of the class and of the reference -/
/-- the class's pointers that never change -/
def PtT (σ : Mm) : Prop := gR σ 128 = some 3 ∧ gR σ 130 = some 4
def TapeC (T : Nat → Nat) (len : Nat) (σ : Mm) : Prop := gS σ 129 = N len ∧ len ≤ 65536 ∧ (∀ i, T i < 256) ∧ ∀ i, i < len → gB σ 3 i = N (T i)
/-- the lowest byte of an int -/
def lob (x : Int32) : Nat := (x &&& 255).toNatClampNeg
theorem lob_N (x : Int32) : x &&& 255 = N (lob x) := by
  obtain ⟨k, hk, e⟩ := N_of (x := x &&& 255) (by
    apply Int32.le_iff_toInt_le.mpr
    have : (x &&& 255).toBitVec.msb = false := by simp
    rw [← Int32.toInt_toBitVec, ← Int32.toInt_toBitVec, BitVec.toInt_eq_toNat_of_msb this]
    simp)
  unfold lob
  rw [e, N_nat hk]
theorem lob_lt (x : Int32) : lob x < 256 := by
  have h := lob_N x
  have h1 : (x &&& 255).toBitVec.toNat < 256 := by
    rw [Int32.toBitVec_and, BitVec.toNat_and]
    exact Nat.lt_of_le_of_lt Nat.and_le_right (by decide)
  have h2 : (N (lob x)).toBitVec.toNat = lob x := by
    show (BitVec.ofNat 32 (lob x)).toNat = _
    rw [BitVec.toNat_ofNat]
    exact Nat.mod_eq_of_lt (Nat.lt_of_lt_of_le (Int32.toNatClampNeg_lt _) (by decide))
  rw [h, h2] at h1
  exact h1
def PT (k : Nat) : Prop := k = 129
def AT (a : Nat) : Prop := a = 3
def app (T : Nat → Nat) (k v : Nat) : Nat → Nat := fun i => if i = k then v else T i
theorem Tape_add_ok {n : Nat} {x : Int32} {σ : Mm} {T : Nat → Nat} {len : Nat} (hp : PtT σ) (h : TapeC T len σ) (hl : len < 65536) : Ok (F_Tape_add n 2 x σ) (fun σ' => TapeC (app T len (lob x)) (len + 1) σ' ∧ Fr PT AT σ σ') := by
  obtain ⟨h1, h2, h3, h4⟩ := h
  obtain ⟨p1, p2⟩ := hp
  unfold F_Tape_add
  simp (disch := omega) only [kf_let, kf_j, Option.bind_some, gS_pS, gS_pJ, gS_pR, gS_pB, gS_pK, gJ_pS, gJ_pR, gJ_pB, gJ_pK, gR_pS, gR_pJ, gR_pB, gR_pK, gB_pS, gB_pJ, gB_pR, gB_pK, gK_pS, gK_pJ, gK_pR, gK_pB, Nat.reduceMul, Nat.reduceAdd, Nat.reduceEqDiff, if_true, if_false, reduceIte, N_lit, N_ofInt, N_ofNat, N_add, N_mul, gS_eq, gS_ne, gB_eq, gB_ne, gJ_eq, gJ_ne, gR_eq, gR_ne, N_lt, N_le, N_inj, N_nat, ok_in, h1, p1, kd_3]
  rw [if_neg (by omega)]
  refine Ok.some ⟨⟨?_, by omega, ?_, ?_⟩, ?_⟩
  · simp (disch := omega) only [kf_let, kf_j, Option.bind_some, gS_pS, gS_pJ, gS_pR, gS_pB, gS_pK, gJ_pS, gJ_pR, gJ_pB, gJ_pK, gR_pS, gR_pJ, gR_pB, gR_pK, gB_pS, gB_pJ, gB_pR, gB_pK, gK_pS, gK_pJ, gK_pR, gK_pB, Nat.reduceMul, Nat.reduceAdd, Nat.reduceEqDiff, if_true, if_false, reduceIte, N_lit, N_ofInt, N_ofNat, N_add, N_mul, gS_eq, gS_ne, gB_eq, gB_ne, gJ_eq, gJ_ne, gR_eq, gR_ne, N_lt, N_le, N_inj, N_nat, ok_in, h1]
  · intro i; unfold app; split
    · exact lob_lt x
    · exact h3 i
  · intro i hi
    simp (disch := omega) only [kf_let, kf_j, Option.bind_some, gS_pS, gS_pJ, gS_pR, gS_pB, gS_pK, gJ_pS, gJ_pR, gJ_pB, gJ_pK, gR_pS, gR_pJ, gR_pB, gR_pK, gB_pS, gB_pJ, gB_pR, gB_pK, gK_pS, gK_pJ, gK_pR, gK_pB, Nat.reduceMul, Nat.reduceAdd, Nat.reduceEqDiff, if_true, if_false, reduceIte, N_lit, N_ofInt, N_ofNat, N_add, N_mul, gS_eq, gS_ne, gB_eq, gB_ne, gJ_eq, gJ_ne, gR_eq, gR_ne, N_lt, N_le, N_inj, N_nat, ok_in]
    unfold upd app
    split
    · exact lob_N x
    · exact h4 i (by omega)
  · exact (Fr.wS (Fr.wB Fr.rfl rfl _ _) rfl _)
