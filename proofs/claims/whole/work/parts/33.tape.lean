/-! THE TAPE of the class and of the reference -/
def TapeC (T : Nat → Nat) (len : Nat) (σ : Mm) : Prop := gS σ 129 = N len ∧ len ≤ 65536 ∧ (∀ i, T i < 256) ∧ ∀ i, i < len → gB σ 3 i = N (T i)
/-- the lowest byte of an int -/
def lob (x : Int32) : Nat := (x &&& 255).toNatClampNeg
theorem lob_N (x : Int32) : x &&& 255 = N (lob x) := by
  obtain ⟨k, hk, e⟩ := N_of (x := x &&& 255) (by
    apply Int32.le_iff_toInt_le.mpr
    have : (x &&& 255).toBitVec.msb = false := by simp; intro _; decide
    rw [← Int32.toInt_toBitVec, ← Int32.toInt_toBitVec, BitVec.toInt_eq_toNat_of_msb this]
    simp)
  unfold lob
  rw [e, N_nat hk]
theorem lob_lt (x : Int32) : lob x < 256 := by
  have h := lob_N x
  have h1 : (x &&& 255).toBitVec.toNat < 256 := by
    rw [Int32.toBitVec_and, BitVec.toNat_and]
    exact Nat.lt_of_le_of_lt Nat.and_le_right (by decide)
  have h2 : (N (lob x)).toBitVec.toNat = lob x := by
    show (BitVec.ofNat 32 (lob x)).toNat = _
    rw [BitVec.toNat_ofNat]
    exact Nat.mod_eq_of_lt (Nat.lt_of_lt_of_le (Int32.toNatClampNeg_lt _) (by decide))
  rw [h, h2] at h1
  exact h1
abbrev PT (k : Nat) : Prop := k = 129
abbrev AT (a : Nat) : Prop := a = 3
def app (T : Nat → Nat) (k v : Nat) : Nat → Nat := fun i => if i = k then v else T i
theorem Tape_add_ok {n : Nat} {x : Int32} {σ : Mm} {T : Nat → Nat} {len : Nat} (hp : PtC σ) (h : TapeC T len σ) (hl : len < 65536) : Ok (F_Tape_add n 2 x σ) (fun σ' => TapeC (app T len (lob x)) (len + 1) σ' ∧ Fr PT AT σ σ') := by
  obtain ⟨h1, h2, h3, h4⟩ := h
  have p1 := hp.Tape_bytes
  unfold F_Tape_add
  repeat (first | (with_reducible refine s_let ?_; intro x9 hx9; (try simp (disch := omega) only [bG, Option.bind_some, Nat.reduceMul, Nat.reduceAdd, Nat.reduceEqDiff, Nat.reduceSub, Nat.reduceDiv, Nat.reduceLeDiff, bQ, bU, *] at hx9); subst hx9) | (with_reducible refine s_R2 ?_ ?_; (focus (simp (disch := omega) only [bG, Option.bind_some, Nat.reduceMul, Nat.reduceAdd, Nat.reduceEqDiff, Nat.reduceSub, Nat.reduceDiv, Nat.reduceLeDiff, bQ, *, Option.isSome_some]; done)); (intro o9 ho9; simp (disch := omega) only [bG, Option.bind_some, Nat.reduceMul, Nat.reduceAdd, Nat.reduceEqDiff, Nat.reduceSub, Nat.reduceDiv, Nat.reduceLeDiff, bQ, *, Option.some.injEq] at ho9; subst ho9)) | (with_reducible refine s_in2 ?_ ?_; (focus first | (simp (disch := omega) only [bG, Option.bind_some, Nat.reduceMul, Nat.reduceAdd, Nat.reduceEqDiff, Nat.reduceSub, Nat.reduceDiv, Nat.reduceLeDiff, bQ, *, bK]; omega) | (simp (disch := omega) only [bG, Option.bind_some, Nat.reduceMul, Nat.reduceAdd, Nat.reduceEqDiff, Nat.reduceSub, Nat.reduceDiv, Nat.reduceLeDiff, bQ, *, bK, or_false, false_or, Nat.lt_irrefl, or_self, Nat.not_lt_zero]; done) | decide)) | (with_reducible refine s_nz ?_ ?_; (focus first | decide | assumption)) | (with_reducible refine s_nzl ?_ ?_; (focus decide)) | (with_reducible refine s_z ?_ ?_; (focus first | exact Or.inl rfl | exact Or.inr rfl | assumption)))
  refine s_j (fun k hk => ?_)
  repeat (first | (with_reducible refine s_let ?_; intro x9 hx9; (try simp (disch := omega) only [bG, Option.bind_some, Nat.reduceMul, Nat.reduceAdd, Nat.reduceEqDiff, Nat.reduceSub, Nat.reduceDiv, Nat.reduceLeDiff, bQ, bU, *] at hx9); subst hx9) | (with_reducible refine s_R2 ?_ ?_; (focus (simp (disch := omega) only [bG, Option.bind_some, Nat.reduceMul, Nat.reduceAdd, Nat.reduceEqDiff, Nat.reduceSub, Nat.reduceDiv, Nat.reduceLeDiff, bQ, *, Option.isSome_some]; done)); (intro o9 ho9; simp (disch := omega) only [bG, Option.bind_some, Nat.reduceMul, Nat.reduceAdd, Nat.reduceEqDiff, Nat.reduceSub, Nat.reduceDiv, Nat.reduceLeDiff, bQ, *, Option.some.injEq] at ho9; subst ho9)) | (with_reducible refine s_in2 ?_ ?_; (focus first | (simp (disch := omega) only [bG, Option.bind_some, Nat.reduceMul, Nat.reduceAdd, Nat.reduceEqDiff, Nat.reduceSub, Nat.reduceDiv, Nat.reduceLeDiff, bQ, *, bK]; omega) | (simp (disch := omega) only [bG, Option.bind_some, Nat.reduceMul, Nat.reduceAdd, Nat.reduceEqDiff, Nat.reduceSub, Nat.reduceDiv, Nat.reduceLeDiff, bQ, *, bK, or_false, false_or, Nat.lt_irrefl, or_self, Nat.not_lt_zero]; done) | decide)) | (with_reducible refine s_nz ?_ ?_; (focus first | decide | assumption)) | (with_reducible refine s_nzl ?_ ?_; (focus decide)) | (with_reducible refine s_z ?_ ?_; (focus first | exact Or.inl rfl | exact Or.inr rfl | assumption)) | (first | (with_reducible refine s_pos ?_ ?_; (focus first | (simp (disch := omega) only [bG, Option.bind_some, Nat.reduceMul, Nat.reduceAdd, Nat.reduceEqDiff, Nat.reduceSub, Nat.reduceDiv, Nat.reduceLeDiff, bQ, bU, *]; done) | (simp (disch := omega) only [bG, Option.bind_some, Nat.reduceMul, Nat.reduceAdd, Nat.reduceEqDiff, Nat.reduceSub, Nat.reduceDiv, Nat.reduceLeDiff, bQ, bU, *]; omega) | omega)) | (with_reducible refine s_neg ?_ ?_; (focus first | (simp (disch := omega) only [bG, Option.bind_some, Nat.reduceMul, Nat.reduceAdd, Nat.reduceEqDiff, Nat.reduceSub, Nat.reduceDiv, Nat.reduceLeDiff, bQ, bU, *]; done) | (simp (disch := omega) only [bG, Option.bind_some, Nat.reduceMul, Nat.reduceAdd, Nat.reduceEqDiff, Nat.reduceSub, Nat.reduceDiv, Nat.reduceLeDiff, bQ, bU, *]; omega) | omega))))
  subst hk
  refine Ok.some ⟨⟨?_, by omega, ?_, ?_⟩, ?_⟩
  · simp (disch := omega) only [bG, Option.bind_some, Nat.reduceMul, Nat.reduceAdd, Nat.reduceEqDiff, Nat.reduceSub, Nat.reduceDiv, Nat.reduceLeDiff, bQ, h1]
  · intro i; unfold app; split
    · exact lob_lt x
    · exact h3 i
  · intro i hi
    simp (disch := omega) only [bG, Option.bind_some, Nat.reduceMul, Nat.reduceAdd, Nat.reduceEqDiff, Nat.reduceSub, Nat.reduceDiv, Nat.reduceLeDiff, bQ]
    unfold upd app
    split
    · exact lob_N x
    · exact h4 i (by omega)
  · refine Fr.wS (Fr.wB Fr.rfl ?_ _ _) ?_ _ <;> rfl
theorem shr_shr (x : Int32) : lob ((x >>> (16 &&& 31)) >>> (8 &&& 31)) = lob (x >>> (24 &&& 31)) := by
  unfold lob
  congr 1
  apply Int32.toBitVec_inj.1
  rw [Int32.toBitVec_and, Int32.toBitVec_and]
  have e : ∀ (y : Int32) (k : Nat) (z : Int32), z.toBitVec.smod 32 = BitVec.ofNat 32 k → k < 32 → (y >>> z).toBitVec = y.toBitVec.sshiftRight k := fun y k z h hk => by
    show y.toBitVec.sshiftRight' (z.toBitVec.smod 32) = _
    rw [h]
    show y.toBitVec.sshiftRight (BitVec.ofNat 32 k).toNat = _
    rw [BitVec.toNat_ofNat, Nat.mod_eq_of_lt (by omega)]
  rw [e _ 8 _ (by decide) (by decide), e _ 16 _ (by decide) (by decide), e _ 24 _ (by decide) (by decide)]
  congr 1
  rw [← BitVec.sshiftRight_add]
/-- four bytes of a number -/
def nb (x : Int32) (j : Nat) : Nat := if j = 0 then lob (x >>> (24 &&& 31)) else if j = 1 then lob (x >>> (16 &&& 31)) else if j = 2 then lob (x >>> (8 &&& 31)) else lob x
def addN (T : Nat → Nat) (len : Nat) (x : Int32) : Nat → Nat := app (app (app (app T len (nb x 0)) (len + 1) (nb x 1)) (len + 2) (nb x 2)) (len + 3) (nb x 3)
theorem PT_C (k : Nat) (h : PT k) : PCs k := by unfold PT at h; subst h; unfold PCs; decide
theorem Tape_addPair_ok {n : Nat} {x : Int32} {σ : Mm} {T : Nat → Nat} {len : Nat} (hp : PtC σ) (h : TapeC T len σ) (hl : len + 1 < 65536) : Ok (F_Tape_addPair n 2 x σ) (fun σ' => TapeC (app (app T len (lob (x >>> (8 &&& 31)))) (len + 1) (lob x)) (len + 2) σ' ∧ Fr PT AT σ σ') := by
  unfold F_Tape_addPair
  refine (Tape_add_ok hp h (by omega)).bind (fun σ1 h1 => ?_)
  refine (Tape_add_ok (hp.fr h1.2 PT_C) h1.1 (by omega)).bind (fun σ2 h2 => ?_)
  exact Ok.some ⟨h2.1, h1.2.trans h2.2⟩
theorem Tape_addNumber_ok {n : Nat} {x : Int32} {σ : Mm} {T : Nat → Nat} {len : Nat} (hp : PtC σ) (h : TapeC T len σ) (hl : len + 3 < 65536) : Ok (F_Tape_addNumber n 2 x σ) (fun σ' => TapeC (addN T len x) (len + 4) σ' ∧ Fr PT AT σ σ') := by
  unfold F_Tape_addNumber
  refine (Tape_addPair_ok hp h (by omega)).bind (fun σ1 h1 => ?_)
  refine (Tape_addPair_ok (hp.fr h1.2 PT_C) h1.1 (by omega)).bind (fun σ2 h2 => ?_)
  refine Ok.some ⟨?_, h1.2.trans h2.2⟩
  have := h2.1
  rw [shr_shr] at this
  exact this
theorem PF_feed_ok {n : Nat} {a b c d e : Int32} {σ : Mm} {T : Nat → Nat} {len : Nat} (hp : PtC σ) (h : TapeC T len σ) : Ok (F_PF_feed n 1 a b c d e σ) (fun x => if len + 20 ≤ 65536 then x.1 = .inl (N (len + 20)) ∧ TapeC (addN (addN (addN (addN (addN T len a) (len + 4) b) (len + 8) c) (len + 12) d) (len + 16) e) (len + 20) x.2 ∧ Fr PT AT σ x.2 else x = (.inr "java/lang/UnsupportedOperationException", σ)) := by
  have q1 := hp.PF_tape
  unfold F_PF_feed
  have h2 := h.2.1
  have h1 := h.1
  by_cases hl : len + 20 ≤ 65536
  · repeat (first | (with_reducible refine s_let ?_; intro x9 hx9; (try simp (disch := omega) only [bG, Option.bind_some, Nat.reduceMul, Nat.reduceAdd, Nat.reduceEqDiff, Nat.reduceSub, Nat.reduceDiv, Nat.reduceLeDiff, bQ, bU, *] at hx9); subst hx9) | (with_reducible refine s_R2 ?_ ?_; (focus (simp (disch := omega) only [bG, Option.bind_some, Nat.reduceMul, Nat.reduceAdd, Nat.reduceEqDiff, Nat.reduceSub, Nat.reduceDiv, Nat.reduceLeDiff, bQ, *, Option.isSome_some]; done)); (intro o9 ho9; simp (disch := omega) only [bG, Option.bind_some, Nat.reduceMul, Nat.reduceAdd, Nat.reduceEqDiff, Nat.reduceSub, Nat.reduceDiv, Nat.reduceLeDiff, bQ, *, Option.some.injEq] at ho9; subst ho9)) | (with_reducible refine s_in2 ?_ ?_; (focus first | (simp (disch := omega) only [bG, Option.bind_some, Nat.reduceMul, Nat.reduceAdd, Nat.reduceEqDiff, Nat.reduceSub, Nat.reduceDiv, Nat.reduceLeDiff, bQ, *, bK]; omega) | (simp (disch := omega) only [bG, Option.bind_some, Nat.reduceMul, Nat.reduceAdd, Nat.reduceEqDiff, Nat.reduceSub, Nat.reduceDiv, Nat.reduceLeDiff, bQ, *, bK, or_false, false_or, Nat.lt_irrefl, or_self, Nat.not_lt_zero]; done) | decide)) | (with_reducible refine s_nz ?_ ?_; (focus first | decide | assumption)) | (with_reducible refine s_nzl ?_ ?_; (focus decide)) | (with_reducible refine s_z ?_ ?_; (focus first | exact Or.inl rfl | exact Or.inr rfl | assumption)) | (first | (with_reducible refine s_pos ?_ ?_; (focus first | (simp (disch := omega) only [bG, Option.bind_some, Nat.reduceMul, Nat.reduceAdd, Nat.reduceEqDiff, Nat.reduceSub, Nat.reduceDiv, Nat.reduceLeDiff, bQ, bU, *]; done) | (simp (disch := omega) only [bG, Option.bind_some, Nat.reduceMul, Nat.reduceAdd, Nat.reduceEqDiff, Nat.reduceSub, Nat.reduceDiv, Nat.reduceLeDiff, bQ, bU, *]; omega) | omega)) | (with_reducible refine s_neg ?_ ?_; (focus first | (simp (disch := omega) only [bG, Option.bind_some, Nat.reduceMul, Nat.reduceAdd, Nat.reduceEqDiff, Nat.reduceSub, Nat.reduceDiv, Nat.reduceLeDiff, bQ, bU, *]; done) | (simp (disch := omega) only [bG, Option.bind_some, Nat.reduceMul, Nat.reduceAdd, Nat.reduceEqDiff, Nat.reduceSub, Nat.reduceDiv, Nat.reduceLeDiff, bQ, bU, *]; omega) | omega))))
    have hr : ∀ {σ'}, Fr PT AT σ σ' → gR σ' 64 = some 2 := fun hF => (hp.fr hF PT_C).PF_tape
    refine (Tape_addNumber_ok hp h (by omega)).bind (fun σ1 h1 => ?_)
    simp only [hr h1.2, Option.bind_some]
    refine (Tape_addNumber_ok (hp.fr h1.2 PT_C) h1.1 (by omega)).bind (fun σ2 h2 => ?_)
    have f2 := h1.2.trans h2.2
    simp only [hr f2, Option.bind_some]
    refine (Tape_addNumber_ok (hp.fr f2 PT_C) h2.1 (by omega)).bind (fun σ3 h3 => ?_)
    have f3 := f2.trans h3.2
    simp only [hr f3, Option.bind_some]
    refine (Tape_addNumber_ok (hp.fr f3 PT_C) h3.1 (by omega)).bind (fun σ4 h4 => ?_)
    have f4 := f3.trans h4.2
    simp only [hr f4, Option.bind_some]
    refine (Tape_addNumber_ok (hp.fr f4 PT_C) h4.1 (by omega)).bind (fun σ5 h5 => ?_)
    have f5 := f4.trans h5.2
    simp only [hr f5, Option.bind_some]
    refine Ok.some ?_
    rw [if_pos hl]
    exact ⟨by rw [h5.1.1], h5.1, f5⟩
  · repeat (first | (with_reducible refine s_let ?_; intro x9 hx9; (try simp (disch := omega) only [bG, Option.bind_some, Nat.reduceMul, Nat.reduceAdd, Nat.reduceEqDiff, Nat.reduceSub, Nat.reduceDiv, Nat.reduceLeDiff, bQ, bU, *] at hx9); subst hx9) | (with_reducible refine s_R2 ?_ ?_; (focus (simp (disch := omega) only [bG, Option.bind_some, Nat.reduceMul, Nat.reduceAdd, Nat.reduceEqDiff, Nat.reduceSub, Nat.reduceDiv, Nat.reduceLeDiff, bQ, *, Option.isSome_some]; done)); (intro o9 ho9; simp (disch := omega) only [bG, Option.bind_some, Nat.reduceMul, Nat.reduceAdd, Nat.reduceEqDiff, Nat.reduceSub, Nat.reduceDiv, Nat.reduceLeDiff, bQ, *, Option.some.injEq] at ho9; subst ho9)) | (with_reducible refine s_in2 ?_ ?_; (focus first | (simp (disch := omega) only [bG, Option.bind_some, Nat.reduceMul, Nat.reduceAdd, Nat.reduceEqDiff, Nat.reduceSub, Nat.reduceDiv, Nat.reduceLeDiff, bQ, *, bK]; omega) | (simp (disch := omega) only [bG, Option.bind_some, Nat.reduceMul, Nat.reduceAdd, Nat.reduceEqDiff, Nat.reduceSub, Nat.reduceDiv, Nat.reduceLeDiff, bQ, *, bK, or_false, false_or, Nat.lt_irrefl, or_self, Nat.not_lt_zero]; done) | decide)) | (with_reducible refine s_nz ?_ ?_; (focus first | decide | assumption)) | (with_reducible refine s_nzl ?_ ?_; (focus decide)) | (with_reducible refine s_z ?_ ?_; (focus first | exact Or.inl rfl | exact Or.inr rfl | assumption)) | (first | (with_reducible refine s_pos ?_ ?_; (focus first | (simp (disch := omega) only [bG, Option.bind_some, Nat.reduceMul, Nat.reduceAdd, Nat.reduceEqDiff, Nat.reduceSub, Nat.reduceDiv, Nat.reduceLeDiff, bQ, bU, *]; done) | (simp (disch := omega) only [bG, Option.bind_some, Nat.reduceMul, Nat.reduceAdd, Nat.reduceEqDiff, Nat.reduceSub, Nat.reduceDiv, Nat.reduceLeDiff, bQ, bU, *]; omega) | omega)) | (with_reducible refine s_neg ?_ ?_; (focus first | (simp (disch := omega) only [bG, Option.bind_some, Nat.reduceMul, Nat.reduceAdd, Nat.reduceEqDiff, Nat.reduceSub, Nat.reduceDiv, Nat.reduceLeDiff, bQ, bU, *]; done) | (simp (disch := omega) only [bG, Option.bind_some, Nat.reduceMul, Nat.reduceAdd, Nat.reduceEqDiff, Nat.reduceSub, Nat.reduceDiv, Nat.reduceLeDiff, bQ, bU, *]; omega) | omega))))
    refine Ok.some ?_
    rw [if_neg hl]
theorem addN_lt {T : Nat → Nat} (h : ∀ i, T i < 256) (len : Nat) (x : Int32) : ∀ i, addN T len x i < 256 := by
  intro i
  unfold addN app nb
  repeat' split
  all_goals first | exact lob_lt _ | exact h i
/-- the reference's tape -/
def TapeM (T : Nat → Nat) (len : Nat) (σ : Mm) : Prop := gS σ 4034 = N len ∧ ∀ i, i < len → gB σ 64 i &&& N 255 = N (T i)
theorem sb_and (x : Int32) : vp_nar .byte x.toInt8.toInt32 &&& N 255 = N (lob x) := by
  rw [← lob_N]
  apply Int32.toBitVec_inj.1
  show (((x.toBitVec.signExtend 8).signExtend 32).signExtend 8).signExtend 32 &&& 255#32 = x.toBitVec &&& 255#32
  ext i hi
  simp only [BitVec.getElem_and]
  by_cases h : i < 8
  · simp [BitVec.getElem_signExtend, h, BitVec.getLsbD_signExtend]
    rw [if_pos hi, dif_pos hi]
  · have : (255#32)[i] = false := by
      rw [BitVec.getElem_eq_testBit_toNat]
      apply Nat.testBit_lt_two_pow
      exact Nat.lt_of_lt_of_le (by decide : (255#32).toNat < 2 ^ 8) (Nat.pow_le_pow_right (by decide) (by omega))
    rw [this, Bool.and_false, Bool.and_false]
def feedT (T : Nat → Nat) (len : Nat) (a b c d e : Int32) : Nat → Nat := addN (addN (addN (addN (addN T len a) (len + 4) b) (len + 8) c) (len + 12) d) (len + 16) e
theorem feedT_lt {T : Nat → Nat} {len i : Nat} (a b c d e : Int32) (h : i < len) : feedT T len a b c d e i = T i := by
  unfold feedT addN app
  repeat rw [if_neg (by omega)]
theorem shr_0 (x : Int32) : x >>> (N 0 &&& N 31) = x := by
  apply Int32.toBitVec_inj.1
  show x.toBitVec.sshiftRight' ((N 0 &&& N 31).toBitVec.smod 32) = _
  rw [show (N 0 &&& N 31).toBitVec.smod 32 = 0#32 by decide]
  show x.toBitVec.sshiftRight 0 = _
  simp
abbrev PMf (k : Nat) : Prop := k = 4032 ∨ k = 4034
abbrev AMf (a : Nat) : Prop := a = 64
theorem PMf_M (k : Nat) (h : PMf k) : PMs k := by unfold PMf at h; rcases h with h | h <;> subst h <;> (unfold PMs; decide)
theorem Md_feed_ok {n : Nat} (hn : 100 ≤ n) {a b c d e : Int32} {σ : Mm} {T : Nat → Nat} {len : Nat} (hp : PtM σ) (h : TapeM T len σ) (hl : len ≤ 65536) : Ok (F_Md_feed n 63 a b c d e σ) (fun x => if len + 20 ≤ 65536 then x.1 = N (len + 20) ∧ gS x.2 4032 = 0 ∧ TapeM (feedT T len a b c d e) (len + 20) x.2 ∧ Fr PMf AMf σ x.2 else gS x.2 4032 = 1 ∧ TapeM T len x.2 ∧ Fr PMf AMf σ x.2) := by
  have p1 := hp.tape
  obtain ⟨h1, h2⟩ := h
  unfold F_Md_feed
  refine s_j (fun k9 hk9 => ?_)
  by_cases hl2 : len + 20 ≤ 65536
  · repeat (first | (with_reducible refine s_let ?_; intro x9 hx9; (try simp (disch := omega) only [bG, Option.bind_some, Nat.reduceMul, Nat.reduceAdd, Nat.reduceEqDiff, Nat.reduceSub, Nat.reduceDiv, Nat.reduceLeDiff, bQ, bU, *] at hx9); subst hx9) | (with_reducible refine s_R2 ?_ ?_; (focus (simp (disch := omega) only [bG, Option.bind_some, Nat.reduceMul, Nat.reduceAdd, Nat.reduceEqDiff, Nat.reduceSub, Nat.reduceDiv, Nat.reduceLeDiff, bQ, *, Option.isSome_some]; done)); (intro o9 ho9; simp (disch := omega) only [bG, Option.bind_some, Nat.reduceMul, Nat.reduceAdd, Nat.reduceEqDiff, Nat.reduceSub, Nat.reduceDiv, Nat.reduceLeDiff, bQ, *, Option.some.injEq] at ho9; subst ho9)) | (with_reducible refine s_in2 ?_ ?_; (focus first | (simp (disch := omega) only [bG, Option.bind_some, Nat.reduceMul, Nat.reduceAdd, Nat.reduceEqDiff, Nat.reduceSub, Nat.reduceDiv, Nat.reduceLeDiff, bQ, *, bK]; omega) | (simp (disch := omega) only [bG, Option.bind_some, Nat.reduceMul, Nat.reduceAdd, Nat.reduceEqDiff, Nat.reduceSub, Nat.reduceDiv, Nat.reduceLeDiff, bQ, *, bK, or_false, false_or, Nat.lt_irrefl, or_self, Nat.not_lt_zero]; done) | decide)) | (with_reducible refine s_nz ?_ ?_; (focus first | decide | assumption)) | (with_reducible refine s_nzl ?_ ?_; (focus decide)) | (with_reducible refine s_z ?_ ?_; (focus first | exact Or.inl rfl | exact Or.inr rfl | assumption)) | (first | (with_reducible refine s_pos ?_ ?_; (focus first | (simp (disch := omega) only [bG, Option.bind_some, Nat.reduceMul, Nat.reduceAdd, Nat.reduceEqDiff, Nat.reduceSub, Nat.reduceDiv, Nat.reduceLeDiff, bQ, bU, *]; done) | (simp (disch := omega) only [bG, Option.bind_some, Nat.reduceMul, Nat.reduceAdd, Nat.reduceEqDiff, Nat.reduceSub, Nat.reduceDiv, Nat.reduceLeDiff, bQ, bU, *]; omega) | omega)) | (with_reducible refine s_neg ?_ ?_; (focus first | (simp (disch := omega) only [bG, Option.bind_some, Nat.reduceMul, Nat.reduceAdd, Nat.reduceEqDiff, Nat.reduceSub, Nat.reduceDiv, Nat.reduceLeDiff, bQ, bU, *]; done) | (simp (disch := omega) only [bG, Option.bind_some, Nat.reduceMul, Nat.reduceAdd, Nat.reduceEqDiff, Nat.reduceSub, Nat.reduceDiv, Nat.reduceLeDiff, bQ, bU, *]; omega) | omega))))
    subst hk9
    simp only [if_pos hl2]
    repeat (first | (with_reducible refine s_let ?_; intro x9 hx9; (try simp (disch := omega) only [bG, Option.bind_some, Nat.reduceMul, Nat.reduceAdd, Nat.reduceEqDiff, Nat.reduceSub, Nat.reduceDiv, Nat.reduceLeDiff, bQ, bU, *] at hx9); subst hx9) | (with_reducible refine s_R2 ?_ ?_; (focus (simp (disch := omega) only [bG, Option.bind_some, Nat.reduceMul, Nat.reduceAdd, Nat.reduceEqDiff, Nat.reduceSub, Nat.reduceDiv, Nat.reduceLeDiff, bQ, *, Option.isSome_some]; done)); (intro o9 ho9; simp (disch := omega) only [bG, Option.bind_some, Nat.reduceMul, Nat.reduceAdd, Nat.reduceEqDiff, Nat.reduceSub, Nat.reduceDiv, Nat.reduceLeDiff, bQ, *, Option.some.injEq] at ho9; subst ho9)) | (with_reducible refine s_in2 ?_ ?_; (focus first | (simp (disch := omega) only [bG, Option.bind_some, Nat.reduceMul, Nat.reduceAdd, Nat.reduceEqDiff, Nat.reduceSub, Nat.reduceDiv, Nat.reduceLeDiff, bQ, *, bK]; omega) | (simp (disch := omega) only [bG, Option.bind_some, Nat.reduceMul, Nat.reduceAdd, Nat.reduceEqDiff, Nat.reduceSub, Nat.reduceDiv, Nat.reduceLeDiff, bQ, *, bK, or_false, false_or, Nat.lt_irrefl, or_self, Nat.not_lt_zero]; done) | decide)) | (with_reducible refine s_nz ?_ ?_; (focus first | decide | assumption)) | (with_reducible refine s_nzl ?_ ?_; (focus decide)) | (with_reducible refine s_z ?_ ?_; (focus first | exact Or.inl rfl | exact Or.inr rfl | assumption)) | (first | (with_reducible refine s_pos ?_ ?_; (focus first | (simp (disch := omega) only [bG, Option.bind_some, Nat.reduceMul, Nat.reduceAdd, Nat.reduceEqDiff, Nat.reduceSub, Nat.reduceDiv, Nat.reduceLeDiff, bQ, bU, *]; done) | (simp (disch := omega) only [bG, Option.bind_some, Nat.reduceMul, Nat.reduceAdd, Nat.reduceEqDiff, Nat.reduceSub, Nat.reduceDiv, Nat.reduceLeDiff, bQ, bU, *]; omega) | omega)) | (with_reducible refine s_neg ?_ ?_; (focus first | (simp (disch := omega) only [bG, Option.bind_some, Nat.reduceMul, Nat.reduceAdd, Nat.reduceEqDiff, Nat.reduceSub, Nat.reduceDiv, Nat.reduceLeDiff, bQ, bU, *]; done) | (simp (disch := omega) only [bG, Option.bind_some, Nat.reduceMul, Nat.reduceAdd, Nat.reduceEqDiff, Nat.reduceSub, Nat.reduceDiv, Nat.reduceLeDiff, bQ, bU, *]; omega) | omega))))
    refine ok_l (fun m x σ' => ∃ k, m = 20 - k ∧ k ≤ 20 ∧ x = N k ∧ gR σ' 4033 = some 64 ∧ gS σ' 4034 = N (len + k) ∧ gS σ' 4032 = N 0 ∧ (∀ i, i < len + k → gB σ' 64 i &&& N 255 = N (feedT T len a b c d e i)) ∧ Fr PMf AMf σ σ') ?_ n 20 _ _ (by omega) ⟨0, rfl, by omega, rfl, ?_, ?_, ?_, ?_, ?_⟩
    · intro m k9 x σ' hI ih
      obtain ⟨k, rfl, hk, rfl, g1, g2, g3, g4, g5⟩ := hI
      by_cases hk2 : k = 20
      · subst hk2
        repeat (first | (with_reducible refine s_let ?_; intro x9 hx9; (try simp (disch := omega) only [bG, Option.bind_some, Nat.reduceMul, Nat.reduceAdd, Nat.reduceEqDiff, Nat.reduceSub, Nat.reduceDiv, Nat.reduceLeDiff, bQ, bU, *] at hx9); subst hx9) | (with_reducible refine s_R2 ?_ ?_; (focus (simp (disch := omega) only [bG, Option.bind_some, Nat.reduceMul, Nat.reduceAdd, Nat.reduceEqDiff, Nat.reduceSub, Nat.reduceDiv, Nat.reduceLeDiff, bQ, *, Option.isSome_some]; done)); (intro o9 ho9; simp (disch := omega) only [bG, Option.bind_some, Nat.reduceMul, Nat.reduceAdd, Nat.reduceEqDiff, Nat.reduceSub, Nat.reduceDiv, Nat.reduceLeDiff, bQ, *, Option.some.injEq] at ho9; subst ho9)) | (with_reducible refine s_in2 ?_ ?_; (focus first | (simp (disch := omega) only [bG, Option.bind_some, Nat.reduceMul, Nat.reduceAdd, Nat.reduceEqDiff, Nat.reduceSub, Nat.reduceDiv, Nat.reduceLeDiff, bQ, *, bK]; omega) | (simp (disch := omega) only [bG, Option.bind_some, Nat.reduceMul, Nat.reduceAdd, Nat.reduceEqDiff, Nat.reduceSub, Nat.reduceDiv, Nat.reduceLeDiff, bQ, *, bK, or_false, false_or, Nat.lt_irrefl, or_self, Nat.not_lt_zero]; done) | decide)) | (with_reducible refine s_nz ?_ ?_; (focus first | decide | assumption)) | (with_reducible refine s_nzl ?_ ?_; (focus decide)) | (with_reducible refine s_z ?_ ?_; (focus first | exact Or.inl rfl | exact Or.inr rfl | assumption)) | (first | (with_reducible refine s_pos ?_ ?_; (focus first | (simp (disch := omega) only [bG, Option.bind_some, Nat.reduceMul, Nat.reduceAdd, Nat.reduceEqDiff, Nat.reduceSub, Nat.reduceDiv, Nat.reduceLeDiff, bQ, bU, *]; done) | (simp (disch := omega) only [bG, Option.bind_some, Nat.reduceMul, Nat.reduceAdd, Nat.reduceEqDiff, Nat.reduceSub, Nat.reduceDiv, Nat.reduceLeDiff, bQ, bU, *]; omega) | omega)) | (with_reducible refine s_neg ?_ ?_; (focus first | (simp (disch := omega) only [bG, Option.bind_some, Nat.reduceMul, Nat.reduceAdd, Nat.reduceEqDiff, Nat.reduceSub, Nat.reduceDiv, Nat.reduceLeDiff, bQ, bU, *]; done) | (simp (disch := omega) only [bG, Option.bind_some, Nat.reduceMul, Nat.reduceAdd, Nat.reduceEqDiff, Nat.reduceSub, Nat.reduceDiv, Nat.reduceLeDiff, bQ, bU, *]; omega) | omega))))
        exact Ok.some ⟨g2, g3, ⟨g2, g4⟩, g5⟩
      · have key : ∀ (v : Int32), lob v = feedT T len a b c d e (len + k) → Ok (k9 (N (k + 1)) (pS (pB σ' 64 (len + k) (vp_nar .byte v.toInt8.toInt32)) 4034 (N (len + k + 1)))) (fun x => x.1 = N (len + 20) ∧ gS x.2 4032 = 0 ∧ TapeM (feedT T len a b c d e) (len + 20) x.2 ∧ Fr PMf AMf σ x.2) := by
          intro v hv
          refine ih (20 - (k + 1)) _ _ (by omega) ⟨k + 1, rfl, by omega, rfl, ?_, ?_, ?_, ?_, ?_⟩
          · simp only [bG, Option.bind_some, Nat.reduceMul, Nat.reduceAdd, Nat.reduceEqDiff, Nat.reduceSub, Nat.reduceDiv, Nat.reduceLeDiff, g1]
          · simp (disch := omega) only [bG, Option.bind_some, Nat.reduceMul, Nat.reduceAdd, Nat.reduceEqDiff, Nat.reduceSub, Nat.reduceDiv, Nat.reduceLeDiff, bQ]; rfl
          · simp (disch := omega) only [bG, Option.bind_some, Nat.reduceMul, Nat.reduceAdd, Nat.reduceEqDiff, Nat.reduceSub, Nat.reduceDiv, Nat.reduceLeDiff, bQ, g3]
          · intro i hi
            simp (disch := omega) only [bG, Option.bind_some, Nat.reduceMul, Nat.reduceAdd, Nat.reduceEqDiff, Nat.reduceSub, Nat.reduceDiv, Nat.reduceLeDiff, bQ]
            unfold upd
            split
            · next h9 => rw [h9, ← hv]; exact sb_and v
            · exact g4 i (by omega)
          · refine Fr.wS (Fr.wB g5 ?_ _ _) ?_ _
            · rfl
            · exact Or.inr rfl
        refine s_neg (by first | (simp (disch := omega) only [bG, Option.bind_some, Nat.reduceMul, Nat.reduceAdd, Nat.reduceEqDiff, Nat.reduceSub, Nat.reduceDiv, Nat.reduceLeDiff, bQ, bU, *]; done) | (simp (disch := omega) only [bG, Option.bind_some, Nat.reduceMul, Nat.reduceAdd, Nat.reduceEqDiff, Nat.reduceSub, Nat.reduceDiv, Nat.reduceLeDiff, bQ, bU, *]; omega) | omega) ?_
        refine s_j (fun k8 hk8 => ?_)
        rcases (show k = 0 ∨ k = 1 ∨ k = 2 ∨ k = 3 ∨ k = 4 ∨ k = 5 ∨ k = 6 ∨ k = 7 ∨ k = 8 ∨ k = 9 ∨ k = 10 ∨ k = 11 ∨ k = 12 ∨ k = 13 ∨ k = 14 ∨ k = 15 ∨ k = 16 ∨ k = 17 ∨ k = 18 ∨ k = 19 by omega) with rfl | rfl | rfl | rfl | rfl | rfl | rfl | rfl | rfl | rfl | rfl | rfl | rfl | rfl | rfl | rfl | rfl | rfl | rfl | rfl
        all_goals
          repeat (first | (with_reducible refine s_let ?_; intro x9 hx9; (try simp (disch := omega) only [bG, Option.bind_some, Nat.reduceMul, Nat.reduceAdd, Nat.reduceEqDiff, Nat.reduceSub, Nat.reduceDiv, Nat.reduceLeDiff, bQ, bU, *] at hx9); subst hx9) | (with_reducible refine s_R2 ?_ ?_; (focus (simp (disch := omega) only [bG, Option.bind_some, Nat.reduceMul, Nat.reduceAdd, Nat.reduceEqDiff, Nat.reduceSub, Nat.reduceDiv, Nat.reduceLeDiff, bQ, *, Option.isSome_some]; done)); (intro o9 ho9; simp (disch := omega) only [bG, Option.bind_some, Nat.reduceMul, Nat.reduceAdd, Nat.reduceEqDiff, Nat.reduceSub, Nat.reduceDiv, Nat.reduceLeDiff, bQ, *, Option.some.injEq] at ho9; subst ho9)) | (with_reducible refine s_in2 ?_ ?_; (focus first | (simp (disch := omega) only [bG, Option.bind_some, Nat.reduceMul, Nat.reduceAdd, Nat.reduceEqDiff, Nat.reduceSub, Nat.reduceDiv, Nat.reduceLeDiff, bQ, *, bK]; omega) | (simp (disch := omega) only [bG, Option.bind_some, Nat.reduceMul, Nat.reduceAdd, Nat.reduceEqDiff, Nat.reduceSub, Nat.reduceDiv, Nat.reduceLeDiff, bQ, *, bK, or_false, false_or, Nat.lt_irrefl, or_self, Nat.not_lt_zero]; done) | decide)) | (with_reducible refine s_nz ?_ ?_; (focus first | decide | assumption)) | (with_reducible refine s_nzl ?_ ?_; (focus decide)) | (with_reducible refine s_z ?_ ?_; (focus first | exact Or.inl rfl | exact Or.inr rfl | assumption)) | (first | (with_reducible refine s_pos ?_ ?_; (focus first | (simp (disch := omega) only [bG, Option.bind_some, Nat.reduceMul, Nat.reduceAdd, Nat.reduceEqDiff, Nat.reduceSub, Nat.reduceDiv, Nat.reduceLeDiff, bQ, bU, *]; done) | (simp (disch := omega) only [bG, Option.bind_some, Nat.reduceMul, Nat.reduceAdd, Nat.reduceEqDiff, Nat.reduceSub, Nat.reduceDiv, Nat.reduceLeDiff, bQ, bU, *]; omega) | omega)) | (with_reducible refine s_neg ?_ ?_; (focus first | (simp (disch := omega) only [bG, Option.bind_some, Nat.reduceMul, Nat.reduceAdd, Nat.reduceEqDiff, Nat.reduceSub, Nat.reduceDiv, Nat.reduceLeDiff, bQ, bU, *]; done) | (simp (disch := omega) only [bG, Option.bind_some, Nat.reduceMul, Nat.reduceAdd, Nat.reduceEqDiff, Nat.reduceSub, Nat.reduceDiv, Nat.reduceLeDiff, bQ, bU, *]; omega) | omega))))
          subst hk8
          repeat (first | (with_reducible refine s_let ?_; intro x9 hx9; (try simp (disch := omega) only [bG, Option.bind_some, Nat.reduceMul, Nat.reduceAdd, Nat.reduceEqDiff, Nat.reduceSub, Nat.reduceDiv, Nat.reduceLeDiff, bQ, bU, *] at hx9); subst hx9) | (with_reducible refine s_R2 ?_ ?_; (focus (simp (disch := omega) only [bG, Option.bind_some, Nat.reduceMul, Nat.reduceAdd, Nat.reduceEqDiff, Nat.reduceSub, Nat.reduceDiv, Nat.reduceLeDiff, bQ, *, Option.isSome_some]; done)); (intro o9 ho9; simp (disch := omega) only [bG, Option.bind_some, Nat.reduceMul, Nat.reduceAdd, Nat.reduceEqDiff, Nat.reduceSub, Nat.reduceDiv, Nat.reduceLeDiff, bQ, *, Option.some.injEq] at ho9; subst ho9)) | (with_reducible refine s_in2 ?_ ?_; (focus first | (simp (disch := omega) only [bG, Option.bind_some, Nat.reduceMul, Nat.reduceAdd, Nat.reduceEqDiff, Nat.reduceSub, Nat.reduceDiv, Nat.reduceLeDiff, bQ, *, bK]; omega) | (simp (disch := omega) only [bG, Option.bind_some, Nat.reduceMul, Nat.reduceAdd, Nat.reduceEqDiff, Nat.reduceSub, Nat.reduceDiv, Nat.reduceLeDiff, bQ, *, bK, or_false, false_or, Nat.lt_irrefl, or_self, Nat.not_lt_zero]; done) | decide)) | (with_reducible refine s_nz ?_ ?_; (focus first | decide | assumption)) | (with_reducible refine s_nzl ?_ ?_; (focus decide)) | (with_reducible refine s_z ?_ ?_; (focus first | exact Or.inl rfl | exact Or.inr rfl | assumption)) | (first | (with_reducible refine s_pos ?_ ?_; (focus first | (simp (disch := omega) only [bG, Option.bind_some, Nat.reduceMul, Nat.reduceAdd, Nat.reduceEqDiff, Nat.reduceSub, Nat.reduceDiv, Nat.reduceLeDiff, bQ, bU, *]; done) | (simp (disch := omega) only [bG, Option.bind_some, Nat.reduceMul, Nat.reduceAdd, Nat.reduceEqDiff, Nat.reduceSub, Nat.reduceDiv, Nat.reduceLeDiff, bQ, bU, *]; omega) | omega)) | (with_reducible refine s_neg ?_ ?_; (focus first | (simp (disch := omega) only [bG, Option.bind_some, Nat.reduceMul, Nat.reduceAdd, Nat.reduceEqDiff, Nat.reduceSub, Nat.reduceDiv, Nat.reduceLeDiff, bQ, bU, *]; done) | (simp (disch := omega) only [bG, Option.bind_some, Nat.reduceMul, Nat.reduceAdd, Nat.reduceEqDiff, Nat.reduceSub, Nat.reduceDiv, Nat.reduceLeDiff, bQ, bU, *]; omega) | omega))))
          refine key _ ?_
          unfold feedT addN app nb
          repeat (first | rw [if_neg (by omega)] | rw [if_pos (by omega)])
          first | rfl | (rw [shr_0])
    · simp (disch := omega) only [bG, Option.bind_some, Nat.reduceMul, Nat.reduceAdd, Nat.reduceEqDiff, Nat.reduceSub, Nat.reduceDiv, Nat.reduceLeDiff, bQ, bU, *]
    · simp (disch := omega) only [bG, Option.bind_some, Nat.reduceMul, Nat.reduceAdd, Nat.reduceEqDiff, Nat.reduceSub, Nat.reduceDiv, Nat.reduceLeDiff, bQ, bU, *]; rfl
    · simp (disch := omega) only [bG, Option.bind_some, Nat.reduceMul, Nat.reduceAdd, Nat.reduceEqDiff, Nat.reduceSub, Nat.reduceDiv, Nat.reduceLeDiff, bQ, bU, *]
    · intro i hi
      simp (disch := omega) only [bG, Option.bind_some, Nat.reduceMul, Nat.reduceAdd, Nat.reduceEqDiff, Nat.reduceSub, Nat.reduceDiv, Nat.reduceLeDiff, bQ, bU, *]
      rw [feedT_lt _ _ _ _ _ (by omega)]
    · refine Fr.wS Fr.rfl ?_ _
      exact Or.inl rfl
  · repeat (first | (with_reducible refine s_let ?_; intro x9 hx9; (try simp (disch := omega) only [bG, Option.bind_some, Nat.reduceMul, Nat.reduceAdd, Nat.reduceEqDiff, Nat.reduceSub, Nat.reduceDiv, Nat.reduceLeDiff, bQ, bU, *] at hx9); subst hx9) | (with_reducible refine s_R2 ?_ ?_; (focus (simp (disch := omega) only [bG, Option.bind_some, Nat.reduceMul, Nat.reduceAdd, Nat.reduceEqDiff, Nat.reduceSub, Nat.reduceDiv, Nat.reduceLeDiff, bQ, *, Option.isSome_some]; done)); (intro o9 ho9; simp (disch := omega) only [bG, Option.bind_some, Nat.reduceMul, Nat.reduceAdd, Nat.reduceEqDiff, Nat.reduceSub, Nat.reduceDiv, Nat.reduceLeDiff, bQ, *, Option.some.injEq] at ho9; subst ho9)) | (with_reducible refine s_in2 ?_ ?_; (focus first | (simp (disch := omega) only [bG, Option.bind_some, Nat.reduceMul, Nat.reduceAdd, Nat.reduceEqDiff, Nat.reduceSub, Nat.reduceDiv, Nat.reduceLeDiff, bQ, *, bK]; omega) | (simp (disch := omega) only [bG, Option.bind_some, Nat.reduceMul, Nat.reduceAdd, Nat.reduceEqDiff, Nat.reduceSub, Nat.reduceDiv, Nat.reduceLeDiff, bQ, *, bK, or_false, false_or, Nat.lt_irrefl, or_self, Nat.not_lt_zero]; done) | decide)) | (with_reducible refine s_nz ?_ ?_; (focus first | decide | assumption)) | (with_reducible refine s_nzl ?_ ?_; (focus decide)) | (with_reducible refine s_z ?_ ?_; (focus first | exact Or.inl rfl | exact Or.inr rfl | assumption)) | (first | (with_reducible refine s_pos ?_ ?_; (focus first | (simp (disch := omega) only [bG, Option.bind_some, Nat.reduceMul, Nat.reduceAdd, Nat.reduceEqDiff, Nat.reduceSub, Nat.reduceDiv, Nat.reduceLeDiff, bQ, bU, *]; done) | (simp (disch := omega) only [bG, Option.bind_some, Nat.reduceMul, Nat.reduceAdd, Nat.reduceEqDiff, Nat.reduceSub, Nat.reduceDiv, Nat.reduceLeDiff, bQ, bU, *]; omega) | omega)) | (with_reducible refine s_neg ?_ ?_; (focus first | (simp (disch := omega) only [bG, Option.bind_some, Nat.reduceMul, Nat.reduceAdd, Nat.reduceEqDiff, Nat.reduceSub, Nat.reduceDiv, Nat.reduceLeDiff, bQ, bU, *]; done) | (simp (disch := omega) only [bG, Option.bind_some, Nat.reduceMul, Nat.reduceAdd, Nat.reduceEqDiff, Nat.reduceSub, Nat.reduceDiv, Nat.reduceLeDiff, bQ, bU, *]; omega) | omega))))
    subst hk9
    simp only [if_neg hl2]
    repeat (first | (with_reducible refine s_let ?_; intro x9 hx9; (try simp (disch := omega) only [bG, Option.bind_some, Nat.reduceMul, Nat.reduceAdd, Nat.reduceEqDiff, Nat.reduceSub, Nat.reduceDiv, Nat.reduceLeDiff, bQ, bU, *] at hx9); subst hx9) | (with_reducible refine s_R2 ?_ ?_; (focus (simp (disch := omega) only [bG, Option.bind_some, Nat.reduceMul, Nat.reduceAdd, Nat.reduceEqDiff, Nat.reduceSub, Nat.reduceDiv, Nat.reduceLeDiff, bQ, *, Option.isSome_some]; done)); (intro o9 ho9; simp (disch := omega) only [bG, Option.bind_some, Nat.reduceMul, Nat.reduceAdd, Nat.reduceEqDiff, Nat.reduceSub, Nat.reduceDiv, Nat.reduceLeDiff, bQ, *, Option.some.injEq] at ho9; subst ho9)) | (with_reducible refine s_in2 ?_ ?_; (focus first | (simp (disch := omega) only [bG, Option.bind_some, Nat.reduceMul, Nat.reduceAdd, Nat.reduceEqDiff, Nat.reduceSub, Nat.reduceDiv, Nat.reduceLeDiff, bQ, *, bK]; omega) | (simp (disch := omega) only [bG, Option.bind_some, Nat.reduceMul, Nat.reduceAdd, Nat.reduceEqDiff, Nat.reduceSub, Nat.reduceDiv, Nat.reduceLeDiff, bQ, *, bK, or_false, false_or, Nat.lt_irrefl, or_self, Nat.not_lt_zero]; done) | decide)) | (with_reducible refine s_nz ?_ ?_; (focus first | decide | assumption)) | (with_reducible refine s_nzl ?_ ?_; (focus decide)) | (with_reducible refine s_z ?_ ?_; (focus first | exact Or.inl rfl | exact Or.inr rfl | assumption)) | (first | (with_reducible refine s_pos ?_ ?_; (focus first | (simp (disch := omega) only [bG, Option.bind_some, Nat.reduceMul, Nat.reduceAdd, Nat.reduceEqDiff, Nat.reduceSub, Nat.reduceDiv, Nat.reduceLeDiff, bQ, bU, *]; done) | (simp (disch := omega) only [bG, Option.bind_some, Nat.reduceMul, Nat.reduceAdd, Nat.reduceEqDiff, Nat.reduceSub, Nat.reduceDiv, Nat.reduceLeDiff, bQ, bU, *]; omega) | omega)) | (with_reducible refine s_neg ?_ ?_; (focus first | (simp (disch := omega) only [bG, Option.bind_some, Nat.reduceMul, Nat.reduceAdd, Nat.reduceEqDiff, Nat.reduceSub, Nat.reduceDiv, Nat.reduceLeDiff, bQ, bU, *]; done) | (simp (disch := omega) only [bG, Option.bind_some, Nat.reduceMul, Nat.reduceAdd, Nat.reduceEqDiff, Nat.reduceSub, Nat.reduceDiv, Nat.reduceLeDiff, bQ, bU, *]; omega) | omega))))
    refine Ok.some ⟨?_, ⟨?_, ?_⟩, ?_⟩
    · simp (disch := omega) only [bG, Option.bind_some, Nat.reduceMul, Nat.reduceAdd, Nat.reduceEqDiff, Nat.reduceSub, Nat.reduceDiv, Nat.reduceLeDiff, bQ, bU, *]
    · simp (disch := omega) only [bG, Option.bind_some, Nat.reduceMul, Nat.reduceAdd, Nat.reduceEqDiff, Nat.reduceSub, Nat.reduceDiv, Nat.reduceLeDiff, bQ, bU, *]
    · intro i hi
      simp (disch := omega) only [bG, Option.bind_some, Nat.reduceMul, Nat.reduceAdd, Nat.reduceEqDiff, Nat.reduceSub, Nat.reduceDiv, Nat.reduceLeDiff, bQ, bU, *]
    · refine Fr.wS Fr.rfl ?_ _
      exact Or.inl rfl
