/-! BITS PUT -/
/-- tape, bits that wait, how many -/
def pb (B : ((Nat → Nat) × Nat) × Nat × Nat) (b : Nat) : ((Nat → Nat) × Nat) × Nat × Nat := if B.2.2 + 1 = 8 then (ad B.1 (B.2.1 + b * 2 ^ B.2.2), 0, 0) else (B.1, B.2.1 + b * 2 ^ B.2.2, B.2.2 + 1)
def pbs (B : ((Nat → Nat) × Nat) × Nat × Nat) (f : Nat → Nat) : Nat → ((Nat → Nat) × Nat) × Nat × Nat
  | 0 => B
  | k + 1 => pb (pbs B f k) (f k)
def Bok (B : ((Nat → Nat) × Nat) × Nat × Nat) : Prop := B.2.2 < 8 ∧ B.2.1 < 2 ^ B.2.2
theorem pb_ok {B : ((Nat → Nat) × Nat) × Nat × Nat} {b : Nat} (h : Bok B) (hb : b < 2) : Bok (pb B b) := by
  obtain ⟨h1, h2⟩ := h
  unfold pb
  split
  · exact ⟨(by decide : 0 < 8), (by decide : 0 < 2 ^ 0)⟩
  · refine ⟨by show B.2.2 + 1 < 8; omega, ?_⟩
    show B.2.1 + b * 2 ^ B.2.2 < 2 ^ (B.2.2 + 1)
    have : b * 2 ^ B.2.2 ≤ 1 * 2 ^ B.2.2 := Nat.mul_le_mul_right _ (by omega)
    rw [Nat.pow_succ]
    omega
theorem pbs_ok {B : ((Nat → Nat) × Nat) × Nat × Nat} {f : Nat → Nat} (h : Bok B) (hf : ∀ i, f i < 2) (k : Nat) : Bok (pbs B f k) := by
  induction k with
  | zero => exact h
  | succ k ih => exact pb_ok ih (hf k)
theorem pb_len {B : ((Nat → Nat) × Nat) × Nat × Nat} {b : Nat} : 8 * (pb B b).1.2 + (pb B b).2.2 = 8 * B.1.2 + B.2.2 + 1 := by
  unfold pb
  split
  · show 8 * (B.1.2 + 1) + 0 = _
    omega
  · show 8 * B.1.2 + (B.2.2 + 1) = _
    omega
theorem pbs_len {B : ((Nat → Nat) × Nat) × Nat × Nat} {f : Nat → Nat} {k : Nat} : 8 * (pbs B f k).1.2 + (pbs B f k).2.2 = 8 * B.1.2 + B.2.2 + k := by
  induction k with
  | zero => rfl
  | succ k ih => show 8 * (pb (pbs B f k) (f k)).1.2 + (pb (pbs B f k) (f k)).2.2 = _; rw [pb_len, ih]; omega
theorem pb_b {B : ((Nat → Nat) × Nat) × Nat × Nat} {b : Nat} (h : Bok B) (hb : b < 2) (hS : Sb B.1) : Sb (pb B b).1 := by
  unfold pb
  split
  · next h7 =>
    refine ad_b hS ?_
    have h2 := h.2
    have : B.2.2 = 7 := by omega
    rw [this] at h2 ⊢
    have : b * 2 ^ 7 ≤ 1 * 2 ^ 7 := Nat.mul_le_mul_right _ (by omega)
    omega
  · exact hS
theorem pbs_b {B : ((Nat → Nat) × Nat) × Nat × Nat} {f : Nat → Nat} (h : Bok B) (hf : ∀ i, f i < 2) (hS : Sb B.1) (k : Nat) : Sb (pbs B f k).1 := by
  induction k with
  | zero => exact hS
  | succ k ih => exact pb_b (pbs_ok h hf k) (hf k) ih
/-- so many whole bytes of a number -/
def flS (S : (Nat → Nat) × Nat) (X : Nat) : Nat → (Nat → Nat) × Nat
  | 0 => S
  | k + 1 => ad (flS S X k) (X / 256 ^ k % 256)
theorem flS_ext {S : (Nat → Nat) × Nat} {X Y : Nat} {m : Nat} (h : ∀ k, k < m → X / 256 ^ k % 256 = Y / 256 ^ k % 256) : flS S X m = flS S Y m := by
  induction m with
  | zero => rfl
  | succ m ih =>
    show ad (flS S X m) _ = ad (flS S Y m) _
    rw [ih (fun k hk => h k (by omega)), h m (by omega)]
theorem pbs_fl {S : (Nat → Nat) × Nat} {acc cnt v : Nat} (hc : cnt < 8) (ha : acc < 2 ^ cnt) : ∀ n, pbs (S, acc, cnt) (fun k => (v >>> k) % 2) n = (flS S (acc + v % 2 ^ n * 2 ^ cnt) ((cnt + n) / 8), (acc + v % 2 ^ n * 2 ^ cnt) / 256 ^ ((cnt + n) / 8), (cnt + n) % 8) := by
  intro n
  induction n with
  | zero =>
    show (S, acc, cnt) = _
    rw [Nat.pow_zero, Nat.mod_one, Nat.zero_mul, Nat.add_zero, Nat.add_zero, Nat.div_eq_of_lt hc, Nat.mod_eq_of_lt hc, Nat.pow_zero, Nat.div_one]
    rfl
  | succ n ih =>
    show pb (pbs (S, acc, cnt) (fun k => (v >>> k) % 2) n) ((v >>> n) % 2) = _
    rw [ih]
    have hb : (v >>> n) % 2 = v / 2 ^ n % 2 := by rw [Nat.shiftRight_eq_div_pow]
    have hm : v % 2 ^ (n + 1) = v % 2 ^ n + v / 2 ^ n % 2 * 2 ^ n := by
      rw [Nat.pow_succ, Nat.mod_mul, Nat.mul_comm]
    rw [hb, hm]
    have hb2 : v / 2 ^ n % 2 < 2 := Nat.mod_lt _ (by decide)
    have hvn : v % 2 ^ n < 2 ^ n := Nat.mod_lt _ (Nat.pow_pos (by decide))
    generalize v / 2 ^ n % 2 = b at *
    generalize hX : acc + v % 2 ^ n * 2 ^ cnt = X at *
    have hXc : X < 2 ^ (cnt + n) := by
      rw [← hX, Nat.add_comm cnt n, Nat.pow_add]
      have h1 : (v % 2 ^ n + 1) * 2 ^ cnt ≤ 2 ^ n * 2 ^ cnt := Nat.mul_le_mul_right _ hvn
      rw [Nat.add_mul, Nat.one_mul] at h1
      omega
    have hX' : acc + (v % 2 ^ n + b * 2 ^ n) * 2 ^ cnt = X + b * 2 ^ (cnt + n) := by
      rw [← hX, Nat.add_mul, Nat.mul_assoc, ← Nat.pow_add, Nat.add_comm n cnt]
      omega
    rw [hX']
    obtain ⟨m, hm'⟩ : ∃ m, (cnt + n) / 8 = m := ⟨_, rfl⟩
    obtain ⟨r, hr'⟩ : ∃ r, (cnt + n) % 8 = r := ⟨_, rfl⟩
    have hc' : cnt + n = 8 * m + r := by omega
    have hr8 : r < 8 := by omega
    have e256 : ∀ k, (256 : Nat) ^ k = 2 ^ (8 * k) := fun k => by rw [show (256 : Nat) = 2 ^ 8 from rfl, ← Nat.pow_mul]
    rw [hm', hr']
    have hdiv : (X + b * 2 ^ (cnt + n)) / 256 ^ m = X / 256 ^ m + b * 2 ^ r := by
      rw [hc', Nat.pow_add, ← e256, Nat.mul_comm (256 ^ m), ← Nat.mul_assoc, Nat.add_mul_div_right _ _ (Nat.pow_pos (by decide))]
    have hlow : flS S (X + b * 2 ^ (cnt + n)) m = flS S X m := by
      apply flS_ext
      intro k hk
      have : b * 2 ^ (cnt + n) = b * 2 ^ (cnt + n - 8 * (k + 1)) * 256 * 256 ^ k := by
        rw [Nat.mul_assoc, Nat.mul_assoc, ← Nat.pow_succ', e256, ← Nat.pow_add]
        congr 2
        omega
      rw [this, Nat.add_mul_div_right _ _ (Nat.pow_pos (by decide)), Nat.add_mul_mod_self_right]
    have hsmall : X / 256 ^ m < 2 ^ r := by
      rw [e256]
      apply Nat.div_lt_of_lt_mul
      rw [← Nat.pow_add, ← hc']
      exact hXc
    unfold pb
    dsimp only
    by_cases h7 : r + 1 = 8
    · rw [if_pos h7, show (cnt + (n + 1)) / 8 = m + 1 by omega, show (cnt + (n + 1)) % 8 = 0 by omega]
      have hr7 : r = 7 := by omega
      subst hr7
      have hlt : X / 256 ^ m + b * 2 ^ 7 < 256 := by
        have : b * 2 ^ 7 ≤ 1 * 2 ^ 7 := Nat.mul_le_mul_right _ (by omega)
        omega
      have h0 : (X + b * 2 ^ (cnt + n)) / 256 ^ (m + 1) = 0 := by
        rw [Nat.pow_succ, ← Nat.div_div_eq_div_mul, hdiv]
        exact Nat.div_eq_of_lt hlt
      show _ = (ad (flS S (X + b * 2 ^ (cnt + n)) m) _, _, _)
      rw [h0, hlow, hdiv, Nat.mod_eq_of_lt hlt]
    · rw [if_neg h7, show (cnt + (n + 1)) / 8 = m by omega, show (cnt + (n + 1)) % 8 = r + 1 by omega, hlow, hdiv]
/-- the reference's bits -/
def BM (B : ((Nat → Nat) × Nat) × Nat × Nat) (σ : Mm) : Prop := TapeM B.1.1 B.1.2 σ ∧ gS σ 4087 = N B.2.1 ∧ gS σ 4088 = N B.2.2
abbrev PMb (k : Nat) : Prop := k = 4034 ∨ k = 4087 ∨ k = 4088
theorem PMb_M (k : Nat) (h : PMb k) : mptr.all (fun q => q.1 != k) = true := by unfold PMb at h; rcases h with h | h | h <;> subst h <;> decide
theorem or_pow {a b c : Nat} (h : a < 2 ^ c) : a ||| (b <<< c) = a + b * 2 ^ c := by
  rw [Nat.or_comm, ← Nat.shiftLeft_add_eq_or_of_lt h, Nat.shiftLeft_eq, Nat.add_comm]
theorem M_putBit {n b : Nat} {x : Int32} {B : ((Nat → Nat) × Nat) × Nat × Nat} {σ : Mm} (e : x = N b) (hp : PtM σ) (h : BM B σ) (hB : Bok B) (hb : b < 2) (hl : B.1.2 < 65536) : Ok (F_Md_putBit n 63 x σ) (fun s => BM (pb B b) s ∧ Fr PMb AMf σ s) := by
  subst e
  obtain ⟨t, h1, h2⟩ := h
  obtain ⟨b1, b2⟩ := hB
  obtain ⟨S, acc, cnt⟩ := B
  dsimp only at t h1 h2 b1 b2 hl
  have e1 : N acc ||| (N b <<< (N cnt &&& N 31)) = N (acc + b * 2 ^ cnt) := by rw [N_shl (by omega), N_or, or_pow b2]
  have hpw : 2 ^ cnt ≤ 2 ^ 7 := Nat.pow_le_pow_right (by decide) (by omega)
  have hbm : b * 2 ^ cnt ≤ 1 * 2 ^ cnt := Nat.mul_le_mul_right _ (by omega)
  have hlt : acc + b * 2 ^ cnt < 256 := by omega
  unfold F_Md_putBit pb
  dsimp only
  by_cases h7 : cnt + 1 = 8
  · rw [if_pos h7]
    have h8 : cnt = 7 := by omega
    clear h7
    subst h8
    have t' : TapeM S.1 S.2 (pS (pS σ 4087 (N (acc + b * 2 ^ 7))) 4088 (N 8)) := ⟨by have := t.1; first | (simp (disch := omega) only [bG, Option.bind_some, Nat.reduceMul, Nat.reduceAdd, Nat.reduceEqDiff, Nat.reduceSub, Nat.reduceDiv, Nat.reduceLeDiff, bQ, bU, *]; done) | (simp (disch := omega) only [bG, Option.bind_some, Nat.reduceMul, Nat.reduceAdd, Nat.reduceEqDiff, Nat.reduceSub, Nat.reduceDiv, Nat.reduceLeDiff, bQ, bU, *]; rfl) | rfl, t.2⟩
    (with_reducible refine s_let ?_; intro x9 hx9; (try simp (disch := omega) only [bG, Option.bind_some, Nat.reduceMul, Nat.reduceAdd, Nat.reduceEqDiff, Nat.reduceSub, Nat.reduceDiv, Nat.reduceLeDiff, bQ, bU, *] at hx9); subst hx9)
    (with_reducible refine s_let ?_; intro x9 hx9; (try simp (disch := omega) only [bG, Option.bind_some, Nat.reduceMul, Nat.reduceAdd, Nat.reduceEqDiff, Nat.reduceSub, Nat.reduceDiv, Nat.reduceLeDiff, bQ, bU, *] at hx9); subst hx9)
    refine s_ji ?_
    refine s_pos (by rw [gS_eq rfl]; rfl) ?_
    refine (Md_put_ok (v := acc + b * 2 ^ 7) (PtM_pS (PtM_pS hp)) t' ?_ hl).bind ?_
    · rw [gS_ne (by decide), gS_eq rfl]; exact lob_small hlt
    · rintro s1 ⟨t1, f1⟩
      repeat (first | first | (with_reducible refine s_let ?_; intro x9 hx9; (try simp (disch := omega) only [bG, Option.bind_some, Nat.reduceMul, Nat.reduceAdd, Nat.reduceEqDiff, Nat.reduceSub, Nat.reduceDiv, Nat.reduceLeDiff, bQ, bU, *] at hx9); subst hx9) | (with_reducible refine s_R2 ?_ ?_; (focus (simp (disch := omega) only [bG, Option.bind_some, Nat.reduceMul, Nat.reduceAdd, Nat.reduceEqDiff, Nat.reduceSub, Nat.reduceDiv, Nat.reduceLeDiff, bQ, *, Option.isSome_some]; done)); (intro o9 ho9; simp (disch := omega) only [bG, Option.bind_some, Nat.reduceMul, Nat.reduceAdd, Nat.reduceEqDiff, Nat.reduceSub, Nat.reduceDiv, Nat.reduceLeDiff, bQ, *, Option.some.injEq] at ho9; subst ho9)) | (with_reducible refine s_in2 ?_ ?_; (focus first | (simp (disch := omega) only [bG, Option.bind_some, Nat.reduceMul, Nat.reduceAdd, Nat.reduceEqDiff, Nat.reduceSub, Nat.reduceDiv, Nat.reduceLeDiff, bQ, *, bK]; omega) | (simp (disch := omega) only [bG, Option.bind_some, Nat.reduceMul, Nat.reduceAdd, Nat.reduceEqDiff, Nat.reduceSub, Nat.reduceDiv, Nat.reduceLeDiff, bQ, *, bK, or_false, false_or, Nat.lt_irrefl, or_self, Nat.not_lt_zero]; done) | decide)) | (with_reducible refine s_nz ?_ ?_; (focus first | decide | assumption)) | (with_reducible refine s_nzl ?_ ?_; (focus decide)) | (with_reducible refine s_z ?_ ?_; (focus first | exact Or.inl rfl | exact Or.inr rfl | assumption)) | (with_reducible refine s_ji ?_) | first | (with_reducible refine s_h ?_) | (with_reducible refine s_t ?_) | (with_reducible apply s_chan; (focus first | with_reducible rfl | (simp (disch := omega) only [bG, Option.bind_some, Nat.reduceMul, Nat.reduceAdd, Nat.reduceEqDiff, Nat.reduceSub, Nat.reduceDiv, Nat.reduceLeDiff, bQ, bU, *]; with_reducible rfl)); (focus omega)) | (with_reducible refine Ok.c2' ?_; (first | (first | (with_reducible show Ok (kf_let _ _) _) | (with_reducible show Ok (kf_j _ _) _) | (with_reducible show Ok (if _ then _ else _) _) | (with_reducible refine Ok.some ?_; try dsimp only) | (with_reducible show Ok (Option.bind (gR _ _) _) _) | (with_reducible show Ok (kf_in _ _ _) _) | (with_reducible show Ok (kf_nz _ _) _)) | (with_reducible refine Ok.c2' ?_; (first | (with_reducible show Ok (kf_let _ _) _) | (with_reducible show Ok (kf_j _ _) _) | (with_reducible show Ok (if _ then _ else _) _) | (with_reducible refine Ok.some ?_; try dsimp only) | (with_reducible show Ok (Option.bind (gR _ _) _) _) | (with_reducible show Ok (kf_in _ _ _) _) | (with_reducible show Ok (kf_nz _ _) _))))) | (with_reducible refine Ok.bind' ?_; (first | (first | (with_reducible show Ok (kf_let _ _) _) | (with_reducible show Ok (kf_j _ _) _) | (with_reducible show Ok (if _ then _ else _) _) | (with_reducible refine Ok.some ?_; try dsimp only) | (with_reducible show Ok (Option.bind (gR _ _) _) _) | (with_reducible show Ok (kf_in _ _ _) _) | (with_reducible show Ok (kf_nz _ _) _)) | (with_reducible refine Ok.c2' ?_; (first | (with_reducible show Ok (kf_let _ _) _) | (with_reducible show Ok (kf_j _ _) _) | (with_reducible show Ok (if _ then _ else _) _) | (with_reducible refine Ok.some ?_; try dsimp only) | (with_reducible show Ok (Option.bind (gR _ _) _) _) | (with_reducible show Ok (kf_in _ _ _) _) | (with_reducible show Ok (kf_nz _ _) _))))) | first | (with_reducible refine s_pos ?_ ?_; (focus (show (_ : String) = _; exact rfl))) | (with_reducible refine s_neg ?_ ?_; (focus (show ¬ ((_ : String) = _); decide))) | (first | (with_reducible refine s_pos ?_ ?_; (focus first | (simp (disch := omega) only [bG, Option.bind_some, Nat.reduceMul, Nat.reduceAdd, Nat.reduceEqDiff, Nat.reduceSub, Nat.reduceDiv, Nat.reduceLeDiff, bQ, bU, *]; done) | (simp (disch := omega) only [bG, Option.bind_some, Nat.reduceMul, Nat.reduceAdd, Nat.reduceEqDiff, Nat.reduceSub, Nat.reduceDiv, Nat.reduceLeDiff, bQ, bU, *]; omega) | omega)) | (with_reducible refine s_neg ?_ ?_; (focus first | (simp (disch := omega) only [bG, Option.bind_some, Nat.reduceMul, Nat.reduceAdd, Nat.reduceEqDiff, Nat.reduceSub, Nat.reduceDiv, Nat.reduceLeDiff, bQ, bU, *]; done) | (simp (disch := omega) only [bG, Option.bind_some, Nat.reduceMul, Nat.reduceAdd, Nat.reduceEqDiff, Nat.reduceSub, Nat.reduceDiv, Nat.reduceLeDiff, bQ, bU, *]; omega) | omega))) | (with_reducible refine Ok.some ?_; try dsimp only))
      refine ⟨⟨⟨by have := t1.1; first | (simp (disch := omega) only [bG, Option.bind_some, Nat.reduceMul, Nat.reduceAdd, Nat.reduceEqDiff, Nat.reduceSub, Nat.reduceDiv, Nat.reduceLeDiff, bQ, bU, *]; done) | (simp (disch := omega) only [bG, Option.bind_some, Nat.reduceMul, Nat.reduceAdd, Nat.reduceEqDiff, Nat.reduceSub, Nat.reduceDiv, Nat.reduceLeDiff, bQ, bU, *]; rfl) | rfl, t1.2⟩, by first | (simp (disch := omega) only [bG, Option.bind_some, Nat.reduceMul, Nat.reduceAdd, Nat.reduceEqDiff, Nat.reduceSub, Nat.reduceDiv, Nat.reduceLeDiff, bQ, bU, *]; done) | (simp (disch := omega) only [bG, Option.bind_some, Nat.reduceMul, Nat.reduceAdd, Nat.reduceEqDiff, Nat.reduceSub, Nat.reduceDiv, Nat.reduceLeDiff, bQ, bU, *]; rfl) | rfl, by first | (simp (disch := omega) only [bG, Option.bind_some, Nat.reduceMul, Nat.reduceAdd, Nat.reduceEqDiff, Nat.reduceSub, Nat.reduceDiv, Nat.reduceLeDiff, bQ, bU, *]; done) | (simp (disch := omega) only [bG, Option.bind_some, Nat.reduceMul, Nat.reduceAdd, Nat.reduceEqDiff, Nat.reduceSub, Nat.reduceDiv, Nat.reduceLeDiff, bQ, bU, *]; rfl) | rfl⟩, ?_⟩
      refine Fr.wS (Fr.wS ((Fr.wS (Fr.wS Fr.rfl ?_ _) ?_ _).trans (f1.mono (fun _ h => Or.inl h) (fun _ h => h))) ?_ _) ?_ _
      · exact Or.inr (Or.inl rfl)
      · exact Or.inr (Or.inr rfl)
      · exact Or.inr (Or.inl rfl)
      · exact Or.inr (Or.inr rfl)
  · rw [if_neg h7]
    repeat (first | first | (with_reducible refine s_let ?_; intro x9 hx9; (try simp (disch := omega) only [bG, Option.bind_some, Nat.reduceMul, Nat.reduceAdd, Nat.reduceEqDiff, Nat.reduceSub, Nat.reduceDiv, Nat.reduceLeDiff, bQ, bU, *] at hx9); subst hx9) | (with_reducible refine s_R2 ?_ ?_; (focus (simp (disch := omega) only [bG, Option.bind_some, Nat.reduceMul, Nat.reduceAdd, Nat.reduceEqDiff, Nat.reduceSub, Nat.reduceDiv, Nat.reduceLeDiff, bQ, *, Option.isSome_some]; done)); (intro o9 ho9; simp (disch := omega) only [bG, Option.bind_some, Nat.reduceMul, Nat.reduceAdd, Nat.reduceEqDiff, Nat.reduceSub, Nat.reduceDiv, Nat.reduceLeDiff, bQ, *, Option.some.injEq] at ho9; subst ho9)) | (with_reducible refine s_in2 ?_ ?_; (focus first | (simp (disch := omega) only [bG, Option.bind_some, Nat.reduceMul, Nat.reduceAdd, Nat.reduceEqDiff, Nat.reduceSub, Nat.reduceDiv, Nat.reduceLeDiff, bQ, *, bK]; omega) | (simp (disch := omega) only [bG, Option.bind_some, Nat.reduceMul, Nat.reduceAdd, Nat.reduceEqDiff, Nat.reduceSub, Nat.reduceDiv, Nat.reduceLeDiff, bQ, *, bK, or_false, false_or, Nat.lt_irrefl, or_self, Nat.not_lt_zero]; done) | decide)) | (with_reducible refine s_nz ?_ ?_; (focus first | decide | assumption)) | (with_reducible refine s_nzl ?_ ?_; (focus decide)) | (with_reducible refine s_z ?_ ?_; (focus first | exact Or.inl rfl | exact Or.inr rfl | assumption)) | (with_reducible refine s_ji ?_) | first | (with_reducible refine s_h ?_) | (with_reducible refine s_t ?_) | (with_reducible apply s_chan; (focus first | with_reducible rfl | (simp (disch := omega) only [bG, Option.bind_some, Nat.reduceMul, Nat.reduceAdd, Nat.reduceEqDiff, Nat.reduceSub, Nat.reduceDiv, Nat.reduceLeDiff, bQ, bU, *]; with_reducible rfl)); (focus omega)) | (with_reducible refine Ok.c2' ?_; (first | (first | (with_reducible show Ok (kf_let _ _) _) | (with_reducible show Ok (kf_j _ _) _) | (with_reducible show Ok (if _ then _ else _) _) | (with_reducible refine Ok.some ?_; try dsimp only) | (with_reducible show Ok (Option.bind (gR _ _) _) _) | (with_reducible show Ok (kf_in _ _ _) _) | (with_reducible show Ok (kf_nz _ _) _)) | (with_reducible refine Ok.c2' ?_; (first | (with_reducible show Ok (kf_let _ _) _) | (with_reducible show Ok (kf_j _ _) _) | (with_reducible show Ok (if _ then _ else _) _) | (with_reducible refine Ok.some ?_; try dsimp only) | (with_reducible show Ok (Option.bind (gR _ _) _) _) | (with_reducible show Ok (kf_in _ _ _) _) | (with_reducible show Ok (kf_nz _ _) _))))) | (with_reducible refine Ok.bind' ?_; (first | (first | (with_reducible show Ok (kf_let _ _) _) | (with_reducible show Ok (kf_j _ _) _) | (with_reducible show Ok (if _ then _ else _) _) | (with_reducible refine Ok.some ?_; try dsimp only) | (with_reducible show Ok (Option.bind (gR _ _) _) _) | (with_reducible show Ok (kf_in _ _ _) _) | (with_reducible show Ok (kf_nz _ _) _)) | (with_reducible refine Ok.c2' ?_; (first | (with_reducible show Ok (kf_let _ _) _) | (with_reducible show Ok (kf_j _ _) _) | (with_reducible show Ok (if _ then _ else _) _) | (with_reducible refine Ok.some ?_; try dsimp only) | (with_reducible show Ok (Option.bind (gR _ _) _) _) | (with_reducible show Ok (kf_in _ _ _) _) | (with_reducible show Ok (kf_nz _ _) _))))) | first | (with_reducible refine s_pos ?_ ?_; (focus (show (_ : String) = _; exact rfl))) | (with_reducible refine s_neg ?_ ?_; (focus (show ¬ ((_ : String) = _); decide))) | (first | (with_reducible refine s_pos ?_ ?_; (focus first | (simp (disch := omega) only [bG, Option.bind_some, Nat.reduceMul, Nat.reduceAdd, Nat.reduceEqDiff, Nat.reduceSub, Nat.reduceDiv, Nat.reduceLeDiff, bQ, bU, *]; done) | (simp (disch := omega) only [bG, Option.bind_some, Nat.reduceMul, Nat.reduceAdd, Nat.reduceEqDiff, Nat.reduceSub, Nat.reduceDiv, Nat.reduceLeDiff, bQ, bU, *]; omega) | omega)) | (with_reducible refine s_neg ?_ ?_; (focus first | (simp (disch := omega) only [bG, Option.bind_some, Nat.reduceMul, Nat.reduceAdd, Nat.reduceEqDiff, Nat.reduceSub, Nat.reduceDiv, Nat.reduceLeDiff, bQ, bU, *]; done) | (simp (disch := omega) only [bG, Option.bind_some, Nat.reduceMul, Nat.reduceAdd, Nat.reduceEqDiff, Nat.reduceSub, Nat.reduceDiv, Nat.reduceLeDiff, bQ, bU, *]; omega) | omega))) | (with_reducible refine Ok.some ?_; try dsimp only))
    refine ⟨⟨⟨by have := t.1; first | (simp (disch := omega) only [bG, Option.bind_some, Nat.reduceMul, Nat.reduceAdd, Nat.reduceEqDiff, Nat.reduceSub, Nat.reduceDiv, Nat.reduceLeDiff, bQ, bU, *]; done) | (simp (disch := omega) only [bG, Option.bind_some, Nat.reduceMul, Nat.reduceAdd, Nat.reduceEqDiff, Nat.reduceSub, Nat.reduceDiv, Nat.reduceLeDiff, bQ, bU, *]; rfl) | rfl, t.2⟩, by first | (simp (disch := omega) only [bG, Option.bind_some, Nat.reduceMul, Nat.reduceAdd, Nat.reduceEqDiff, Nat.reduceSub, Nat.reduceDiv, Nat.reduceLeDiff, bQ, bU, *]; done) | (simp (disch := omega) only [bG, Option.bind_some, Nat.reduceMul, Nat.reduceAdd, Nat.reduceEqDiff, Nat.reduceSub, Nat.reduceDiv, Nat.reduceLeDiff, bQ, bU, *]; rfl) | rfl, by first | (simp (disch := omega) only [bG, Option.bind_some, Nat.reduceMul, Nat.reduceAdd, Nat.reduceEqDiff, Nat.reduceSub, Nat.reduceDiv, Nat.reduceLeDiff, bQ, bU, *]; done) | (simp (disch := omega) only [bG, Option.bind_some, Nat.reduceMul, Nat.reduceAdd, Nat.reduceEqDiff, Nat.reduceSub, Nat.reduceDiv, Nat.reduceLeDiff, bQ, bU, *]; rfl) | rfl⟩, ?_⟩
    refine Fr.wS (Fr.wS Fr.rfl ?_ _) ?_ _
    · exact Or.inr (Or.inl rfl)
    · exact Or.inr (Or.inr rfl)
theorem M_putBits {n v m : Nat} {x y : Int32} {B : ((Nat → Nat) × Nat) × Nat × Nat} {σ : Mm} (e1 : x = N v) (e2 : y = N m) (hn : 100 < n) (hp : PtM σ) (h : BM B σ) (hB : Bok B) (hv : v < 2147483648) (hm : m < 32) (hl : B.1.2 + 10 < 65536) : Ok (F_Md_putBits n 63 x y σ) (fun s => BM (pbs B (fun k => (v >>> k) % 2) m) s ∧ Fr PMb AMf σ s) := by
  subst e1 e2
  have hf : ∀ i, (fun k => (v >>> k) % 2) i < 2 := fun i => Nat.mod_lt _ (by decide)
  unfold F_Md_putBits
  refine ok_for 0 m (fun k x s => x = N k ∧ BM (pbs B (fun k => (v >>> k) % 2) k) s ∧ Fr PMb AMf σ s) ?_ (by omega) (by omega) ⟨rfl, h, Fr.rfl⟩
  rintro k k9 x s - hk ⟨rfl, hb, f⟩ ih
  by_cases hk2 : m = k
  · subst hk2
    refine s_pos (Int32.le_refl _) (Ok.some ⟨hb, f⟩)
  · refine s_neg (by first | (simp (disch := omega) only [bG, Option.bind_some, Nat.reduceMul, Nat.reduceAdd, Nat.reduceEqDiff, Nat.reduceSub, Nat.reduceDiv, Nat.reduceLeDiff, bQ, bU, *]; done) | (simp (disch := omega) only [bG, Option.bind_some, Nat.reduceMul, Nat.reduceAdd, Nat.reduceEqDiff, Nat.reduceSub, Nat.reduceDiv, Nat.reduceLeDiff, bQ, bU, *]; omega) | omega) ?_
    have hlen := pbs_len (B := B) (f := fun k => (v >>> k) % 2) (k := k)
    have hok := pbs_ok hB hf k
    have h8 := hok.1
    have hB8 := hB.1
    refine (M_putBit (b := (v >>> k) % 2) ?_ (hp.fr' f PMb_M) hb hok (hf k) (by omega)).bind ?_
    · rw [show (31 : Int32) = N 31 from rfl, show (1 : Int32) = N 1 from rfl, N_shr hv (by omega), N_and, and1]
    · rintro s1 ⟨hb1, f1⟩
      repeat (first | first | (with_reducible refine s_let ?_; intro x9 hx9; (try simp (disch := omega) only [bG, Option.bind_some, Nat.reduceMul, Nat.reduceAdd, Nat.reduceEqDiff, Nat.reduceSub, Nat.reduceDiv, Nat.reduceLeDiff, bQ, bU, *] at hx9); subst hx9) | (with_reducible refine s_R2 ?_ ?_; (focus (simp (disch := omega) only [bG, Option.bind_some, Nat.reduceMul, Nat.reduceAdd, Nat.reduceEqDiff, Nat.reduceSub, Nat.reduceDiv, Nat.reduceLeDiff, bQ, *, Option.isSome_some]; done)); (intro o9 ho9; simp (disch := omega) only [bG, Option.bind_some, Nat.reduceMul, Nat.reduceAdd, Nat.reduceEqDiff, Nat.reduceSub, Nat.reduceDiv, Nat.reduceLeDiff, bQ, *, Option.some.injEq] at ho9; subst ho9)) | (with_reducible refine s_in2 ?_ ?_; (focus first | (simp (disch := omega) only [bG, Option.bind_some, Nat.reduceMul, Nat.reduceAdd, Nat.reduceEqDiff, Nat.reduceSub, Nat.reduceDiv, Nat.reduceLeDiff, bQ, *, bK]; omega) | (simp (disch := omega) only [bG, Option.bind_some, Nat.reduceMul, Nat.reduceAdd, Nat.reduceEqDiff, Nat.reduceSub, Nat.reduceDiv, Nat.reduceLeDiff, bQ, *, bK, or_false, false_or, Nat.lt_irrefl, or_self, Nat.not_lt_zero]; done) | decide)) | (with_reducible refine s_nz ?_ ?_; (focus first | decide | assumption)) | (with_reducible refine s_nzl ?_ ?_; (focus decide)) | (with_reducible refine s_z ?_ ?_; (focus first | exact Or.inl rfl | exact Or.inr rfl | assumption)) | (with_reducible refine s_ji ?_) | first | (with_reducible refine s_h ?_) | (with_reducible refine s_t ?_) | (with_reducible apply s_chan; (focus first | with_reducible rfl | (simp (disch := omega) only [bG, Option.bind_some, Nat.reduceMul, Nat.reduceAdd, Nat.reduceEqDiff, Nat.reduceSub, Nat.reduceDiv, Nat.reduceLeDiff, bQ, bU, *]; with_reducible rfl)); (focus omega)) | (with_reducible refine Ok.c2' ?_; (first | (first | (with_reducible show Ok (kf_let _ _) _) | (with_reducible show Ok (kf_j _ _) _) | (with_reducible show Ok (if _ then _ else _) _) | (with_reducible refine Ok.some ?_; try dsimp only) | (with_reducible show Ok (Option.bind (gR _ _) _) _) | (with_reducible show Ok (kf_in _ _ _) _) | (with_reducible show Ok (kf_nz _ _) _)) | (with_reducible refine Ok.c2' ?_; (first | (with_reducible show Ok (kf_let _ _) _) | (with_reducible show Ok (kf_j _ _) _) | (with_reducible show Ok (if _ then _ else _) _) | (with_reducible refine Ok.some ?_; try dsimp only) | (with_reducible show Ok (Option.bind (gR _ _) _) _) | (with_reducible show Ok (kf_in _ _ _) _) | (with_reducible show Ok (kf_nz _ _) _))))) | (with_reducible refine Ok.bind' ?_; (first | (first | (with_reducible show Ok (kf_let _ _) _) | (with_reducible show Ok (kf_j _ _) _) | (with_reducible show Ok (if _ then _ else _) _) | (with_reducible refine Ok.some ?_; try dsimp only) | (with_reducible show Ok (Option.bind (gR _ _) _) _) | (with_reducible show Ok (kf_in _ _ _) _) | (with_reducible show Ok (kf_nz _ _) _)) | (with_reducible refine Ok.c2' ?_; (first | (with_reducible show Ok (kf_let _ _) _) | (with_reducible show Ok (kf_j _ _) _) | (with_reducible show Ok (if _ then _ else _) _) | (with_reducible refine Ok.some ?_; try dsimp only) | (with_reducible show Ok (Option.bind (gR _ _) _) _) | (with_reducible show Ok (kf_in _ _ _) _) | (with_reducible show Ok (kf_nz _ _) _))))) | first | (with_reducible refine s_pos ?_ ?_; (focus (show (_ : String) = _; exact rfl))) | (with_reducible refine s_neg ?_ ?_; (focus (show ¬ ((_ : String) = _); decide))) | (first | (with_reducible refine s_pos ?_ ?_; (focus first | (simp (disch := omega) only [bG, Option.bind_some, Nat.reduceMul, Nat.reduceAdd, Nat.reduceEqDiff, Nat.reduceSub, Nat.reduceDiv, Nat.reduceLeDiff, bQ, bU, *]; done) | (simp (disch := omega) only [bG, Option.bind_some, Nat.reduceMul, Nat.reduceAdd, Nat.reduceEqDiff, Nat.reduceSub, Nat.reduceDiv, Nat.reduceLeDiff, bQ, bU, *]; omega) | omega)) | (with_reducible refine s_neg ?_ ?_; (focus first | (simp (disch := omega) only [bG, Option.bind_some, Nat.reduceMul, Nat.reduceAdd, Nat.reduceEqDiff, Nat.reduceSub, Nat.reduceDiv, Nat.reduceLeDiff, bQ, bU, *]; done) | (simp (disch := omega) only [bG, Option.bind_some, Nat.reduceMul, Nat.reduceAdd, Nat.reduceEqDiff, Nat.reduceSub, Nat.reduceDiv, Nat.reduceLeDiff, bQ, bU, *]; omega) | omega))))
      exact ih (by omega) _ _ ⟨rfl, hb1, f.trans f1⟩
theorem M_putCode {n v m : Nat} {x y : Int32} {B : ((Nat → Nat) × Nat) × Nat × Nat} {σ : Mm} (e1 : x = N v) (e2 : y = N m) (hn : 100 < n) (hp : PtM σ) (h : BM B σ) (hB : Bok B) (hv : v < 2147483648) (hm : m < 32) (hl : B.1.2 + 10 < 65536) : Ok (F_Md_putCode n 63 x y σ) (fun s => BM (pbs B (fun k => (v >>> (m - 1 - k)) % 2) m) s ∧ Fr PMb AMf σ s) := by
  subst e1 e2
  have hf : ∀ i, (fun k => (v >>> (m - 1 - k)) % 2) i < 2 := fun i => Nat.mod_lt _ (by decide)
  unfold F_Md_putCode
  refine s_let (fun x9 hx9 => ?_)
  subst hx9
  refine ok_for 0 m (fun k x s => x = N m - N (k + 1) ∧ BM (pbs B (fun k => (v >>> (m - 1 - k)) % 2) k) s ∧ Fr PMb AMf σ s) ?_ (by omega) (by omega) ⟨rfl, h, Fr.rfl⟩
  rintro k k9 x s - hk ⟨rfl, hb, f⟩ ih
  by_cases hk2 : m = k
  · subst hk2
    refine s_pos (N_sub_neg (by omega) (by omega)) (Ok.some ⟨hb, f⟩)
  · have e1 : N m - N (k + 1) = N (m - 1 - k) := by rw [N_sub (by omega)]; congr 1; omega
    have nxt : N (m - 1 - k) + Int32.ofInt (-1) = N m - N (k + 1 + 1) := by rw [← e1, sub_m1]
    rw [e1]
    refine s_neg (N_nlt (by omega)) ?_
    have hlen := pbs_len (B := B) (f := fun k => (v >>> (m - 1 - k)) % 2) (k := k)
    have hok := pbs_ok hB hf k
    have h8 := hok.1
    have hB8 := hB.1
    refine (M_putBit (b := (v >>> (m - 1 - k)) % 2) ?_ (hp.fr' f PMb_M) hb hok (hf k) (by omega)).bind ?_
    · rw [show (31 : Int32) = N 31 from rfl, show (1 : Int32) = N 1 from rfl, N_shr hv (by omega), N_and, and1]
    · rintro s1 ⟨hb1, f1⟩
      refine s_let (fun x9 hx9 => ?_)
      rw [nxt] at hx9
      subst hx9
      exact ih (by omega) _ _ ⟨rfl, hb1, f.trans f1⟩
