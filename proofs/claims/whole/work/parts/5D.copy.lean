/-! COPIES PUT -/
/-- the last place of a table whose number is not above v -/
def lk (T : Nat → Nat) (v : Nat) : Nat → Nat
  | 0 => 0
  | k + 1 => if T (k + 1) ≤ v then k + 1 else lk T v k
theorem lk_le {T : Nat → Nat} {v : Nat} (m : Nat) : lk T v m ≤ m := by
  induction m with
  | zero => exact Nat.le_refl _
  | succ m ih => unfold lk; split <;> omega
theorem lk_self {T : Nat → Nat} {v k : Nat} (h : k = 0 ∨ T k ≤ v) : lk T v k = k := by
  cases k with
  | zero => rfl
  | succ k => exact if_pos (h.resolve_left (by omega))
theorem lk_up {T : Nat → Nat} {v k m : Nat} (hk : k ≤ m) (h : ∀ j, k < j → j ≤ m → v < T j) : lk T v m = lk T v k := by
  induction m with
  | zero => have : k = 0 := by omega
            subst this; rfl
  | succ m ih =>
    by_cases hkm : k = m + 1
    · subst hkm; rfl
    · show (if T (m + 1) ≤ v then m + 1 else lk T v m) = _
      have := h (m + 1) (by omega) (Nat.le_refl _)
      rw [if_neg (by omega)]
      exact ih (by omega) (fun j h1 h2 => h j h1 (by omega))
theorem lk_T {T : Nat → Nat} {v : Nat} (h0 : T 0 ≤ v) (m : Nat) : T (lk T v m) ≤ v := by
  induction m with
  | zero => exact h0
  | succ m ih => unfold lk; split <;> assumption
theorem lk_nx {T : Nat → Nat} {v : Nat} (m : Nat) : ∀ j, lk T v m < j → j ≤ m → v < T j := by
  induction m with
  | zero => intro j h1 h2; unfold lk at h1; omega
  | succ m ih =>
    intro j h1 h2
    unfold lk at h1
    split at h1
    · omega
    · by_cases hj : j = m + 1
      · subst hj; omega
      · exact ih j h1 (by omega)
theorem lnT_t : ∀ k, k < 28 → lnT (k + 1) ≤ lnT k + 2 ^ lnX k := by decide
theorem ln_more {v : Nat} (h1 : 3 ≤ v) (h2 : v ≤ 258) : lnT (lk lnT v 28) ≤ v ∧ v - lnT (lk lnT v 28) < 2 ^ lnX (lk lnT v 28) := by
  have a := lk_T (T := lnT) (v := v) h1 28
  have b := lk_nx (T := lnT) (v := v) 28
  have c := lk_le (T := lnT) (v := v) 28
  generalize lk lnT v 28 = k at *
  refine ⟨a, ?_⟩
  by_cases hk : k = 28
  · subst hk
    have : lnT 28 = 258 := rfl
    have : (2 : Nat) ^ lnX 28 = 1 := rfl
    omega
  · have := b (k + 1) (by omega) (by omega)
    have := lnT_t k (by omega)
    omega
theorem ds_more {v : Nat} (h1 : 1 ≤ v) (h2 : v ≤ 32768) : dsT (lk dsT v 29) ≤ v ∧ v - dsT (lk dsT v 29) < 2 ^ dsX (lk dsT v 29) := by
  have a := lk_T (T := dsT) (v := v) h1 29
  have b := lk_nx (T := dsT) (v := v) 29
  have c := lk_le (T := dsT) (v := v) 29
  generalize lk dsT v 29 = k at *
  refine ⟨a, ?_⟩
  by_cases hk : k = 29
  · subst hk
    have : dsT 29 = 24577 := rfl
    have : (2 : Nat) ^ dsX 29 = 8192 := rfl
    omega
  · have := b (k + 1) (by omega) (by omega)
    have := dsT_s k (by omega)
    omega
theorem lnX_e : ∀ k, k < 29 → lnX k = if k < 8 then 0 else if k = 28 then 0 else (k - 4) / 4 := by decide
theorem dsX_e : ∀ k, k < 30 → dsX k = if 4 ≤ k then (k - 2) / 2 else 0 := by decide
theorem Md_moreBits_eq {n k : Nat} {x : Int32} {σ : Mm} (e : x = N (257 + k)) (hk : k < 29) : F_Md_moreBits n x σ = some (N (lnX k), σ) := by
  subst e
  apply Ok.eq
  rw [lnX_e k hk]
  unfold F_Md_moreBits
  by_cases h8 : k < 8
  · rw [if_pos h8]
    repeat (first | first | (with_reducible refine s_let ?_; intro x9 hx9; (try simp (disch := omega) only [bG, Option.bind_some, Nat.reduceMul, Nat.reduceAdd, Nat.reduceEqDiff, Nat.reduceSub, Nat.reduceDiv, Nat.reduceLeDiff, bQ, bU, *] at hx9); subst hx9) | (with_reducible refine s_R2 ?_ ?_; (focus (simp (disch := omega) only [bG, Option.bind_some, Nat.reduceMul, Nat.reduceAdd, Nat.reduceEqDiff, Nat.reduceSub, Nat.reduceDiv, Nat.reduceLeDiff, bQ, *, Option.isSome_some]; done)); (intro o9 ho9; simp (disch := omega) only [bG, Option.bind_some, Nat.reduceMul, Nat.reduceAdd, Nat.reduceEqDiff, Nat.reduceSub, Nat.reduceDiv, Nat.reduceLeDiff, bQ, *, Option.some.injEq] at ho9; subst ho9)) | (with_reducible refine s_in2 ?_ ?_; (focus first | (simp (disch := omega) only [bG, Option.bind_some, Nat.reduceMul, Nat.reduceAdd, Nat.reduceEqDiff, Nat.reduceSub, Nat.reduceDiv, Nat.reduceLeDiff, bQ, *, bK]; omega) | (simp (disch := omega) only [bG, Option.bind_some, Nat.reduceMul, Nat.reduceAdd, Nat.reduceEqDiff, Nat.reduceSub, Nat.reduceDiv, Nat.reduceLeDiff, bQ, *, bK, or_false, false_or, Nat.lt_irrefl, or_self, Nat.not_lt_zero]; done) | decide)) | (with_reducible refine s_nz ?_ ?_; (focus first | decide | assumption)) | (with_reducible refine s_nzl ?_ ?_; (focus decide)) | (with_reducible refine s_z ?_ ?_; (focus first | exact Or.inl rfl | exact Or.inr rfl | assumption)) | (with_reducible refine s_ji ?_) | first | (with_reducible refine s_h ?_) | (with_reducible refine s_t ?_) | (with_reducible apply s_chan; (focus first | with_reducible rfl | (simp (disch := omega) only [bG, Option.bind_some, Nat.reduceMul, Nat.reduceAdd, Nat.reduceEqDiff, Nat.reduceSub, Nat.reduceDiv, Nat.reduceLeDiff, bQ, bU, *]; with_reducible rfl)); (focus omega)) | (with_reducible refine Ok.c2' ?_; (first | (first | (with_reducible show Ok (kf_let _ _) _) | (with_reducible show Ok (kf_j _ _) _) | (with_reducible show Ok (if _ then _ else _) _) | (with_reducible refine Ok.some ?_; try dsimp only) | (with_reducible show Ok (Option.bind (gR _ _) _) _) | (with_reducible show Ok (kf_in _ _ _) _) | (with_reducible show Ok (kf_nz _ _) _)) | (with_reducible refine Ok.c2' ?_; (first | (with_reducible show Ok (kf_let _ _) _) | (with_reducible show Ok (kf_j _ _) _) | (with_reducible show Ok (if _ then _ else _) _) | (with_reducible refine Ok.some ?_; try dsimp only) | (with_reducible show Ok (Option.bind (gR _ _) _) _) | (with_reducible show Ok (kf_in _ _ _) _) | (with_reducible show Ok (kf_nz _ _) _))))) | (with_reducible refine Ok.bind' ?_; (first | (first | (with_reducible show Ok (kf_let _ _) _) | (with_reducible show Ok (kf_j _ _) _) | (with_reducible show Ok (if _ then _ else _) _) | (with_reducible refine Ok.some ?_; try dsimp only) | (with_reducible show Ok (Option.bind (gR _ _) _) _) | (with_reducible show Ok (kf_in _ _ _) _) | (with_reducible show Ok (kf_nz _ _) _)) | (with_reducible refine Ok.c2' ?_; (first | (with_reducible show Ok (kf_let _ _) _) | (with_reducible show Ok (kf_j _ _) _) | (with_reducible show Ok (if _ then _ else _) _) | (with_reducible refine Ok.some ?_; try dsimp only) | (with_reducible show Ok (Option.bind (gR _ _) _) _) | (with_reducible show Ok (kf_in _ _ _) _) | (with_reducible show Ok (kf_nz _ _) _))))) | first | (with_reducible refine s_pos ?_ ?_; (focus (show (_ : String) = _; exact rfl))) | (with_reducible refine s_neg ?_ ?_; (focus (show ¬ ((_ : String) = _); decide))) | (first | (with_reducible refine s_pos ?_ ?_; (focus first | (simp (disch := omega) only [bG, Option.bind_some, Nat.reduceMul, Nat.reduceAdd, Nat.reduceEqDiff, Nat.reduceSub, Nat.reduceDiv, Nat.reduceLeDiff, bQ, bU, *]; done) | (simp (disch := omega) only [bG, Option.bind_some, Nat.reduceMul, Nat.reduceAdd, Nat.reduceEqDiff, Nat.reduceSub, Nat.reduceDiv, Nat.reduceLeDiff, bQ, bU, *]; omega) | omega)) | (with_reducible refine s_neg ?_ ?_; (focus first | (simp (disch := omega) only [bG, Option.bind_some, Nat.reduceMul, Nat.reduceAdd, Nat.reduceEqDiff, Nat.reduceSub, Nat.reduceDiv, Nat.reduceLeDiff, bQ, bU, *]; done) | (simp (disch := omega) only [bG, Option.bind_some, Nat.reduceMul, Nat.reduceAdd, Nat.reduceEqDiff, Nat.reduceSub, Nat.reduceDiv, Nat.reduceLeDiff, bQ, bU, *]; omega) | omega))))
    exact Ok.some rfl
  · rw [if_neg h8]
    by_cases h28 : k = 28
    · rw [if_pos h28]
      repeat (first | first | (with_reducible refine s_let ?_; intro x9 hx9; (try simp (disch := omega) only [bG, Option.bind_some, Nat.reduceMul, Nat.reduceAdd, Nat.reduceEqDiff, Nat.reduceSub, Nat.reduceDiv, Nat.reduceLeDiff, bQ, bU, *] at hx9); subst hx9) | (with_reducible refine s_R2 ?_ ?_; (focus (simp (disch := omega) only [bG, Option.bind_some, Nat.reduceMul, Nat.reduceAdd, Nat.reduceEqDiff, Nat.reduceSub, Nat.reduceDiv, Nat.reduceLeDiff, bQ, *, Option.isSome_some]; done)); (intro o9 ho9; simp (disch := omega) only [bG, Option.bind_some, Nat.reduceMul, Nat.reduceAdd, Nat.reduceEqDiff, Nat.reduceSub, Nat.reduceDiv, Nat.reduceLeDiff, bQ, *, Option.some.injEq] at ho9; subst ho9)) | (with_reducible refine s_in2 ?_ ?_; (focus first | (simp (disch := omega) only [bG, Option.bind_some, Nat.reduceMul, Nat.reduceAdd, Nat.reduceEqDiff, Nat.reduceSub, Nat.reduceDiv, Nat.reduceLeDiff, bQ, *, bK]; omega) | (simp (disch := omega) only [bG, Option.bind_some, Nat.reduceMul, Nat.reduceAdd, Nat.reduceEqDiff, Nat.reduceSub, Nat.reduceDiv, Nat.reduceLeDiff, bQ, *, bK, or_false, false_or, Nat.lt_irrefl, or_self, Nat.not_lt_zero]; done) | decide)) | (with_reducible refine s_nz ?_ ?_; (focus first | decide | assumption)) | (with_reducible refine s_nzl ?_ ?_; (focus decide)) | (with_reducible refine s_z ?_ ?_; (focus first | exact Or.inl rfl | exact Or.inr rfl | assumption)) | (with_reducible refine s_ji ?_) | first | (with_reducible refine s_h ?_) | (with_reducible refine s_t ?_) | (with_reducible apply s_chan; (focus first | with_reducible rfl | (simp (disch := omega) only [bG, Option.bind_some, Nat.reduceMul, Nat.reduceAdd, Nat.reduceEqDiff, Nat.reduceSub, Nat.reduceDiv, Nat.reduceLeDiff, bQ, bU, *]; with_reducible rfl)); (focus omega)) | (with_reducible refine Ok.c2' ?_; (first | (first | (with_reducible show Ok (kf_let _ _) _) | (with_reducible show Ok (kf_j _ _) _) | (with_reducible show Ok (if _ then _ else _) _) | (with_reducible refine Ok.some ?_; try dsimp only) | (with_reducible show Ok (Option.bind (gR _ _) _) _) | (with_reducible show Ok (kf_in _ _ _) _) | (with_reducible show Ok (kf_nz _ _) _)) | (with_reducible refine Ok.c2' ?_; (first | (with_reducible show Ok (kf_let _ _) _) | (with_reducible show Ok (kf_j _ _) _) | (with_reducible show Ok (if _ then _ else _) _) | (with_reducible refine Ok.some ?_; try dsimp only) | (with_reducible show Ok (Option.bind (gR _ _) _) _) | (with_reducible show Ok (kf_in _ _ _) _) | (with_reducible show Ok (kf_nz _ _) _))))) | (with_reducible refine Ok.bind' ?_; (first | (first | (with_reducible show Ok (kf_let _ _) _) | (with_reducible show Ok (kf_j _ _) _) | (with_reducible show Ok (if _ then _ else _) _) | (with_reducible refine Ok.some ?_; try dsimp only) | (with_reducible show Ok (Option.bind (gR _ _) _) _) | (with_reducible show Ok (kf_in _ _ _) _) | (with_reducible show Ok (kf_nz _ _) _)) | (with_reducible refine Ok.c2' ?_; (first | (with_reducible show Ok (kf_let _ _) _) | (with_reducible show Ok (kf_j _ _) _) | (with_reducible show Ok (if _ then _ else _) _) | (with_reducible refine Ok.some ?_; try dsimp only) | (with_reducible show Ok (Option.bind (gR _ _) _) _) | (with_reducible show Ok (kf_in _ _ _) _) | (with_reducible show Ok (kf_nz _ _) _))))) | first | (with_reducible refine s_pos ?_ ?_; (focus (show (_ : String) = _; exact rfl))) | (with_reducible refine s_neg ?_ ?_; (focus (show ¬ ((_ : String) = _); decide))) | (first | (with_reducible refine s_pos ?_ ?_; (focus first | (simp (disch := omega) only [bG, Option.bind_some, Nat.reduceMul, Nat.reduceAdd, Nat.reduceEqDiff, Nat.reduceSub, Nat.reduceDiv, Nat.reduceLeDiff, bQ, bU, *]; done) | (simp (disch := omega) only [bG, Option.bind_some, Nat.reduceMul, Nat.reduceAdd, Nat.reduceEqDiff, Nat.reduceSub, Nat.reduceDiv, Nat.reduceLeDiff, bQ, bU, *]; omega) | omega)) | (with_reducible refine s_neg ?_ ?_; (focus first | (simp (disch := omega) only [bG, Option.bind_some, Nat.reduceMul, Nat.reduceAdd, Nat.reduceEqDiff, Nat.reduceSub, Nat.reduceDiv, Nat.reduceLeDiff, bQ, bU, *]; done) | (simp (disch := omega) only [bG, Option.bind_some, Nat.reduceMul, Nat.reduceAdd, Nat.reduceEqDiff, Nat.reduceSub, Nat.reduceDiv, Nat.reduceLeDiff, bQ, bU, *]; omega) | omega))))
      exact Ok.some rfl
    · rw [if_neg h28]
      repeat (first | first | (with_reducible refine s_let ?_; intro x9 hx9; (try simp (disch := omega) only [bG, Option.bind_some, Nat.reduceMul, Nat.reduceAdd, Nat.reduceEqDiff, Nat.reduceSub, Nat.reduceDiv, Nat.reduceLeDiff, bQ, bU, *] at hx9); subst hx9) | (with_reducible refine s_R2 ?_ ?_; (focus (simp (disch := omega) only [bG, Option.bind_some, Nat.reduceMul, Nat.reduceAdd, Nat.reduceEqDiff, Nat.reduceSub, Nat.reduceDiv, Nat.reduceLeDiff, bQ, *, Option.isSome_some]; done)); (intro o9 ho9; simp (disch := omega) only [bG, Option.bind_some, Nat.reduceMul, Nat.reduceAdd, Nat.reduceEqDiff, Nat.reduceSub, Nat.reduceDiv, Nat.reduceLeDiff, bQ, *, Option.some.injEq] at ho9; subst ho9)) | (with_reducible refine s_in2 ?_ ?_; (focus first | (simp (disch := omega) only [bG, Option.bind_some, Nat.reduceMul, Nat.reduceAdd, Nat.reduceEqDiff, Nat.reduceSub, Nat.reduceDiv, Nat.reduceLeDiff, bQ, *, bK]; omega) | (simp (disch := omega) only [bG, Option.bind_some, Nat.reduceMul, Nat.reduceAdd, Nat.reduceEqDiff, Nat.reduceSub, Nat.reduceDiv, Nat.reduceLeDiff, bQ, *, bK, or_false, false_or, Nat.lt_irrefl, or_self, Nat.not_lt_zero]; done) | decide)) | (with_reducible refine s_nz ?_ ?_; (focus first | decide | assumption)) | (with_reducible refine s_nzl ?_ ?_; (focus decide)) | (with_reducible refine s_z ?_ ?_; (focus first | exact Or.inl rfl | exact Or.inr rfl | assumption)) | (with_reducible refine s_ji ?_) | first | (with_reducible refine s_h ?_) | (with_reducible refine s_t ?_) | (with_reducible apply s_chan; (focus first | with_reducible rfl | (simp (disch := omega) only [bG, Option.bind_some, Nat.reduceMul, Nat.reduceAdd, Nat.reduceEqDiff, Nat.reduceSub, Nat.reduceDiv, Nat.reduceLeDiff, bQ, bU, *]; with_reducible rfl)); (focus omega)) | (with_reducible refine Ok.c2' ?_; (first | (first | (with_reducible show Ok (kf_let _ _) _) | (with_reducible show Ok (kf_j _ _) _) | (with_reducible show Ok (if _ then _ else _) _) | (with_reducible refine Ok.some ?_; try dsimp only) | (with_reducible show Ok (Option.bind (gR _ _) _) _) | (with_reducible show Ok (kf_in _ _ _) _) | (with_reducible show Ok (kf_nz _ _) _)) | (with_reducible refine Ok.c2' ?_; (first | (with_reducible show Ok (kf_let _ _) _) | (with_reducible show Ok (kf_j _ _) _) | (with_reducible show Ok (if _ then _ else _) _) | (with_reducible refine Ok.some ?_; try dsimp only) | (with_reducible show Ok (Option.bind (gR _ _) _) _) | (with_reducible show Ok (kf_in _ _ _) _) | (with_reducible show Ok (kf_nz _ _) _))))) | (with_reducible refine Ok.bind' ?_; (first | (first | (with_reducible show Ok (kf_let _ _) _) | (with_reducible show Ok (kf_j _ _) _) | (with_reducible show Ok (if _ then _ else _) _) | (with_reducible refine Ok.some ?_; try dsimp only) | (with_reducible show Ok (Option.bind (gR _ _) _) _) | (with_reducible show Ok (kf_in _ _ _) _) | (with_reducible show Ok (kf_nz _ _) _)) | (with_reducible refine Ok.c2' ?_; (first | (with_reducible show Ok (kf_let _ _) _) | (with_reducible show Ok (kf_j _ _) _) | (with_reducible show Ok (if _ then _ else _) _) | (with_reducible refine Ok.some ?_; try dsimp only) | (with_reducible show Ok (Option.bind (gR _ _) _) _) | (with_reducible show Ok (kf_in _ _ _) _) | (with_reducible show Ok (kf_nz _ _) _))))) | first | (with_reducible refine s_pos ?_ ?_; (focus (show (_ : String) = _; exact rfl))) | (with_reducible refine s_neg ?_ ?_; (focus (show ¬ ((_ : String) = _); decide))) | (first | (with_reducible refine s_pos ?_ ?_; (focus first | (simp (disch := omega) only [bG, Option.bind_some, Nat.reduceMul, Nat.reduceAdd, Nat.reduceEqDiff, Nat.reduceSub, Nat.reduceDiv, Nat.reduceLeDiff, bQ, bU, *]; done) | (simp (disch := omega) only [bG, Option.bind_some, Nat.reduceMul, Nat.reduceAdd, Nat.reduceEqDiff, Nat.reduceSub, Nat.reduceDiv, Nat.reduceLeDiff, bQ, bU, *]; omega) | omega)) | (with_reducible refine s_neg ?_ ?_; (focus first | (simp (disch := omega) only [bG, Option.bind_some, Nat.reduceMul, Nat.reduceAdd, Nat.reduceEqDiff, Nat.reduceSub, Nat.reduceDiv, Nat.reduceLeDiff, bQ, bU, *]; done) | (simp (disch := omega) only [bG, Option.bind_some, Nat.reduceMul, Nat.reduceAdd, Nat.reduceEqDiff, Nat.reduceSub, Nat.reduceDiv, Nat.reduceLeDiff, bQ, bU, *]; omega) | omega))))
      refine Ok.some ?_
      rw [show (261 : Int32) = N 261 from rfl, show (4 : Int32) = N 4 from rfl, N_sub (by omega), N_div (by omega) (by decide), show (257 + k - 261) / 4 = (k - 4) / 4 by omega]
theorem Md_moreDistance_eq {n k : Nat} {x : Int32} {σ : Mm} (e : x = N k) (hk : k < 30) : F_Md_moreDistance n x σ = some (N (dsX k), σ) := by
  subst e
  apply Ok.eq
  rw [dsX_e k hk]
  unfold F_Md_moreDistance
  by_cases h4 : 4 ≤ k
  · rw [if_pos h4]
    repeat (first | first | (with_reducible refine s_let ?_; intro x9 hx9; (try simp (disch := omega) only [bG, Option.bind_some, Nat.reduceMul, Nat.reduceAdd, Nat.reduceEqDiff, Nat.reduceSub, Nat.reduceDiv, Nat.reduceLeDiff, bQ, bU, *] at hx9); subst hx9) | (with_reducible refine s_R2 ?_ ?_; (focus (simp (disch := omega) only [bG, Option.bind_some, Nat.reduceMul, Nat.reduceAdd, Nat.reduceEqDiff, Nat.reduceSub, Nat.reduceDiv, Nat.reduceLeDiff, bQ, *, Option.isSome_some]; done)); (intro o9 ho9; simp (disch := omega) only [bG, Option.bind_some, Nat.reduceMul, Nat.reduceAdd, Nat.reduceEqDiff, Nat.reduceSub, Nat.reduceDiv, Nat.reduceLeDiff, bQ, *, Option.some.injEq] at ho9; subst ho9)) | (with_reducible refine s_in2 ?_ ?_; (focus first | (simp (disch := omega) only [bG, Option.bind_some, Nat.reduceMul, Nat.reduceAdd, Nat.reduceEqDiff, Nat.reduceSub, Nat.reduceDiv, Nat.reduceLeDiff, bQ, *, bK]; omega) | (simp (disch := omega) only [bG, Option.bind_some, Nat.reduceMul, Nat.reduceAdd, Nat.reduceEqDiff, Nat.reduceSub, Nat.reduceDiv, Nat.reduceLeDiff, bQ, *, bK, or_false, false_or, Nat.lt_irrefl, or_self, Nat.not_lt_zero]; done) | decide)) | (with_reducible refine s_nz ?_ ?_; (focus first | decide | assumption)) | (with_reducible refine s_nzl ?_ ?_; (focus decide)) | (with_reducible refine s_z ?_ ?_; (focus first | exact Or.inl rfl | exact Or.inr rfl | assumption)) | (with_reducible refine s_ji ?_) | first | (with_reducible refine s_h ?_) | (with_reducible refine s_t ?_) | (with_reducible apply s_chan; (focus first | with_reducible rfl | (simp (disch := omega) only [bG, Option.bind_some, Nat.reduceMul, Nat.reduceAdd, Nat.reduceEqDiff, Nat.reduceSub, Nat.reduceDiv, Nat.reduceLeDiff, bQ, bU, *]; with_reducible rfl)); (focus omega)) | (with_reducible refine Ok.c2' ?_; (first | (first | (with_reducible show Ok (kf_let _ _) _) | (with_reducible show Ok (kf_j _ _) _) | (with_reducible show Ok (if _ then _ else _) _) | (with_reducible refine Ok.some ?_; try dsimp only) | (with_reducible show Ok (Option.bind (gR _ _) _) _) | (with_reducible show Ok (kf_in _ _ _) _) | (with_reducible show Ok (kf_nz _ _) _)) | (with_reducible refine Ok.c2' ?_; (first | (with_reducible show Ok (kf_let _ _) _) | (with_reducible show Ok (kf_j _ _) _) | (with_reducible show Ok (if _ then _ else _) _) | (with_reducible refine Ok.some ?_; try dsimp only) | (with_reducible show Ok (Option.bind (gR _ _) _) _) | (with_reducible show Ok (kf_in _ _ _) _) | (with_reducible show Ok (kf_nz _ _) _))))) | (with_reducible refine Ok.bind' ?_; (first | (first | (with_reducible show Ok (kf_let _ _) _) | (with_reducible show Ok (kf_j _ _) _) | (with_reducible show Ok (if _ then _ else _) _) | (with_reducible refine Ok.some ?_; try dsimp only) | (with_reducible show Ok (Option.bind (gR _ _) _) _) | (with_reducible show Ok (kf_in _ _ _) _) | (with_reducible show Ok (kf_nz _ _) _)) | (with_reducible refine Ok.c2' ?_; (first | (with_reducible show Ok (kf_let _ _) _) | (with_reducible show Ok (kf_j _ _) _) | (with_reducible show Ok (if _ then _ else _) _) | (with_reducible refine Ok.some ?_; try dsimp only) | (with_reducible show Ok (Option.bind (gR _ _) _) _) | (with_reducible show Ok (kf_in _ _ _) _) | (with_reducible show Ok (kf_nz _ _) _))))) | first | (with_reducible refine s_pos ?_ ?_; (focus (show (_ : String) = _; exact rfl))) | (with_reducible refine s_neg ?_ ?_; (focus (show ¬ ((_ : String) = _); decide))) | (first | (with_reducible refine s_pos ?_ ?_; (focus first | (simp (disch := omega) only [bG, Option.bind_some, Nat.reduceMul, Nat.reduceAdd, Nat.reduceEqDiff, Nat.reduceSub, Nat.reduceDiv, Nat.reduceLeDiff, bQ, bU, *]; done) | (simp (disch := omega) only [bG, Option.bind_some, Nat.reduceMul, Nat.reduceAdd, Nat.reduceEqDiff, Nat.reduceSub, Nat.reduceDiv, Nat.reduceLeDiff, bQ, bU, *]; omega) | omega)) | (with_reducible refine s_neg ?_ ?_; (focus first | (simp (disch := omega) only [bG, Option.bind_some, Nat.reduceMul, Nat.reduceAdd, Nat.reduceEqDiff, Nat.reduceSub, Nat.reduceDiv, Nat.reduceLeDiff, bQ, bU, *]; done) | (simp (disch := omega) only [bG, Option.bind_some, Nat.reduceMul, Nat.reduceAdd, Nat.reduceEqDiff, Nat.reduceSub, Nat.reduceDiv, Nat.reduceLeDiff, bQ, bU, *]; omega) | omega))))
    refine Ok.some ?_
    rw [show (2 : Int32) = N 2 from rfl, N_sub (by omega), N_div (by omega) (by decide)]
  · rw [if_neg h4]
    repeat (first | first | (with_reducible refine s_let ?_; intro x9 hx9; (try simp (disch := omega) only [bG, Option.bind_some, Nat.reduceMul, Nat.reduceAdd, Nat.reduceEqDiff, Nat.reduceSub, Nat.reduceDiv, Nat.reduceLeDiff, bQ, bU, *] at hx9); subst hx9) | (with_reducible refine s_R2 ?_ ?_; (focus (simp (disch := omega) only [bG, Option.bind_some, Nat.reduceMul, Nat.reduceAdd, Nat.reduceEqDiff, Nat.reduceSub, Nat.reduceDiv, Nat.reduceLeDiff, bQ, *, Option.isSome_some]; done)); (intro o9 ho9; simp (disch := omega) only [bG, Option.bind_some, Nat.reduceMul, Nat.reduceAdd, Nat.reduceEqDiff, Nat.reduceSub, Nat.reduceDiv, Nat.reduceLeDiff, bQ, *, Option.some.injEq] at ho9; subst ho9)) | (with_reducible refine s_in2 ?_ ?_; (focus first | (simp (disch := omega) only [bG, Option.bind_some, Nat.reduceMul, Nat.reduceAdd, Nat.reduceEqDiff, Nat.reduceSub, Nat.reduceDiv, Nat.reduceLeDiff, bQ, *, bK]; omega) | (simp (disch := omega) only [bG, Option.bind_some, Nat.reduceMul, Nat.reduceAdd, Nat.reduceEqDiff, Nat.reduceSub, Nat.reduceDiv, Nat.reduceLeDiff, bQ, *, bK, or_false, false_or, Nat.lt_irrefl, or_self, Nat.not_lt_zero]; done) | decide)) | (with_reducible refine s_nz ?_ ?_; (focus first | decide | assumption)) | (with_reducible refine s_nzl ?_ ?_; (focus decide)) | (with_reducible refine s_z ?_ ?_; (focus first | exact Or.inl rfl | exact Or.inr rfl | assumption)) | (with_reducible refine s_ji ?_) | first | (with_reducible refine s_h ?_) | (with_reducible refine s_t ?_) | (with_reducible apply s_chan; (focus first | with_reducible rfl | (simp (disch := omega) only [bG, Option.bind_some, Nat.reduceMul, Nat.reduceAdd, Nat.reduceEqDiff, Nat.reduceSub, Nat.reduceDiv, Nat.reduceLeDiff, bQ, bU, *]; with_reducible rfl)); (focus omega)) | (with_reducible refine Ok.c2' ?_; (first | (first | (with_reducible show Ok (kf_let _ _) _) | (with_reducible show Ok (kf_j _ _) _) | (with_reducible show Ok (if _ then _ else _) _) | (with_reducible refine Ok.some ?_; try dsimp only) | (with_reducible show Ok (Option.bind (gR _ _) _) _) | (with_reducible show Ok (kf_in _ _ _) _) | (with_reducible show Ok (kf_nz _ _) _)) | (with_reducible refine Ok.c2' ?_; (first | (with_reducible show Ok (kf_let _ _) _) | (with_reducible show Ok (kf_j _ _) _) | (with_reducible show Ok (if _ then _ else _) _) | (with_reducible refine Ok.some ?_; try dsimp only) | (with_reducible show Ok (Option.bind (gR _ _) _) _) | (with_reducible show Ok (kf_in _ _ _) _) | (with_reducible show Ok (kf_nz _ _) _))))) | (with_reducible refine Ok.bind' ?_; (first | (first | (with_reducible show Ok (kf_let _ _) _) | (with_reducible show Ok (kf_j _ _) _) | (with_reducible show Ok (if _ then _ else _) _) | (with_reducible refine Ok.some ?_; try dsimp only) | (with_reducible show Ok (Option.bind (gR _ _) _) _) | (with_reducible show Ok (kf_in _ _ _) _) | (with_reducible show Ok (kf_nz _ _) _)) | (with_reducible refine Ok.c2' ?_; (first | (with_reducible show Ok (kf_let _ _) _) | (with_reducible show Ok (kf_j _ _) _) | (with_reducible show Ok (if _ then _ else _) _) | (with_reducible refine Ok.some ?_; try dsimp only) | (with_reducible show Ok (Option.bind (gR _ _) _) _) | (with_reducible show Ok (kf_in _ _ _) _) | (with_reducible show Ok (kf_nz _ _) _))))) | first | (with_reducible refine s_pos ?_ ?_; (focus (show (_ : String) = _; exact rfl))) | (with_reducible refine s_neg ?_ ?_; (focus (show ¬ ((_ : String) = _); decide))) | (first | (with_reducible refine s_pos ?_ ?_; (focus first | (simp (disch := omega) only [bG, Option.bind_some, Nat.reduceMul, Nat.reduceAdd, Nat.reduceEqDiff, Nat.reduceSub, Nat.reduceDiv, Nat.reduceLeDiff, bQ, bU, *]; done) | (simp (disch := omega) only [bG, Option.bind_some, Nat.reduceMul, Nat.reduceAdd, Nat.reduceEqDiff, Nat.reduceSub, Nat.reduceDiv, Nat.reduceLeDiff, bQ, bU, *]; omega) | omega)) | (with_reducible refine s_neg ?_ ?_; (focus first | (simp (disch := omega) only [bG, Option.bind_some, Nat.reduceMul, Nat.reduceAdd, Nat.reduceEqDiff, Nat.reduceSub, Nat.reduceDiv, Nat.reduceLeDiff, bQ, bU, *]; done) | (simp (disch := omega) only [bG, Option.bind_some, Nat.reduceMul, Nat.reduceAdd, Nat.reduceEqDiff, Nat.reduceSub, Nat.reduceDiv, Nat.reduceLeDiff, bQ, bU, *]; omega) | omega))))
    exact Ok.some rfl
theorem Md_lengthFrom_eq {n k : Nat} {x : Int32} {σ : Mm} (e : x = N (257 + k)) (hn : 100 < n) (hk : k < 29) : F_Md_lengthFrom n x σ = some (N (lnT k), σ) := by
  subst e
  apply Ok.eq
  unfold F_Md_lengthFrom
  by_cases h28 : k = 28
  · subst h28
    exact s_pos (by decide) (Ok.some rfl)
  · refine s_neg (by first | (simp (disch := omega) only [bG, Option.bind_some, Nat.reduceMul, Nat.reduceAdd, Nat.reduceEqDiff, Nat.reduceSub, Nat.reduceDiv, Nat.reduceLeDiff, bQ, bU, *]; done) | (simp (disch := omega) only [bG, Option.bind_some, Nat.reduceMul, Nat.reduceAdd, Nat.reduceEqDiff, Nat.reduceSub, Nat.reduceDiv, Nat.reduceLeDiff, bQ, bU, *]; omega) | omega) ?_
    refine ok_for 0 k (fun j x s => σ = s ∧ x = (N (lnT j), N (257 + j))) ?_ (by omega) (by omega) ⟨rfl, rfl⟩
    rintro j k9 x s - hj ⟨rfl, rfl⟩ ih
    by_cases hj2 : k = j
    · subst hj2
      refine s_pos (Int32.le_refl _) (Ok.some rfl)
    · refine s_neg (by first | (simp (disch := omega) only [bG, Option.bind_some, Nat.reduceMul, Nat.reduceAdd, Nat.reduceEqDiff, Nat.reduceSub, Nat.reduceDiv, Nat.reduceLeDiff, bQ, bU, *]; done) | (simp (disch := omega) only [bG, Option.bind_some, Nat.reduceMul, Nat.reduceAdd, Nat.reduceEqDiff, Nat.reduceSub, Nat.reduceDiv, Nat.reduceLeDiff, bQ, bU, *]; omega) | omega) ?_
      refine s_c (Md_moreBits_eq rfl (by omega)) ?_
      have hb := (lnT_b j (by omega)).2
      refine s_let (fun x9 hx9 => ?_)
      rw [show (1 : Int32) = N 1 from rfl, show (31 : Int32) = N 31 from rfl, N_shl (by omega), N_add, Nat.shiftLeft_eq, Nat.one_mul, ← lnT_s j (by omega)] at hx9
      subst hx9
      repeat (first | first | (with_reducible refine s_let ?_; intro x9 hx9; (try simp (disch := omega) only [bG, Option.bind_some, Nat.reduceMul, Nat.reduceAdd, Nat.reduceEqDiff, Nat.reduceSub, Nat.reduceDiv, Nat.reduceLeDiff, bQ, bU, *] at hx9); subst hx9) | (with_reducible refine s_R2 ?_ ?_; (focus (simp (disch := omega) only [bG, Option.bind_some, Nat.reduceMul, Nat.reduceAdd, Nat.reduceEqDiff, Nat.reduceSub, Nat.reduceDiv, Nat.reduceLeDiff, bQ, *, Option.isSome_some]; done)); (intro o9 ho9; simp (disch := omega) only [bG, Option.bind_some, Nat.reduceMul, Nat.reduceAdd, Nat.reduceEqDiff, Nat.reduceSub, Nat.reduceDiv, Nat.reduceLeDiff, bQ, *, Option.some.injEq] at ho9; subst ho9)) | (with_reducible refine s_in2 ?_ ?_; (focus first | (simp (disch := omega) only [bG, Option.bind_some, Nat.reduceMul, Nat.reduceAdd, Nat.reduceEqDiff, Nat.reduceSub, Nat.reduceDiv, Nat.reduceLeDiff, bQ, *, bK]; omega) | (simp (disch := omega) only [bG, Option.bind_some, Nat.reduceMul, Nat.reduceAdd, Nat.reduceEqDiff, Nat.reduceSub, Nat.reduceDiv, Nat.reduceLeDiff, bQ, *, bK, or_false, false_or, Nat.lt_irrefl, or_self, Nat.not_lt_zero]; done) | decide)) | (with_reducible refine s_nz ?_ ?_; (focus first | decide | assumption)) | (with_reducible refine s_nzl ?_ ?_; (focus decide)) | (with_reducible refine s_z ?_ ?_; (focus first | exact Or.inl rfl | exact Or.inr rfl | assumption)) | (with_reducible refine s_ji ?_) | first | (with_reducible refine s_h ?_) | (with_reducible refine s_t ?_) | (with_reducible apply s_chan; (focus first | with_reducible rfl | (simp (disch := omega) only [bG, Option.bind_some, Nat.reduceMul, Nat.reduceAdd, Nat.reduceEqDiff, Nat.reduceSub, Nat.reduceDiv, Nat.reduceLeDiff, bQ, bU, *]; with_reducible rfl)); (focus omega)) | (with_reducible refine Ok.c2' ?_; (first | (first | (with_reducible show Ok (kf_let _ _) _) | (with_reducible show Ok (kf_j _ _) _) | (with_reducible show Ok (if _ then _ else _) _) | (with_reducible refine Ok.some ?_; try dsimp only) | (with_reducible show Ok (Option.bind (gR _ _) _) _) | (with_reducible show Ok (kf_in _ _ _) _) | (with_reducible show Ok (kf_nz _ _) _)) | (with_reducible refine Ok.c2' ?_; (first | (with_reducible show Ok (kf_let _ _) _) | (with_reducible show Ok (kf_j _ _) _) | (with_reducible show Ok (if _ then _ else _) _) | (with_reducible refine Ok.some ?_; try dsimp only) | (with_reducible show Ok (Option.bind (gR _ _) _) _) | (with_reducible show Ok (kf_in _ _ _) _) | (with_reducible show Ok (kf_nz _ _) _))))) | (with_reducible refine Ok.bind' ?_; (first | (first | (with_reducible show Ok (kf_let _ _) _) | (with_reducible show Ok (kf_j _ _) _) | (with_reducible show Ok (if _ then _ else _) _) | (with_reducible refine Ok.some ?_; try dsimp only) | (with_reducible show Ok (Option.bind (gR _ _) _) _) | (with_reducible show Ok (kf_in _ _ _) _) | (with_reducible show Ok (kf_nz _ _) _)) | (with_reducible refine Ok.c2' ?_; (first | (with_reducible show Ok (kf_let _ _) _) | (with_reducible show Ok (kf_j _ _) _) | (with_reducible show Ok (if _ then _ else _) _) | (with_reducible refine Ok.some ?_; try dsimp only) | (with_reducible show Ok (Option.bind (gR _ _) _) _) | (with_reducible show Ok (kf_in _ _ _) _) | (with_reducible show Ok (kf_nz _ _) _))))) | first | (with_reducible refine s_pos ?_ ?_; (focus (show (_ : String) = _; exact rfl))) | (with_reducible refine s_neg ?_ ?_; (focus (show ¬ ((_ : String) = _); decide))) | (first | (with_reducible refine s_pos ?_ ?_; (focus first | (simp (disch := omega) only [bG, Option.bind_some, Nat.reduceMul, Nat.reduceAdd, Nat.reduceEqDiff, Nat.reduceSub, Nat.reduceDiv, Nat.reduceLeDiff, bQ, bU, *]; done) | (simp (disch := omega) only [bG, Option.bind_some, Nat.reduceMul, Nat.reduceAdd, Nat.reduceEqDiff, Nat.reduceSub, Nat.reduceDiv, Nat.reduceLeDiff, bQ, bU, *]; omega) | omega)) | (with_reducible refine s_neg ?_ ?_; (focus first | (simp (disch := omega) only [bG, Option.bind_some, Nat.reduceMul, Nat.reduceAdd, Nat.reduceEqDiff, Nat.reduceSub, Nat.reduceDiv, Nat.reduceLeDiff, bQ, bU, *]; done) | (simp (disch := omega) only [bG, Option.bind_some, Nat.reduceMul, Nat.reduceAdd, Nat.reduceEqDiff, Nat.reduceSub, Nat.reduceDiv, Nat.reduceLeDiff, bQ, bU, *]; omega) | omega))))
      exact ih (by omega) _ _ ⟨rfl, rfl⟩
theorem Md_distanceFrom_eq {n k : Nat} {x : Int32} {σ : Mm} (e : x = N k) (hn : 100 < n) (hk : k < 30) : F_Md_distanceFrom n x σ = some (N (dsT k), σ) := by
  subst e
  apply Ok.eq
  unfold F_Md_distanceFrom
  refine ok_for 0 k (fun j x s => σ = s ∧ x = (N (dsT j), N j)) ?_ (by omega) (by omega) ⟨rfl, rfl⟩
  rintro j k9 x s - hj ⟨rfl, rfl⟩ ih
  by_cases hj2 : k = j
  · subst hj2
    refine s_pos (Int32.le_refl _) (Ok.some rfl)
  · refine s_neg (by first | (simp (disch := omega) only [bG, Option.bind_some, Nat.reduceMul, Nat.reduceAdd, Nat.reduceEqDiff, Nat.reduceSub, Nat.reduceDiv, Nat.reduceLeDiff, bQ, bU, *]; done) | (simp (disch := omega) only [bG, Option.bind_some, Nat.reduceMul, Nat.reduceAdd, Nat.reduceEqDiff, Nat.reduceSub, Nat.reduceDiv, Nat.reduceLeDiff, bQ, bU, *]; omega) | omega) ?_
    refine s_c (Md_moreDistance_eq rfl (by omega)) ?_
    have hb := (dsT_b j (by omega)).2
    refine s_let (fun x9 hx9 => ?_)
    rw [show (1 : Int32) = N 1 from rfl, show (31 : Int32) = N 31 from rfl, N_shl (by omega), N_add, Nat.shiftLeft_eq, Nat.one_mul, ← dsT_s j (by omega)] at hx9
    subst hx9
    repeat (first | first | (with_reducible refine s_let ?_; intro x9 hx9; (try simp (disch := omega) only [bG, Option.bind_some, Nat.reduceMul, Nat.reduceAdd, Nat.reduceEqDiff, Nat.reduceSub, Nat.reduceDiv, Nat.reduceLeDiff, bQ, bU, *] at hx9); subst hx9) | (with_reducible refine s_R2 ?_ ?_; (focus (simp (disch := omega) only [bG, Option.bind_some, Nat.reduceMul, Nat.reduceAdd, Nat.reduceEqDiff, Nat.reduceSub, Nat.reduceDiv, Nat.reduceLeDiff, bQ, *, Option.isSome_some]; done)); (intro o9 ho9; simp (disch := omega) only [bG, Option.bind_some, Nat.reduceMul, Nat.reduceAdd, Nat.reduceEqDiff, Nat.reduceSub, Nat.reduceDiv, Nat.reduceLeDiff, bQ, *, Option.some.injEq] at ho9; subst ho9)) | (with_reducible refine s_in2 ?_ ?_; (focus first | (simp (disch := omega) only [bG, Option.bind_some, Nat.reduceMul, Nat.reduceAdd, Nat.reduceEqDiff, Nat.reduceSub, Nat.reduceDiv, Nat.reduceLeDiff, bQ, *, bK]; omega) | (simp (disch := omega) only [bG, Option.bind_some, Nat.reduceMul, Nat.reduceAdd, Nat.reduceEqDiff, Nat.reduceSub, Nat.reduceDiv, Nat.reduceLeDiff, bQ, *, bK, or_false, false_or, Nat.lt_irrefl, or_self, Nat.not_lt_zero]; done) | decide)) | (with_reducible refine s_nz ?_ ?_; (focus first | decide | assumption)) | (with_reducible refine s_nzl ?_ ?_; (focus decide)) | (with_reducible refine s_z ?_ ?_; (focus first | exact Or.inl rfl | exact Or.inr rfl | assumption)) | (with_reducible refine s_ji ?_) | first | (with_reducible refine s_h ?_) | (with_reducible refine s_t ?_) | (with_reducible apply s_chan; (focus first | with_reducible rfl | (simp (disch := omega) only [bG, Option.bind_some, Nat.reduceMul, Nat.reduceAdd, Nat.reduceEqDiff, Nat.reduceSub, Nat.reduceDiv, Nat.reduceLeDiff, bQ, bU, *]; with_reducible rfl)); (focus omega)) | (with_reducible refine Ok.c2' ?_; (first | (first | (with_reducible show Ok (kf_let _ _) _) | (with_reducible show Ok (kf_j _ _) _) | (with_reducible show Ok (if _ then _ else _) _) | (with_reducible refine Ok.some ?_; try dsimp only) | (with_reducible show Ok (Option.bind (gR _ _) _) _) | (with_reducible show Ok (kf_in _ _ _) _) | (with_reducible show Ok (kf_nz _ _) _)) | (with_reducible refine Ok.c2' ?_; (first | (with_reducible show Ok (kf_let _ _) _) | (with_reducible show Ok (kf_j _ _) _) | (with_reducible show Ok (if _ then _ else _) _) | (with_reducible refine Ok.some ?_; try dsimp only) | (with_reducible show Ok (Option.bind (gR _ _) _) _) | (with_reducible show Ok (kf_in _ _ _) _) | (with_reducible show Ok (kf_nz _ _) _))))) | (with_reducible refine Ok.bind' ?_; (first | (first | (with_reducible show Ok (kf_let _ _) _) | (with_reducible show Ok (kf_j _ _) _) | (with_reducible show Ok (if _ then _ else _) _) | (with_reducible refine Ok.some ?_; try dsimp only) | (with_reducible show Ok (Option.bind (gR _ _) _) _) | (with_reducible show Ok (kf_in _ _ _) _) | (with_reducible show Ok (kf_nz _ _) _)) | (with_reducible refine Ok.c2' ?_; (first | (with_reducible show Ok (kf_let _ _) _) | (with_reducible show Ok (kf_j _ _) _) | (with_reducible show Ok (if _ then _ else _) _) | (with_reducible refine Ok.some ?_; try dsimp only) | (with_reducible show Ok (Option.bind (gR _ _) _) _) | (with_reducible show Ok (kf_in _ _ _) _) | (with_reducible show Ok (kf_nz _ _) _))))) | first | (with_reducible refine s_pos ?_ ?_; (focus (show (_ : String) = _; exact rfl))) | (with_reducible refine s_neg ?_ ?_; (focus (show ¬ ((_ : String) = _); decide))) | (first | (with_reducible refine s_pos ?_ ?_; (focus first | (simp (disch := omega) only [bG, Option.bind_some, Nat.reduceMul, Nat.reduceAdd, Nat.reduceEqDiff, Nat.reduceSub, Nat.reduceDiv, Nat.reduceLeDiff, bQ, bU, *]; done) | (simp (disch := omega) only [bG, Option.bind_some, Nat.reduceMul, Nat.reduceAdd, Nat.reduceEqDiff, Nat.reduceSub, Nat.reduceDiv, Nat.reduceLeDiff, bQ, bU, *]; omega) | omega)) | (with_reducible refine s_neg ?_ ?_; (focus first | (simp (disch := omega) only [bG, Option.bind_some, Nat.reduceMul, Nat.reduceAdd, Nat.reduceEqDiff, Nat.reduceSub, Nat.reduceDiv, Nat.reduceLeDiff, bQ, bU, *]; done) | (simp (disch := omega) only [bG, Option.bind_some, Nat.reduceMul, Nat.reduceAdd, Nat.reduceEqDiff, Nat.reduceSub, Nat.reduceDiv, Nat.reduceLeDiff, bQ, bU, *]; omega) | omega))))
    exact ih (by omega) _ _ ⟨rfl, rfl⟩
theorem lastUpTo_eq {n r v c : Nat} {x : Int32} {T : Nat → Nat} {σ : Mm} (e : x = N v) (hn : 100 < n) (hr : (mm_kd r).2.2 = c + 1) (hc : c < 60) (hv : v < 100000) (hT : ∀ k, k ≤ c → gB σ r k = N (T k) ∧ T k < 100000) : F_Packer_lastUpTo n r x σ = some (N (lk T v c), σ) := by
  subst e
  apply Ok.eq
  unfold F_Packer_lastUpTo
  rw [hr]
  refine s_let (fun x9 hx9 => ?_)
  rw [N_ofNat, show (1 : Int32) = N 1 from rfl, N_sub (by omega), Nat.add_sub_cancel] at hx9
  subst hx9
  refine ok_for 0 c (fun j x s => σ = s ∧ x = N (c - j) ∧ lk T v c = lk T v (c - j)) ?_ (by omega) (by omega) ⟨rfl, rfl, rfl⟩
  rintro j k9 x s - hj ⟨rfl, rfl, hl⟩ ih
  rw [hl]
  obtain ⟨k, hk⟩ : ∃ k, c - j = k := ⟨_, rfl⟩
  rw [hk] at hl ⊢
  refine s_ji ?_
  by_cases hk0 : k = 0
  · subst hk0
    refine s_pos (by decide) (Ok.some rfl)
  · refine s_neg (by rw [show (0 : Int32) = N 0 from rfl, N_le (by omega) (by decide)]; omega) ?_
    refine s_in rfl (by omega) (by omega) ?_
    obtain ⟨t1, t2⟩ := hT k (by omega)
    rw [N_nat (by omega), t1]
    by_cases ht : T k ≤ v
    · refine s_pos ((N_le (by omega) (by omega)).mpr ht) (Ok.some ?_)
      rw [lk_self (Or.inr ht)]
    · refine s_neg (by rw [N_le (by omega) (by omega)]; exact ht) ?_
      obtain ⟨k', rfl⟩ : ∃ k', k = k' + 1 := ⟨k - 1, by omega⟩
      refine s_let (fun x9 hx9 => ?_)
      rw [show N (k' + 1) + Int32.ofInt (-1) = N k' by
        rw [← N_add]
        apply Int32.toBitVec_inj.1
        show (N k').toBitVec + 1#32 + (Int32.ofInt (-1)).toBitVec = _
        rw [show (Int32.ofInt (-1)).toBitVec = 4294967295#32 by decide]
        generalize (N k').toBitVec = y
        bv_omega] at hx9
      subst hx9
      have e0 : lk T v (k' + 1) = lk T v k' := if_neg ht
      rw [e0]
      have := ih (by omega) (N k') σ ⟨rfl, by congr 1; omega, by rw [hl, e0]; congr 1; omega⟩
      rw [hl, e0] at this
      exact this
/-- a copy is put -/
def cpB (B : ((Nat → Nat) × Nat) × Nat × Nat) (l d : Nat) : ((Nat → Nat) × Nat) × Nat × Nat := nmB (cdB (nmB (sg B (257 + lk lnT l 28)) (l - lnT (lk lnT l 28)) (lnX (lk lnT l 28))) (lk dsT d 29) 5) (d - dsT (lk dsT d 29)) (dsX (lk dsT d 29))
def bl (B : ((Nat → Nat) × Nat) × Nat × Nat) : Nat := 8 * B.1.2 + B.2.2
theorem nmB_ok {B : ((Nat → Nat) × Nat) × Nat × Nat} {v m : Nat} (h : Bok B) : Bok (nmB B v m) ∧ bl (nmB B v m) = bl B + m := ⟨pbs_ok h (fun _ => Nat.mod_lt _ (by decide)) m, pbs_len⟩
theorem cdB_ok {B : ((Nat → Nat) × Nat) × Nat × Nat} {v m : Nat} (h : Bok B) : Bok (cdB B v m) ∧ bl (cdB B v m) = bl B + m := ⟨pbs_ok h (fun _ => Nat.mod_lt _ (by decide)) m, pbs_len⟩
theorem sg_ok {B : ((Nat → Nat) × Nat) × Nat × Nat} {s : Nat} (h : Bok B) : Bok (sg B s) ∧ bl (sg B s) ≤ bl B + 9 := by
  have := cdB_ok (v := sgC s) (m := sgN s) h
  refine ⟨this.1, ?_⟩
  unfold sg
  rw [this.2]
  unfold sgN
  (repeat' split) <;> omega
theorem nmB_b {B : ((Nat → Nat) × Nat) × Nat × Nat} {v m : Nat} (h : Bok B) (hS : Sb B.1) : Sb (nmB B v m).1 := pbs_b h (fun _ => Nat.mod_lt _ (by decide)) hS m
theorem cdB_b {B : ((Nat → Nat) × Nat) × Nat × Nat} {v m : Nat} (h : Bok B) (hS : Sb B.1) : Sb (cdB B v m).1 := pbs_b h (fun _ => Nat.mod_lt _ (by decide)) hS m
theorem cpB_ok {B : ((Nat → Nat) × Nat) × Nat × Nat} {l d : Nat} (h : Bok B) : Bok (cpB B l d) ∧ bl (cpB B l d) ≤ bl B + 32 := by
  have k1 := lk_le (T := lnT) (v := l) 28
  have k2 := lk_le (T := dsT) (v := d) 29
  have x1 := (lnT_b _ (show lk lnT l 28 < 29 by omega)).2
  have x2 := (dsT_b _ (show lk dsT d 29 < 30 by omega)).2
  have a := sg_ok (s := 257 + lk lnT l 28) h
  have b := nmB_ok (v := l - lnT (lk lnT l 28)) (m := lnX (lk lnT l 28)) a.1
  have c := cdB_ok (v := lk dsT d 29) (m := 5) b.1
  have e := nmB_ok (v := d - dsT (lk dsT d 29)) (m := dsX (lk dsT d 29)) c.1
  refine ⟨e.1, ?_⟩
  show bl (nmB _ _ _) ≤ _
  omega
theorem cpB_b {B : ((Nat → Nat) × Nat) × Nat × Nat} {l d : Nat} (h : Bok B) (hS : Sb B.1) : Sb (cpB B l d).1 := by
  have a := sg_ok (s := 257 + lk lnT l 28) h
  have b := nmB_ok (v := l - lnT (lk lnT l 28)) (m := lnX (lk lnT l 28)) a.1
  have c := cdB_ok (v := lk dsT d 29) (m := 5) b.1
  exact nmB_b c.1 (cdB_b b.1 (nmB_b a.1 (cdB_b h hS)))
theorem nm_C {n v m : Nat} {x y : Int32} {B : ((Nat → Nat) × Nat) × Nat × Nat} {σ : Mm} (e1 : x = N v) (e2 : y = N m) (hn : 100 < n) (hp : PtC σ) (h : BC B σ) (hB : Bok B) (hv : v < 2 ^ m) (hm : m ≤ 16) (hl : B.1.2 + 10 < 65536) : Ok (F_Packer_addBits n 35 x y σ) (fun s => BC (nmB B v m) s ∧ Fr PCb AT σ s) := addBits_ok e1 e2 hn hp h hB hv hm hl
theorem C_copy {n l d : Nat} {B : ((Nat → Nat) × Nat) × Nat × Nat} {σ : Mm} (hn : 100 < n) (hp : PtC σ) (hst : Stat σ) (h : BC B σ) (hB : Bok B) (g7 : gS σ 2247 = N l) (g8 : gS σ 2248 = N d) (hl1 : 3 ≤ l) (hl2 : l ≤ 258) (hd1 : 1 ≤ d) (hd2 : d ≤ 32768) (hl : B.1.2 + 20 < 65536) : Ok (F_Packer_addCopy n 35 σ) (fun s => BC (cpB B l d) s ∧ Fr PCb AT σ s) := by
  have k1 := lk_le (T := lnT) (v := l) 28
  have k2 := lk_le (T := dsT) (v := d) 29
  have m1 := ln_more hl1 hl2
  have m2 := ds_more hd1 hd2
  have hb8 := hB.1
  have e1 : F_Packer_lastUpTo n 105 (gS σ 2247) σ = some (N (lk lnT l 28), σ) := lastUpTo_eq (c := 28) g7 hn rfl (by decide) (by omega) (fun k hk => ⟨(hst.ln (by omega)).1, by have := (lnT_b k (by omega)).1; omega⟩)
  have x1 := (lnT_b _ (show lk lnT l 28 < 29 by omega)).2
  have x2 := (dsT_b _ (show lk dsT d 29 < 30 by omega)).2
  unfold F_Packer_addCopy
  refine s_c e1 ?_
  clear e1
  have sgo := sg_ok (s := 257 + lk lnT l 28) hB
  refine (C_sign (s := 257 + lk lnT l 28) (by rw [show (257 : Int32) = N 257 from rfl, N_add]) hn hp h hB (by omega) (by omega)).bind ?_
  rintro s1 ⟨b1, f1⟩
  have hp1 := hp.fr' f1 PCb_C
  have st1 : Stat s1 := fun a ha => by rw [f1.B (by unfold AT; omega)]; exact hst a ha
  have lb1 : (sg B (257 + lk lnT l 28)).1.2 ≤ B.1.2 + 2 := by have := sgo.2; unfold bl at this; omega
  refine s_in rfl (by show lk lnT l 28 < 29; omega) (by omega) ?_
  refine s_in rfl (by show lk lnT l 28 < 29; omega) (by omega) ?_
  rw [N_nat (by omega), (st1.ln (show lk lnT l 28 < 29 by omega)).1, (st1.ln (show lk lnT l 28 < 29 by omega)).2]
  refine (nm_C (v := l - lnT (lk lnT l 28)) (by rw [f1.S (by decide), g7, N_sub m1.1]) rfl hn hp1 b1 sgo.1 m1.2 (by omega) (by omega)).bind ?_
  rintro s2 ⟨b2, f2⟩
  have F2 := f1.trans f2
  have hp2 := hp.fr' F2 PCb_C
  have st2 : Stat s2 := fun a ha => by rw [F2.B (by unfold AT; omega)]; exact hst a ha
  have o2 := nmB_ok (v := l - lnT (lk lnT l 28)) (m := lnX (lk lnT l 28)) sgo.1
  have lb2 : (nmB (sg B (257 + lk lnT l 28)) (l - lnT (lk lnT l 28)) (lnX (lk lnT l 28))).1.2 ≤ B.1.2 + 3 := by have := sgo.2; have := o2.2; unfold bl at *; omega
  have e2 : F_Packer_lastUpTo n 107 (gS s2 2248) s2 = some (N (lk dsT d 29), s2) := lastUpTo_eq (c := 29) ((F2.S (by decide)).trans g8) hn rfl (by decide) (by omega) (fun k hk => ⟨(st2.ds (by omega)).1, by have := (dsT_b k (by omega)).1; omega⟩)
  refine s_c e2 ?_
  refine s_c (turned_eq (c := lk dsT d 29) (m := 5) rfl rfl hn (by omega) (by decide)) ?_
  refine (C_code (c := lk dsT d 29) (m := 5) rfl rfl hn hp2 b2 o2.1 (by decide) (by omega)).bind ?_
  rintro s3 ⟨b3, f3⟩
  have F3 := F2.trans f3
  have hp3 := hp.fr' F3 PCb_C
  have st3 : Stat s3 := fun a ha => by rw [F3.B (by unfold AT; omega)]; exact hst a ha
  have o3 := cdB_ok (v := lk dsT d 29) (m := 5) o2.1
  have lb3 : (cdB (nmB (sg B (257 + lk lnT l 28)) (l - lnT (lk lnT l 28)) (lnX (lk lnT l 28))) (lk dsT d 29) 5).1.2 ≤ B.1.2 + 4 := by have := sgo.2; have := o2.2; have := o3.2; unfold bl at *; omega
  refine s_in rfl (by show lk dsT d 29 < 30; omega) (by omega) ?_
  refine s_in rfl (by show lk dsT d 29 < 30; omega) (by omega) ?_
  rw [N_nat (by omega), (st3.ds (show lk dsT d 29 < 30 by omega)).1, (st3.ds (show lk dsT d 29 < 30 by omega)).2]
  refine (nm_C (v := d - dsT (lk dsT d 29)) (by rw [F3.S (by decide), g8, N_sub m2.1]) rfl hn hp3 b3 o3.1 m2.2 (by omega) (by omega)).bind ?_
  rintro s4 ⟨b4, f4⟩
  exact Ok.some ⟨b4, F3.trans f4⟩
theorem nm_M {n v m : Nat} {x y : Int32} {B : ((Nat → Nat) × Nat) × Nat × Nat} {σ : Mm} (e1 : x = N v) (e2 : y = N m) (hn : 100 < n) (hp : PtM σ) (h : BM B σ) (hB : Bok B) (hv : v < 2147483648) (hm : m < 32) (hl : B.1.2 + 10 < 65536) : Ok (F_Md_putBits n 63 x y σ) (fun s => BM (nmB B v m) s ∧ Fr PMb AMf σ s) := M_putBits e1 e2 hn hp h hB hv hm hl
theorem cd_M {n v m : Nat} {x y : Int32} {B : ((Nat → Nat) × Nat) × Nat × Nat} {σ : Mm} (e1 : x = N v) (e2 : y = N m) (hn : 100 < n) (hp : PtM σ) (h : BM B σ) (hB : Bok B) (hv : v < 2147483648) (hm : m < 32) (hl : B.1.2 + 10 < 65536) : Ok (F_Md_putCode n 63 x y σ) (fun s => BM (cdB B v m) s ∧ Fr PMb AMf σ s) := M_putCode e1 e2 hn hp h hB hv hm hl
theorem M_copy {n l d : Nat} {x y : Int32} {B : ((Nat → Nat) × Nat) × Nat × Nat} {σ : Mm} (e1 : x = N l) (e2 : y = N d) (hn : 100 < n) (hp : PtM σ) (h : BM B σ) (hB : Bok B) (hl1 : 3 ≤ l) (hl2 : l ≤ 258) (hd1 : 1 ≤ d) (hd2 : d ≤ 32768) (hl : B.1.2 + 20 < 65536) : Ok (F_Md_putCopy n 63 x y σ) (fun s => BM (cpB B l d) s ∧ Fr PMb AMf σ s) := by
  subst e1 e2
  have k1 := lk_le (T := lnT) (v := l) 28
  have k2 := lk_le (T := dsT) (v := d) 29
  have m1 := ln_more hl1 hl2
  have m2 := ds_more hd1 hd2
  have hb8 := hB.1
  have x1 := (lnT_b _ (show lk lnT l 28 < 29 by omega)).2
  have x2 := (dsT_b _ (show lk dsT d 29 < 30 by omega)).2
  unfold F_Md_putCopy
  refine ok_for 0 28 (fun j x s => σ = s ∧ x = N (257 + j) ∧ lnT j ≤ l) ?_ (by omega) (by omega) ⟨rfl, rfl, hl1⟩
  rintro j k9 x s - hj ⟨rfl, rfl, hlj⟩ ih
  refine s_ji ?_
  have main : lk lnT l 28 = j → Ok (Option.bind (F_Md_putSign n 63 (N (257 + j)) σ) fun σ7 =>
kf_c2 (F_Md_lengthFrom n (N (257 + j)) σ7) fun x8 σ9 =>
kf_c2 (F_Md_moreBits n (N (257 + j)) σ9) fun x10 σ11 =>
Option.bind (F_Md_putBits n 63 (N l - x8) x10 σ11) fun σ12 =>
kf_l (α := Int32) n (fun k13 x14 σ15 =>
kf_j (α := Unit) (fun x17 σ18 =>
Option.bind (F_Md_putCode n 63 x14 5 σ18) fun σ19 =>
kf_c2 (F_Md_distanceFrom n x14 σ19) fun x20 σ21 =>
kf_c2 (F_Md_moreDistance n x14 σ21) fun x22 σ23 =>
Option.bind (F_Md_putBits n 63 (N d - x20) x22 σ23) fun σ24 =>
some σ24) fun k16 =>
if 29 ≤ x14 then (
k16 () σ15) else (
kf_c2 (F_Md_distanceFrom n (x14 + 1) σ15) fun x25 σ26 =>
if N d < x25 then (
k16 () σ26) else (
kf_let (x14 + Int32.ofInt 1) fun x27 =>
k13 x27 σ26))) 0 σ12) (fun s => BM (cpB B l d) s ∧ Fr PMb AMf σ s) := by
    intro hlk
    subst hlk
    clear ih hlj hj
    have sgo := sg_ok (s := 257 + lk lnT l 28) hB
    refine (M_sign (s := 257 + lk lnT l 28) rfl hn hp h hB (by omega) (by omega)).bind ?_
    rintro s1 ⟨b1, f1⟩
    have hp1 := hp.fr' f1 PMb_M
    have lb1 : (sg B (257 + lk lnT l 28)).1.2 ≤ B.1.2 + 2 := by have := sgo.2; unfold bl at this; omega
    refine s_c (Md_lengthFrom_eq rfl hn (by omega)) ?_
    refine s_c (Md_moreBits_eq rfl (by omega)) ?_
    refine (nm_M (v := l - lnT (lk lnT l 28)) (m := lnX (lk lnT l 28)) (by rw [N_sub m1.1]) rfl hn hp1 b1 sgo.1 (by omega) (by omega) (by omega)).bind ?_
    rintro s2 ⟨b2, f2⟩
    have F2 := f1.trans f2
    have o2 := nmB_ok (v := l - lnT (lk lnT l 28)) (m := lnX (lk lnT l 28)) sgo.1
    have lb2 : (nmB (sg B (257 + lk lnT l 28)) (l - lnT (lk lnT l 28)) (lnX (lk lnT l 28))).1.2 ≤ B.1.2 + 3 := by have := sgo.2; have := o2.2; unfold bl at *; omega
    refine ok_for 0 29 (fun j x s => s2 = s ∧ x = N j ∧ dsT j ≤ d) ?_ (by omega) (by omega) ⟨rfl, rfl, hd1⟩
    rintro j k8 x s - hj ⟨rfl, rfl, hdj⟩ ih2
    refine s_ji ?_
    have main2 : lk dsT d 29 = j → Ok (Option.bind (F_Md_putCode n 63 (N j) 5 s2) fun σ19 =>
kf_c2 (F_Md_distanceFrom n (N j) σ19) fun x20 σ21 =>
kf_c2 (F_Md_moreDistance n (N j) σ21) fun x22 σ23 =>
Option.bind (F_Md_putBits n 63 (N d - x20) x22 σ23) fun σ24 =>
some σ24) (fun s => BM (cpB B l d) s ∧ Fr PMb AMf σ s) := by
      intro hlk
      subst hlk
      have hp2 := hp.fr' F2 PMb_M
      refine (cd_M (v := lk dsT d 29) (m := 5) rfl rfl hn hp2 b2 o2.1 (by omega) (by decide) (by omega)).bind ?_
      rintro s3 ⟨b3, f3⟩
      have F3 := F2.trans f3
      have hp3 := hp.fr' F3 PMb_M
      have o3 := cdB_ok (v := lk dsT d 29) (m := 5) o2.1
      have lb3 : (cdB (nmB (sg B (257 + lk lnT l 28)) (l - lnT (lk lnT l 28)) (lnX (lk lnT l 28))) (lk dsT d 29) 5).1.2 ≤ B.1.2 + 4 := by have := sgo.2; have := o2.2; have := o3.2; unfold bl at *; omega
      refine s_c (Md_distanceFrom_eq rfl hn (by omega)) ?_
      refine s_c (Md_moreDistance_eq rfl (by omega)) ?_
      refine (nm_M (v := d - dsT (lk dsT d 29)) (m := dsX (lk dsT d 29)) (by rw [N_sub m2.1]) rfl hn hp3 b3 o3.1 (by omega) (by omega) (by omega)).bind ?_
      rintro s4 ⟨b4, f4⟩
      exact Ok.some ⟨b4, F3.trans f4⟩
    by_cases h29 : j = 29
    · refine s_pos (by subst h29; decide) ?_
      exact main2 (by subst h29; exact lk_self (Or.inr hdj))
    · refine s_neg (by rw [show (29 : Int32) = N 29 from rfl, N_le (by decide) (by omega)]; omega) ?_
      refine s_c (Md_distanceFrom_eq (k := j + 1) (by rw [show (1 : Int32) = N 1 from rfl, N_add]) hn (by omega)) ?_
      have hb := (dsT_b (j + 1) (by omega)).1
      by_cases hlt : d < dsT (j + 1)
      · refine s_pos ((N_lt (by omega) (by omega)).mpr hlt) ?_
        refine main2 ?_
        rw [lk_up (k := j) (by omega) (fun i h1 h2 => by have := dsT_m (j + 1) (by omega) i (by omega) (by omega); omega)]
        exact lk_self (Or.inr hdj)
      · refine s_neg (by rw [N_lt (by omega) (by omega)]; exact hlt) ?_
        refine s_let (fun x9 hx9 => ?_)
        rw [N_one, N_add] at hx9
        subst hx9
        exact ih2 (by omega) _ _ ⟨rfl, rfl, by omega⟩
  by_cases h28 : j = 28
  · refine s_pos (by subst h28; decide) ?_
    exact main (by subst h28; exact lk_self (Or.inr hlj))
  · refine s_neg (by rw [show (285 : Int32) = N 285 from rfl, N_le (by decide) (by omega)]; omega) ?_
    refine s_c (Md_lengthFrom_eq (k := j + 1) (by rw [show (1 : Int32) = N 1 from rfl, N_add, Nat.add_assoc]) hn (by omega)) ?_
    have hb := (lnT_b (j + 1) (by omega)).1
    by_cases hlt : l < lnT (j + 1)
    · refine s_pos ((N_lt (by omega) (by omega)).mpr hlt) ?_
      refine main ?_
      rw [lk_up (k := j) (by omega) (fun i h1 h2 => by have := lnT_m (j + 1) (by omega) i (by omega) (by omega); omega)]
      exact lk_self (Or.inr hlj)
    · refine s_neg (by rw [N_lt (by omega) (by omega)]; exact hlt) ?_
      refine s_let (fun x9 hx9 => ?_)
      rw [N_one, N_add, Nat.add_assoc] at hx9
      subst hx9
      exact ih (by omega) _ _ ⟨rfl, rfl, by omega⟩
