/-! WRITING ON THE TAPE: a state is the bytes and how many -/
def ad (S : (Nat → Nat) × Nat) (v : Nat) : (Nat → Nat) × Nat := (app S.1 S.2 v, S.2 + 1)
def adn (S : (Nat → Nat) × Nat) (v : Nat) : (Nat → Nat) × Nat := ad (ad (ad (ad S (by4 v 0)) (by4 v 1)) (by4 v 2)) (by4 v 3)
abbrev PMl (k : Nat) : Prop := k = 4034
theorem PT_Ca (k : Nat) (h : PT k) : cptr.all (fun q => q.1 != k) = true := by unfold PT at h; subst h; decide
theorem PMl_M (k : Nat) (h : PMl k) : mptr.all (fun q => q.1 != k) = true := by unfold PMl at h; subst h; decide
theorem nb_N {v j : Nat} (hj : j < 4) : nb (N v) j = by4 v j := by
  unfold nb by4
  rcases (show j = 0 ∨ j = 1 ∨ j = 2 ∨ j = 3 by omega) with rfl | rfl | rfl | rfl
  · exact lob_eq (N_shr_low (k := 24) (by decide)) (Nat.mod_lt _ (by decide))
  · exact lob_eq (N_shr_low (k := 16) (by decide)) (Nat.mod_lt _ (by decide))
  · exact lob_eq (N_shr_low (k := 8) (by decide)) (Nat.mod_lt _ (by decide))
  · exact lob_Nat v
theorem addN_N {T : Nat → Nat} {len v : Nat} : addN T len (N v) = (adn (T, len) v).1 := by
  unfold addN
  rw [nb_N (by decide), nb_N (by decide), nb_N (by decide), nb_N (by decide)]
  rfl
theorem adn_2 {S : (Nat → Nat) × Nat} {v : Nat} : (adn S v).2 = S.2 + 4 := rfl
theorem Ta_add {n v : Nat} {x : Int32} {S : (Nat → Nat) × Nat} {σ : Mm} (hp : PtC σ) (h : TapeC S.1 S.2 σ) (e : lob x = v) (hl : S.2 < 65536) : Ok (F_Tape_add n 2 x σ) (fun σ' => TapeC (ad S v).1 (ad S v).2 σ' ∧ Fr PT AT σ σ') := by
  subst e
  exact Tape_add_ok hp h hl
theorem Ta_num {n v : Nat} {x : Int32} {S : (Nat → Nat) × Nat} {σ : Mm} (hp : PtC σ) (h : TapeC S.1 S.2 σ) (e : x = N v) (hl : S.2 + 3 < 65536) : Ok (F_Tape_addNumber n 2 x σ) (fun σ' => TapeC (adn S v).1 (adn S v).2 σ' ∧ Fr PT AT σ σ') := by
  subst e
  have := Tape_addNumber_ok (n := n) (x := N v) hp h hl
  rw [addN_N] at this
  exact this
theorem Ta_pair {n v : Nat} {x : Int32} {S : (Nat → Nat) × Nat} {σ : Mm} (hp : PtC σ) (h : TapeC S.1 S.2 σ) (e : x = N v) (hl : S.2 + 1 < 65536) : Ok (F_Tape_addPair n 2 x σ) (fun σ' => TapeC (ad (ad S (v / 256 % 256)) (v % 256)).1 (ad (ad S (v / 256 % 256)) (v % 256)).2 σ' ∧ Fr PT AT σ σ') := by
  subst e
  have := Tape_addPair_ok (n := n) (x := N v) hp h hl
  rw [lob_Nat, show lob (N v >>> (8 &&& 31)) = v / 256 % 256 from (lob_eq (N_shr_low (k := 8) (by decide)) (Nat.mod_lt _ (by decide))).trans (by rw [Nat.shiftRight_eq_div_pow])] at this
  exact this
theorem Md_put_ok {n v : Nat} {x : Int32} {S : (Nat → Nat) × Nat} {σ : Mm} (hp : PtM σ) (h : TapeM S.1 S.2 σ) (e : lob x = v) (hl : S.2 < 65536) : Ok (F_Md_put n 63 x σ) (fun σ' => TapeM (ad S v).1 (ad S v).2 σ' ∧ Fr PMl AMf σ σ') := by
  subst e
  have p1 := hp.tape
  obtain ⟨h1, h2⟩ := h
  unfold F_Md_put
  repeat (first | first | (with_reducible refine s_let ?_; intro x9 hx9; (try simp (disch := omega) only [bG, Option.bind_some, Nat.reduceMul, Nat.reduceAdd, Nat.reduceEqDiff, Nat.reduceSub, Nat.reduceDiv, Nat.reduceLeDiff, bQ, bU, *] at hx9); subst hx9) | (with_reducible refine s_R2 ?_ ?_; (focus (simp (disch := omega) only [bG, Option.bind_some, Nat.reduceMul, Nat.reduceAdd, Nat.reduceEqDiff, Nat.reduceSub, Nat.reduceDiv, Nat.reduceLeDiff, bQ, *, Option.isSome_some]; done)); (intro o9 ho9; simp (disch := omega) only [bG, Option.bind_some, Nat.reduceMul, Nat.reduceAdd, Nat.reduceEqDiff, Nat.reduceSub, Nat.reduceDiv, Nat.reduceLeDiff, bQ, *, Option.some.injEq] at ho9; subst ho9)) | (with_reducible refine s_in2 ?_ ?_; (focus first | (simp (disch := omega) only [bG, Option.bind_some, Nat.reduceMul, Nat.reduceAdd, Nat.reduceEqDiff, Nat.reduceSub, Nat.reduceDiv, Nat.reduceLeDiff, bQ, *, bK]; omega) | (simp (disch := omega) only [bG, Option.bind_some, Nat.reduceMul, Nat.reduceAdd, Nat.reduceEqDiff, Nat.reduceSub, Nat.reduceDiv, Nat.reduceLeDiff, bQ, *, bK, or_false, false_or, Nat.lt_irrefl, or_self, Nat.not_lt_zero]; done) | decide)) | (with_reducible refine s_nz ?_ ?_; (focus first | decide | assumption)) | (with_reducible refine s_nzl ?_ ?_; (focus decide)) | (with_reducible refine s_z ?_ ?_; (focus first | exact Or.inl rfl | exact Or.inr rfl | assumption)) | (with_reducible refine s_ji ?_) | first | (with_reducible refine s_h ?_) | (with_reducible refine s_t ?_) | (with_reducible apply s_chan; (focus first | with_reducible rfl | (simp (disch := omega) only [bG, Option.bind_some, Nat.reduceMul, Nat.reduceAdd, Nat.reduceEqDiff, Nat.reduceSub, Nat.reduceDiv, Nat.reduceLeDiff, bQ, bU, *]; with_reducible rfl)); (focus omega)) | (with_reducible refine Ok.c2' ?_; (first | (first | (with_reducible show Ok (kf_let _ _) _) | (with_reducible show Ok (kf_j _ _) _) | (with_reducible show Ok (if _ then _ else _) _) | (with_reducible refine Ok.some ?_; try dsimp only) | (with_reducible show Ok (Option.bind (gR _ _) _) _) | (with_reducible show Ok (kf_in _ _ _) _) | (with_reducible show Ok (kf_nz _ _) _)) | (with_reducible refine Ok.c2' ?_; (first | (with_reducible show Ok (kf_let _ _) _) | (with_reducible show Ok (kf_j _ _) _) | (with_reducible show Ok (if _ then _ else _) _) | (with_reducible refine Ok.some ?_; try dsimp only) | (with_reducible show Ok (Option.bind (gR _ _) _) _) | (with_reducible show Ok (kf_in _ _ _) _) | (with_reducible show Ok (kf_nz _ _) _))))) | (with_reducible refine Ok.bind' ?_; (first | (first | (with_reducible show Ok (kf_let _ _) _) | (with_reducible show Ok (kf_j _ _) _) | (with_reducible show Ok (if _ then _ else _) _) | (with_reducible refine Ok.some ?_; try dsimp only) | (with_reducible show Ok (Option.bind (gR _ _) _) _) | (with_reducible show Ok (kf_in _ _ _) _) | (with_reducible show Ok (kf_nz _ _) _)) | (with_reducible refine Ok.c2' ?_; (first | (with_reducible show Ok (kf_let _ _) _) | (with_reducible show Ok (kf_j _ _) _) | (with_reducible show Ok (if _ then _ else _) _) | (with_reducible refine Ok.some ?_; try dsimp only) | (with_reducible show Ok (Option.bind (gR _ _) _) _) | (with_reducible show Ok (kf_in _ _ _) _) | (with_reducible show Ok (kf_nz _ _) _))))) | first | (with_reducible refine s_pos ?_ ?_; (focus (show (_ : String) = _; exact rfl))) | (with_reducible refine s_neg ?_ ?_; (focus (show ¬ ((_ : String) = _); decide))) | (first | (with_reducible refine s_pos ?_ ?_; (focus first | (simp (disch := omega) only [bG, Option.bind_some, Nat.reduceMul, Nat.reduceAdd, Nat.reduceEqDiff, Nat.reduceSub, Nat.reduceDiv, Nat.reduceLeDiff, bQ, bU, *]; done) | (simp (disch := omega) only [bG, Option.bind_some, Nat.reduceMul, Nat.reduceAdd, Nat.reduceEqDiff, Nat.reduceSub, Nat.reduceDiv, Nat.reduceLeDiff, bQ, bU, *]; omega) | omega)) | (with_reducible refine s_neg ?_ ?_; (focus first | (simp (disch := omega) only [bG, Option.bind_some, Nat.reduceMul, Nat.reduceAdd, Nat.reduceEqDiff, Nat.reduceSub, Nat.reduceDiv, Nat.reduceLeDiff, bQ, bU, *]; done) | (simp (disch := omega) only [bG, Option.bind_some, Nat.reduceMul, Nat.reduceAdd, Nat.reduceEqDiff, Nat.reduceSub, Nat.reduceDiv, Nat.reduceLeDiff, bQ, bU, *]; omega) | omega))) | (with_reducible refine Ok.some ?_; try dsimp only))
  refine ⟨⟨?_, ?_⟩, by (repeat (first | exact Fr.rfl | (with_reducible refine Fr.wS ?_ (by first | omega | (dsimp only; omega) | exact Or.inl rfl | rfl) _) | (with_reducible refine Fr.wB ?_ (by first | omega | (dsimp only; omega) | exact Or.inl rfl | rfl) _ _) | (with_reducible refine Fr.wK ?_ (by first | omega | (dsimp only; omega) | exact Or.inl rfl | rfl) _ _)))⟩
  · first | (simp (disch := omega) only [bG, Option.bind_some, Nat.reduceMul, Nat.reduceAdd, Nat.reduceEqDiff, Nat.reduceSub, Nat.reduceDiv, Nat.reduceLeDiff, bQ, bU, *]; done) | (simp (disch := omega) only [bG, Option.bind_some, Nat.reduceMul, Nat.reduceAdd, Nat.reduceEqDiff, Nat.reduceSub, Nat.reduceDiv, Nat.reduceLeDiff, bQ, bU, *]; rfl) | rfl
  · intro i hi
    have hi2 : i < S.2 + 1 := hi
    simp (disch := omega) only [bG, Option.bind_some, Nat.reduceMul, Nat.reduceAdd, Nat.reduceEqDiff, Nat.reduceSub, Nat.reduceDiv, Nat.reduceLeDiff, bQ]
    unfold upd ad app
    dsimp only
    split
    · exact sb_and x
    · exact h2 i (by omega)
theorem sub_m8 (a b : Nat) : N a - N b + Int32.ofInt (-8) = N a - N (b + 8) := by
  rw [← N_add]
  apply Int32.toBitVec_inj.1
  show (N a).toBitVec - (N b).toBitVec + (Int32.ofInt (-8)).toBitVec = (N a).toBitVec - ((N b).toBitVec + 8#32)
  rw [show (Int32.ofInt (-8)).toBitVec = 4294967288#32 by decide]
  generalize (N a).toBitVec = x
  generalize (N b).toBitVec = y
  bv_omega
theorem sub_m1 (a b : Nat) : N a - N b + Int32.ofInt (-1) = N a - N (b + 1) := by
  rw [← N_add]
  apply Int32.toBitVec_inj.1
  show (N a).toBitVec - (N b).toBitVec + (Int32.ofInt (-1)).toBitVec = (N a).toBitVec - ((N b).toBitVec + 1#32)
  rw [show (Int32.ofInt (-1)).toBitVec = 4294967295#32 by decide]
  generalize (N a).toBitVec = x
  generalize (N b).toBitVec = y
  bv_omega
def adk (S : (Nat → Nat) × Nat) (v : Nat) : Nat → (Nat → Nat) × Nat
  | 0 => S
  | k + 1 => ad (adk S v k) (by4 v k)
theorem adk_2 {S : (Nat → Nat) × Nat} {v k : Nat} : (adk S v k).2 = S.2 + k := by
  induction k with
  | zero => rfl
  | succ k ih => show (adk S v k).2 + 1 = _; rw [ih]; omega
theorem Md_putLong_ok {n v : Nat} {x : Int64} {S : (Nat → Nat) × Nat} {σ : Mm} (hn : 100 < n) (hp : PtM σ) (h : TapeM S.1 S.2 σ) (e : x = L v) (hv : v < 4294967296) (hl : S.2 + 3 < 65536) : Ok (F_Md_putLong n 63 x σ) (fun σ' => TapeM (adn S v).1 (adn S v).2 σ' ∧ Fr PMl AMf σ σ') := by
  subst e
  unfold F_Md_putLong
  refine ok_for 0 4 (fun j x s => x = N 24 - N (8 * j) ∧ TapeM (adk S v j).1 (adk S v j).2 s ∧ Fr PMl AMf σ s) ?_ (by omega) (by omega) ⟨rfl, h, Fr.rfl⟩
  rintro j k9 x s - hj ⟨rfl, t1, f1⟩ ih
  by_cases h4 : j = 4
  · subst h4
    refine s_pos (by decide) (Ok.some ⟨t1, f1⟩)
  · have e1 : N 24 - N (8 * j) = N (24 - 8 * j) := N_sub (by omega)
    refine s_neg (by rw [e1]; exact N_nlt (by omega)) ?_
    have h2 := adk_2 (S := S) (v := v) (k := j)
    refine (Md_put_ok (v := by4 v j) (hp.fr' f1 PMl_M) t1 ?_ (by omega)).bind ?_
    · rw [e1, N_long (by omega), show (63 : Int64) = L 63 from rfl, L_shr (by omega) (by omega), L_int, lob_Nat]
      rfl
    · rintro s1 ⟨t2, f2⟩
      refine s_let (fun x9 hx9 => ?_)
      rw [sub_m8] at hx9
      subst hx9
      exact ih (by omega) _ _ ⟨rfl, t2, f1.trans f2⟩
