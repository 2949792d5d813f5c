/-! SUMS AND PLAIN BLOCKS -/
def adl1 (R : Nat → Nat) : Nat → Nat
  | 0 => 1
  | k + 1 => (adl1 R k + R k) % 65521
def adl2 (R : Nat → Nat) : Nat → Nat
  | 0 => 0
  | k + 1 => (adl2 R k + adl1 R (k + 1)) % 65521
theorem adl1_lt (R : Nat → Nat) (k : Nat) : adl1 R k < 65521 := by
  cases k with
  | zero => exact (by decide : 1 < 65521)
  | succ k => exact Nat.mod_lt _ (by decide)
theorem adl2_lt (R : Nat → Nat) (k : Nat) : adl2 R k < 65521 := by
  cases k with
  | zero => exact (by decide : 0 < 65521)
  | succ k => exact Nat.mod_lt _ (by decide)
def sumA (R : Nat → Nat) (k : Nat) : Nat := adl2 R k * 65536 + adl1 R k
theorem sumA_lt (R : Nat → Nat) (k : Nat) : sumA R k < 4294967296 := by
  have := adl1_lt R k
  have := adl2_lt R k
  unfold sumA
  omega
theorem Rows_sumOf_eq {n tot : Nat} {R : Nat → Nat} {s : Mm} {x : Int32} (e : x = N tot) (hn : 65536 < n) (hp : PtC s) (ht : tot ≤ 32888) (hR : ∀ i, R i < 256) (z : ∀ i, i < tot → gB s 7 i = N (R i)) : F_Rows_sumOf n 6 x s = some (N (sumA R tot), s) := by
  subst e
  have q1 := hp.Rows_raw
  apply Ok.eq
  unfold F_Rows_sumOf
  refine ok_for 0 tot (fun i x s' => s = s' ∧ x = (N (adl1 R i), N (adl2 R i), N i)) ?_ (by omega) (by omega) ⟨rfl, rfl⟩
  rintro i k9 x s' - hi ⟨rfl, rfl⟩ ih
  have h1 := adl1_lt R i
  have h2 := adl2_lt R i
  by_cases hi2 : tot = i
  · subst hi2
    refine s_pos (by first | (simp (disch := omega) only [bG, Option.bind_some, Nat.reduceMul, Nat.reduceAdd, Nat.reduceEqDiff, Nat.reduceSub, Nat.reduceDiv, Nat.reduceLeDiff, bQ, bU, *]; done) | (simp (disch := omega) only [bG, Option.bind_some, Nat.reduceMul, Nat.reduceAdd, Nat.reduceEqDiff, Nat.reduceSub, Nat.reduceDiv, Nat.reduceLeDiff, bQ, bU, *]; omega) | omega) (Ok.some ?_)
    rw [show (16 : Int32) = N 16 from rfl, show (31 : Int32) = N 31 from rfl, N_shl (by decide), N_or, ← Nat.shiftLeft_add_eq_or_of_lt (i := 16) (by omega)]
    unfold sumA
    rw [Nat.shiftLeft_eq]
  · have hz := z i (by omega)
    have hr := hR i
    have e1 : adl1 R i + R i - (adl1 R i + R i) / 65521 * 65521 = adl1 R (i + 1) := by
      show _ = (adl1 R i + R i) % 65521
      omega
    have h3 := adl1_lt R (i + 1)
    have e2 : adl2 R i + adl1 R (i + 1) - (adl2 R i + adl1 R (i + 1)) / 65521 * 65521 = adl2 R (i + 1) := by
      show _ = (adl2 R i + adl1 R (i + 1)) % 65521
      omega
    have nx := ih (by omega) _ _ ⟨rfl, rfl⟩
    clear ih
    generalize adl1 R (i + 1) = a' at *
    generalize adl2 R (i + 1) = b' at *
    repeat (first | first | (with_reducible refine s_let ?_; intro x9 hx9; (try simp (disch := omega) only [bG, Option.bind_some, Nat.reduceMul, Nat.reduceAdd, Nat.reduceEqDiff, Nat.reduceSub, Nat.reduceDiv, Nat.reduceLeDiff, bQ, bU, *] at hx9); subst hx9) | (with_reducible refine s_R2 ?_ ?_; (focus (simp (disch := omega) only [bG, Option.bind_some, Nat.reduceMul, Nat.reduceAdd, Nat.reduceEqDiff, Nat.reduceSub, Nat.reduceDiv, Nat.reduceLeDiff, bQ, *, Option.isSome_some]; done)); (intro o9 ho9; simp (disch := omega) only [bG, Option.bind_some, Nat.reduceMul, Nat.reduceAdd, Nat.reduceEqDiff, Nat.reduceSub, Nat.reduceDiv, Nat.reduceLeDiff, bQ, *, Option.some.injEq] at ho9; subst ho9)) | (with_reducible refine s_in2 ?_ ?_; (focus first | (simp (disch := omega) only [bG, Option.bind_some, Nat.reduceMul, Nat.reduceAdd, Nat.reduceEqDiff, Nat.reduceSub, Nat.reduceDiv, Nat.reduceLeDiff, bQ, *, bK]; omega) | (simp (disch := omega) only [bG, Option.bind_some, Nat.reduceMul, Nat.reduceAdd, Nat.reduceEqDiff, Nat.reduceSub, Nat.reduceDiv, Nat.reduceLeDiff, bQ, *, bK, or_false, false_or, Nat.lt_irrefl, or_self, Nat.not_lt_zero]; done) | decide)) | (with_reducible refine s_nz ?_ ?_; (focus first | decide | assumption)) | (with_reducible refine s_nzl ?_ ?_; (focus decide)) | (with_reducible refine s_z ?_ ?_; (focus first | exact Or.inl rfl | exact Or.inr rfl | assumption)) | (with_reducible refine s_ji ?_) | first | (with_reducible refine s_h ?_) | (with_reducible refine s_t ?_) | (with_reducible apply s_chan; (focus first | with_reducible rfl | (simp (disch := omega) only [bG, Option.bind_some, Nat.reduceMul, Nat.reduceAdd, Nat.reduceEqDiff, Nat.reduceSub, Nat.reduceDiv, Nat.reduceLeDiff, bQ, bU, *]; with_reducible rfl)); (focus omega)) | (with_reducible refine Ok.c2' ?_; (first | (first | (with_reducible show Ok (kf_let _ _) _) | (with_reducible show Ok (kf_j _ _) _) | (with_reducible show Ok (if _ then _ else _) _) | (with_reducible refine Ok.some ?_; try dsimp only) | (with_reducible show Ok (Option.bind (gR _ _) _) _) | (with_reducible show Ok (kf_in _ _ _) _) | (with_reducible show Ok (kf_nz _ _) _)) | (with_reducible refine Ok.c2' ?_; (first | (with_reducible show Ok (kf_let _ _) _) | (with_reducible show Ok (kf_j _ _) _) | (with_reducible show Ok (if _ then _ else _) _) | (with_reducible refine Ok.some ?_; try dsimp only) | (with_reducible show Ok (Option.bind (gR _ _) _) _) | (with_reducible show Ok (kf_in _ _ _) _) | (with_reducible show Ok (kf_nz _ _) _))))) | (with_reducible refine Ok.bind' ?_; (first | (first | (with_reducible show Ok (kf_let _ _) _) | (with_reducible show Ok (kf_j _ _) _) | (with_reducible show Ok (if _ then _ else _) _) | (with_reducible refine Ok.some ?_; try dsimp only) | (with_reducible show Ok (Option.bind (gR _ _) _) _) | (with_reducible show Ok (kf_in _ _ _) _) | (with_reducible show Ok (kf_nz _ _) _)) | (with_reducible refine Ok.c2' ?_; (first | (with_reducible show Ok (kf_let _ _) _) | (with_reducible show Ok (kf_j _ _) _) | (with_reducible show Ok (if _ then _ else _) _) | (with_reducible refine Ok.some ?_; try dsimp only) | (with_reducible show Ok (Option.bind (gR _ _) _) _) | (with_reducible show Ok (kf_in _ _ _) _) | (with_reducible show Ok (kf_nz _ _) _))))) | first | (with_reducible refine s_pos ?_ ?_; (focus (show (_ : String) = _; exact rfl))) | (with_reducible refine s_neg ?_ ?_; (focus (show ¬ ((_ : String) = _); decide))) | (first | (with_reducible refine s_pos ?_ ?_; (focus first | (simp (disch := omega) only [bG, Option.bind_some, Nat.reduceMul, Nat.reduceAdd, Nat.reduceEqDiff, Nat.reduceSub, Nat.reduceDiv, Nat.reduceLeDiff, bQ, bU, *]; done) | (simp (disch := omega) only [bG, Option.bind_some, Nat.reduceMul, Nat.reduceAdd, Nat.reduceEqDiff, Nat.reduceSub, Nat.reduceDiv, Nat.reduceLeDiff, bQ, bU, *]; omega) | omega)) | (with_reducible refine s_neg ?_ ?_; (focus first | (simp (disch := omega) only [bG, Option.bind_some, Nat.reduceMul, Nat.reduceAdd, Nat.reduceEqDiff, Nat.reduceSub, Nat.reduceDiv, Nat.reduceLeDiff, bQ, bU, *]; done) | (simp (disch := omega) only [bG, Option.bind_some, Nat.reduceMul, Nat.reduceAdd, Nat.reduceEqDiff, Nat.reduceSub, Nat.reduceDiv, Nat.reduceLeDiff, bQ, bU, *]; omega) | omega))))
    exact nx
theorem Md_sumOf_eq {n tot : Nat} {R : Nat → Nat} {s : Mm} {x : Int32} (e : x = N tot) (hn : 65536 < n) (hp : PtM s) (ht : tot ≤ 32888) (hR : ∀ i, R i < 256) (z : ∀ i, i < tot → gB s 73 i &&& N 255 = N (R i)) : F_Md_sumOf n 63 x s = some (L (sumA R tot), s) := by
  subst e
  have q1 := hp.raw
  apply Ok.eq
  unfold F_Md_sumOf
  refine ok_for 0 tot (fun i x s' => s = s' ∧ x = (L (adl1 R i), L (adl2 R i), N i)) ?_ (by omega) (by omega) ⟨rfl, rfl⟩
  rintro i k9 x s' - hi ⟨rfl, rfl⟩ ih
  have h1 := adl1_lt R i
  have h2 := adl2_lt R i
  by_cases hi2 : tot = i
  · subst hi2
    refine s_pos (by first | (simp (disch := omega) only [bG, Option.bind_some, Nat.reduceMul, Nat.reduceAdd, Nat.reduceEqDiff, Nat.reduceSub, Nat.reduceDiv, Nat.reduceLeDiff, bQ, bU, *]; done) | (simp (disch := omega) only [bG, Option.bind_some, Nat.reduceMul, Nat.reduceAdd, Nat.reduceEqDiff, Nat.reduceSub, Nat.reduceDiv, Nat.reduceLeDiff, bQ, bU, *]; omega) | omega) (Ok.some ?_)
    rw [show (65536 : Int64) = L 65536 from rfl, L_mul, L_add]
    unfold sumA
    rw [Nat.mul_comm]
  · have hz := z i (by omega)
    have hr := hR i
    have e1 : adl1 R i + R i - (adl1 R i + R i) / 65521 * 65521 = adl1 R (i + 1) := by
      show _ = (adl1 R i + R i) % 65521
      omega
    have h3 := adl1_lt R (i + 1)
    have e2 : adl2 R i + adl1 R (i + 1) - (adl2 R i + adl1 R (i + 1)) / 65521 * 65521 = adl2 R (i + 1) := by
      show _ = (adl2 R i + adl1 R (i + 1)) % 65521
      omega
    have nx := ih (by omega) _ _ ⟨rfl, rfl⟩
    clear ih
    have d1 : L (adl1 R i + R i) / L 65521 = L ((adl1 R i + R i) / 65521) := L_div (by omega) (by decide)
    have d2 : L (adl2 R i + adl1 R (i + 1)) / L 65521 = L ((adl2 R i + adl1 R (i + 1)) / 65521) := L_div (by omega) (by decide)
    have d3 : L (adl1 R i + R i) - L ((adl1 R i + R i) / 65521 * 65521) = L (adl1 R (i + 1)) := by rw [L_sub (by omega), e1]
    have d4 : L (adl2 R i + adl1 R (i + 1)) - L ((adl2 R i + adl1 R (i + 1)) / 65521 * 65521) = L (adl2 R (i + 1)) := by rw [L_sub (by omega), e2]
    generalize adl1 R (i + 1) = a' at *
    generalize adl2 R (i + 1) = b' at *
    repeat (first | first | (with_reducible refine s_let ?_; intro x9 hx9; (try simp (disch := omega) only [bG, Option.bind_some, Nat.reduceMul, Nat.reduceAdd, Nat.reduceEqDiff, Nat.reduceSub, Nat.reduceDiv, Nat.reduceLeDiff, bQ, bU, *] at hx9); subst hx9) | (with_reducible refine s_R2 ?_ ?_; (focus (simp (disch := omega) only [bG, Option.bind_some, Nat.reduceMul, Nat.reduceAdd, Nat.reduceEqDiff, Nat.reduceSub, Nat.reduceDiv, Nat.reduceLeDiff, bQ, *, Option.isSome_some]; done)); (intro o9 ho9; simp (disch := omega) only [bG, Option.bind_some, Nat.reduceMul, Nat.reduceAdd, Nat.reduceEqDiff, Nat.reduceSub, Nat.reduceDiv, Nat.reduceLeDiff, bQ, *, Option.some.injEq] at ho9; subst ho9)) | (with_reducible refine s_in2 ?_ ?_; (focus first | (simp (disch := omega) only [bG, Option.bind_some, Nat.reduceMul, Nat.reduceAdd, Nat.reduceEqDiff, Nat.reduceSub, Nat.reduceDiv, Nat.reduceLeDiff, bQ, *, bK]; omega) | (simp (disch := omega) only [bG, Option.bind_some, Nat.reduceMul, Nat.reduceAdd, Nat.reduceEqDiff, Nat.reduceSub, Nat.reduceDiv, Nat.reduceLeDiff, bQ, *, bK, or_false, false_or, Nat.lt_irrefl, or_self, Nat.not_lt_zero]; done) | decide)) | (with_reducible refine s_nz ?_ ?_; (focus first | decide | assumption)) | (with_reducible refine s_nzl ?_ ?_; (focus decide)) | (with_reducible refine s_z ?_ ?_; (focus first | exact Or.inl rfl | exact Or.inr rfl | assumption)) | (with_reducible refine s_ji ?_) | first | (with_reducible refine s_h ?_) | (with_reducible refine s_t ?_) | (with_reducible apply s_chan; (focus first | with_reducible rfl | (simp (disch := omega) only [bG, Option.bind_some, Nat.reduceMul, Nat.reduceAdd, Nat.reduceEqDiff, Nat.reduceSub, Nat.reduceDiv, Nat.reduceLeDiff, bQ, bU, *]; with_reducible rfl)); (focus omega)) | (with_reducible refine Ok.c2' ?_; (first | (first | (with_reducible show Ok (kf_let _ _) _) | (with_reducible show Ok (kf_j _ _) _) | (with_reducible show Ok (if _ then _ else _) _) | (with_reducible refine Ok.some ?_; try dsimp only) | (with_reducible show Ok (Option.bind (gR _ _) _) _) | (with_reducible show Ok (kf_in _ _ _) _) | (with_reducible show Ok (kf_nz _ _) _)) | (with_reducible refine Ok.c2' ?_; (first | (with_reducible show Ok (kf_let _ _) _) | (with_reducible show Ok (kf_j _ _) _) | (with_reducible show Ok (if _ then _ else _) _) | (with_reducible refine Ok.some ?_; try dsimp only) | (with_reducible show Ok (Option.bind (gR _ _) _) _) | (with_reducible show Ok (kf_in _ _ _) _) | (with_reducible show Ok (kf_nz _ _) _))))) | (with_reducible refine Ok.bind' ?_; (first | (first | (with_reducible show Ok (kf_let _ _) _) | (with_reducible show Ok (kf_j _ _) _) | (with_reducible show Ok (if _ then _ else _) _) | (with_reducible refine Ok.some ?_; try dsimp only) | (with_reducible show Ok (Option.bind (gR _ _) _) _) | (with_reducible show Ok (kf_in _ _ _) _) | (with_reducible show Ok (kf_nz _ _) _)) | (with_reducible refine Ok.c2' ?_; (first | (with_reducible show Ok (kf_let _ _) _) | (with_reducible show Ok (kf_j _ _) _) | (with_reducible show Ok (if _ then _ else _) _) | (with_reducible refine Ok.some ?_; try dsimp only) | (with_reducible show Ok (Option.bind (gR _ _) _) _) | (with_reducible show Ok (kf_in _ _ _) _) | (with_reducible show Ok (kf_nz _ _) _))))) | first | (with_reducible refine s_pos ?_ ?_; (focus (show (_ : String) = _; exact rfl))) | (with_reducible refine s_neg ?_ ?_; (focus (show ¬ ((_ : String) = _); decide))) | (first | (with_reducible refine s_pos ?_ ?_; (focus first | (simp (disch := omega) only [bG, Option.bind_some, Nat.reduceMul, Nat.reduceAdd, Nat.reduceEqDiff, Nat.reduceSub, Nat.reduceDiv, Nat.reduceLeDiff, bQ, bU, *]; done) | (simp (disch := omega) only [bG, Option.bind_some, Nat.reduceMul, Nat.reduceAdd, Nat.reduceEqDiff, Nat.reduceSub, Nat.reduceDiv, Nat.reduceLeDiff, bQ, bU, *]; omega) | omega)) | (with_reducible refine s_neg ?_ ?_; (focus first | (simp (disch := omega) only [bG, Option.bind_some, Nat.reduceMul, Nat.reduceAdd, Nat.reduceEqDiff, Nat.reduceSub, Nat.reduceDiv, Nat.reduceLeDiff, bQ, bU, *]; done) | (simp (disch := omega) only [bG, Option.bind_some, Nat.reduceMul, Nat.reduceAdd, Nat.reduceEqDiff, Nat.reduceSub, Nat.reduceDiv, Nat.reduceLeDiff, bQ, bU, *]; omega) | omega))))
    exact nx
/-- a plain block -/
def plnH (S : (Nat → Nat) × Nat) (tot : Nat) : (Nat → Nat) × Nat := ad (ad (ad (ad (ad S 1) (lob (N tot))) (lob (N tot >>> (8 &&& 31)))) (lob (N tot ^^^ (-1)))) (lob ((N tot ^^^ (-1)) >>> (8 &&& 31)))
def pln (S : (Nat → Nat) × Nat) (R : Nat → Nat) (tot : Nat) : (Nat → Nat) × Nat := adl (plnH S tot) R tot
theorem pln_2 {S : (Nat → Nat) × Nat} {R : Nat → Nat} {tot : Nat} : (pln S R tot).2 = S.2 + 5 + tot := adl_2
theorem pln_b {S : (Nat → Nat) × Nat} {R : Nat → Nat} {tot : Nat} (h : Sb S) (hR : ∀ i, R i < 256) : Sb (pln S R tot) := adl_b (ad_b (ad_b (ad_b (ad_b (ad_b h (by decide)) (lob_lt _)) (lob_lt _)) (lob_lt _)) (lob_lt _)) hR _
abbrev PPl (k : Nat) : Prop := PT k ∨ k = 2244
theorem PPl_C (k : Nat) (h : PPl k) : cptr.all (fun q => q.1 != k) = true := by unfold PPl PT at h; rcases h with h | h <;> subst h <;> decide
set_option maxHeartbeats 4000000 in
theorem packPlain_ok {n tot : Nat} {R : Nat → Nat} {S : (Nat → Nat) × Nat} {σ : Mm} {x : Int32} (e : x = N tot) (hn : 65536 < n) (hp : PtC σ) (h1 : 1 ≤ tot) (ht : tot ≤ 32888) (hR : ∀ i, R i < 256) (hS : TapeC S.1 S.2 σ) (z : ∀ i, i < tot → gB σ 7 i = N (R i)) (hl : S.2 + tot + 10 < 65536) : Ok (F_Packer_packPlain n 35 x σ) (fun s => TapeC (pln S R tot).1 (pln S R tot).2 s ∧ Fr PPl AT σ s) := by
  subst e
  have q0 : ∀ {s : Mm}, Fr PPl AT σ s → PtC s ∧ gR s 2240 = some 2 ∧ gR s 2241 = some 7 ∧ ∀ i, i < tot → gB s 7 i = N (R i) := fun f => ⟨hp.fr' f PPl_C, (hp.fr' f PPl_C).Packer_tape, (hp.fr' f PPl_C).Packer_raw, fun i hi => by rw [f.B (by decide)]; exact z i hi⟩
  have u : ∀ {s s' : Mm}, Fr PT AT s s' → Fr PPl AT s s' := fun f => f.mono (fun _ h => Or.inl h) (fun _ h => h)
  unfold F_Packer_packPlain
  (with_reducible refine s_let ?_; intro x9 hx9; (try simp (disch := omega) only [bG, Option.bind_some, Nat.reduceMul, Nat.reduceAdd, Nat.reduceEqDiff, Nat.reduceSub, Nat.reduceDiv, Nat.reduceLeDiff, bQ, bU, *] at hx9); subst hx9)
  have f0 : Fr PPl AT σ (pS σ 2244 (N tot)) := by (repeat (first | exact Fr.rfl | (with_reducible refine Fr.wS ?_ (by first | omega | (dsimp only; omega) | exact Or.inl rfl | rfl) _) | (with_reducible refine Fr.wB ?_ (by first | omega | (dsimp only; omega) | exact Or.inl rfl | rfl) _ _) | (with_reducible refine Fr.wK ?_ (by first | omega | (dsimp only; omega) | exact Or.inl rfl | rfl) _ _)))
  have t0 : TapeC S.1 S.2 (pS σ 2244 (N tot)) := ⟨by have := hS.1; first | (simp (disch := omega) only [bG, Option.bind_some, Nat.reduceMul, Nat.reduceAdd, Nat.reduceEqDiff, Nat.reduceSub, Nat.reduceDiv, Nat.reduceLeDiff, bQ, bU, *]; done) | (simp (disch := omega) only [bG, Option.bind_some, Nat.reduceMul, Nat.reduceAdd, Nat.reduceEqDiff, Nat.reduceSub, Nat.reduceDiv, Nat.reduceLeDiff, bQ, bU, *]; rfl) | rfl, hS.2⟩
  have g0 : gS (pS σ 2244 (N tot)) 2244 = N tot := gS_eq rfl
  generalize pS σ 2244 (N tot) = s0 at *
  refine ok_for 0 1 (fun j x s => x = N (65535 * j) ∧ gS s 2244 = N tot ∧ Fr PPl AT σ s ∧ (if j = 0 then s0 = s else TapeC (pln S R tot).1 (pln S R tot).2 s)) ?_ (by omega) (by omega) ⟨rfl, g0, f0, rfl⟩
  rintro j k9 x s - hj ⟨rfl, gt, f1, hs⟩ ih
  by_cases hj1 : j = 1
  · subst hj1
    refine s_pos ?_ (Ok.some ⟨hs, f1⟩)
    rw [gt, N_le (by omega) (by decide)]
    omega
  · have hj0 : j = 0 := by omega
    subst hj0
    rw [if_pos rfl] at hs
    subst hs
    obtain ⟨x1, x2, x3, x4⟩ := q0 f1
    have emin : (if N tot - N 0 < N 65535 then N tot - N 0 else N 65535) = N tot := by
      rw [N_sub (by omega), Nat.sub_zero, if_pos ((N_lt (by omega) (by decide)).mpr (by omega))]
    rw [show 65535 * 0 = 0 from rfl]
    refine s_neg (by rw [g0, N_le (by omega) (by decide)]; omega) ?_
    refine s_let (fun x9 hx9 => ?_)
    rw [g0, show (65535 : Int32) = N 65535 from rfl, emin] at hx9
    subst hx9
    rw [x2, Option.bind_some]
    refine s_ji ?_
    refine s_pos (by rw [g0, N_add, Nat.zero_add]) ?_
    refine (Ta_add (v := 1) x1 t0 (by decide) (by omega)).bind ?_
    rintro s1 ⟨t1, f1'⟩
    have F1 := f1.trans (u f1')
    clear x1 x2 x3 x4
    obtain ⟨x1, x2, x3, x4⟩ := q0 F1
    have l1 : (ad S 1).2 = S.2 + 1 := rfl
    rw [x2, Option.bind_some]
    refine (Ta_add x1 t1 rfl (by omega)).bind ?_
    rintro s2 ⟨t2, f2'⟩
    have F2 := F1.trans (u f2')
    clear x1 x2 x3 x4
    obtain ⟨x1, x2, x3, x4⟩ := q0 F2
    have l2 : (ad (ad S 1) (lob (N tot))).2 = S.2 + 2 := rfl
    rw [x2, Option.bind_some]
    refine (Ta_add x1 t2 rfl (by omega)).bind ?_
    rintro s3 ⟨t3, f3'⟩
    have F3 := F2.trans (u f3')
    clear x1 x2 x3 x4
    obtain ⟨x1, x2, x3, x4⟩ := q0 F3
    have l3 : (ad (ad (ad S 1) (lob (N tot))) (lob (N tot >>> (8 &&& 31)))).2 = S.2 + 3 := rfl
    rw [x2, Option.bind_some]
    refine (Ta_add x1 t3 rfl (by omega)).bind ?_
    rintro s4 ⟨t4, f4'⟩
    have F4 := F3.trans (u f4')
    clear x1 x2 x3 x4
    obtain ⟨x1, x2, x3, x4⟩ := q0 F4
    have l4 : (ad (ad (ad (ad S 1) (lob (N tot))) (lob (N tot >>> (8 &&& 31)))) (lob (N tot ^^^ (-1)))).2 = S.2 + 4 := rfl
    rw [x2, Option.bind_some]
    refine (Ta_add x1 t4 rfl (by omega)).bind ?_
    rintro s5 ⟨t5, f5'⟩
    have F5 := F4.trans (u f5')
    have gt5 : gS s5 2244 = N tot := by
      rw [f5'.S (by decide), f4'.S (by decide), f3'.S (by decide), f2'.S (by decide), f1'.S (by decide)]
      exact gt
    refine ok_for 0 tot (fun i x s => x = N i ∧ TapeC (adl (plnH S tot) R i).1 (adl (plnH S tot) R i).2 s ∧ gS s 2244 = N tot ∧ Fr PPl AT σ s) ?_ (by omega) (by omega) ⟨rfl, t5, gt5, F5⟩
    clear x1 x2 x3 x4
    rintro i k8 x s - hi ⟨rfl, t, gt', f⟩ ih2
    obtain ⟨x1, x2, x3, x4⟩ := q0 f
    have la := adl_2 (S := plnH S tot) (f := R) (k := i)
    have lb : (plnH S tot).2 = S.2 + 5 := rfl
    by_cases hi2 : tot = i
    · subst hi2
      refine s_pos (by rw [N_add, Nat.zero_add]; exact Int32.le_refl _) ?_
      refine s_let (fun x9 hx9 => ?_)
      subst hx9
      refine ih (by omega) _ _ ⟨?_, gt', f, t⟩
      rw [show (65535 : Int32) = N 65535 from rfl, N_add]
    · have q4 := x4 i (by omega)
      clear ih
      repeat (first | first | (with_reducible refine s_let ?_; intro x9 hx9; (try simp (disch := omega) only [bG, Option.bind_some, Nat.reduceMul, Nat.reduceAdd, Nat.reduceEqDiff, Nat.reduceSub, Nat.reduceDiv, Nat.reduceLeDiff, bQ, bU, *] at hx9); subst hx9) | (with_reducible refine s_R2 ?_ ?_; (focus (simp (disch := omega) only [bG, Option.bind_some, Nat.reduceMul, Nat.reduceAdd, Nat.reduceEqDiff, Nat.reduceSub, Nat.reduceDiv, Nat.reduceLeDiff, bQ, *, Option.isSome_some]; done)); (intro o9 ho9; simp (disch := omega) only [bG, Option.bind_some, Nat.reduceMul, Nat.reduceAdd, Nat.reduceEqDiff, Nat.reduceSub, Nat.reduceDiv, Nat.reduceLeDiff, bQ, *, Option.some.injEq] at ho9; subst ho9)) | (with_reducible refine s_in2 ?_ ?_; (focus first | (simp (disch := omega) only [bG, Option.bind_some, Nat.reduceMul, Nat.reduceAdd, Nat.reduceEqDiff, Nat.reduceSub, Nat.reduceDiv, Nat.reduceLeDiff, bQ, *, bK]; omega) | (simp (disch := omega) only [bG, Option.bind_some, Nat.reduceMul, Nat.reduceAdd, Nat.reduceEqDiff, Nat.reduceSub, Nat.reduceDiv, Nat.reduceLeDiff, bQ, *, bK, or_false, false_or, Nat.lt_irrefl, or_self, Nat.not_lt_zero]; done) | decide)) | (with_reducible refine s_nz ?_ ?_; (focus first | decide | assumption)) | (with_reducible refine s_nzl ?_ ?_; (focus decide)) | (with_reducible refine s_z ?_ ?_; (focus first | exact Or.inl rfl | exact Or.inr rfl | assumption)) | (with_reducible refine s_ji ?_) | first | (with_reducible refine s_h ?_) | (with_reducible refine s_t ?_) | (with_reducible apply s_chan; (focus first | with_reducible rfl | (simp (disch := omega) only [bG, Option.bind_some, Nat.reduceMul, Nat.reduceAdd, Nat.reduceEqDiff, Nat.reduceSub, Nat.reduceDiv, Nat.reduceLeDiff, bQ, bU, *]; with_reducible rfl)); (focus omega)) | (with_reducible refine Ok.c2' ?_; (first | (first | (with_reducible show Ok (kf_let _ _) _) | (with_reducible show Ok (kf_j _ _) _) | (with_reducible show Ok (if _ then _ else _) _) | (with_reducible refine Ok.some ?_; try dsimp only) | (with_reducible show Ok (Option.bind (gR _ _) _) _) | (with_reducible show Ok (kf_in _ _ _) _) | (with_reducible show Ok (kf_nz _ _) _)) | (with_reducible refine Ok.c2' ?_; (first | (with_reducible show Ok (kf_let _ _) _) | (with_reducible show Ok (kf_j _ _) _) | (with_reducible show Ok (if _ then _ else _) _) | (with_reducible refine Ok.some ?_; try dsimp only) | (with_reducible show Ok (Option.bind (gR _ _) _) _) | (with_reducible show Ok (kf_in _ _ _) _) | (with_reducible show Ok (kf_nz _ _) _))))) | (with_reducible refine Ok.bind' ?_; (first | (first | (with_reducible show Ok (kf_let _ _) _) | (with_reducible show Ok (kf_j _ _) _) | (with_reducible show Ok (if _ then _ else _) _) | (with_reducible refine Ok.some ?_; try dsimp only) | (with_reducible show Ok (Option.bind (gR _ _) _) _) | (with_reducible show Ok (kf_in _ _ _) _) | (with_reducible show Ok (kf_nz _ _) _)) | (with_reducible refine Ok.c2' ?_; (first | (with_reducible show Ok (kf_let _ _) _) | (with_reducible show Ok (kf_j _ _) _) | (with_reducible show Ok (if _ then _ else _) _) | (with_reducible refine Ok.some ?_; try dsimp only) | (with_reducible show Ok (Option.bind (gR _ _) _) _) | (with_reducible show Ok (kf_in _ _ _) _) | (with_reducible show Ok (kf_nz _ _) _))))) | first | (with_reducible refine s_pos ?_ ?_; (focus (show (_ : String) = _; exact rfl))) | (with_reducible refine s_neg ?_ ?_; (focus (show ¬ ((_ : String) = _); decide))) | (first | (with_reducible refine s_pos ?_ ?_; (focus first | (simp (disch := omega) only [bG, Option.bind_some, Nat.reduceMul, Nat.reduceAdd, Nat.reduceEqDiff, Nat.reduceSub, Nat.reduceDiv, Nat.reduceLeDiff, bQ, bU, *]; done) | (simp (disch := omega) only [bG, Option.bind_some, Nat.reduceMul, Nat.reduceAdd, Nat.reduceEqDiff, Nat.reduceSub, Nat.reduceDiv, Nat.reduceLeDiff, bQ, bU, *]; omega) | omega)) | (with_reducible refine s_neg ?_ ?_; (focus first | (simp (disch := omega) only [bG, Option.bind_some, Nat.reduceMul, Nat.reduceAdd, Nat.reduceEqDiff, Nat.reduceSub, Nat.reduceDiv, Nat.reduceLeDiff, bQ, bU, *]; done) | (simp (disch := omega) only [bG, Option.bind_some, Nat.reduceMul, Nat.reduceAdd, Nat.reduceEqDiff, Nat.reduceSub, Nat.reduceDiv, Nat.reduceLeDiff, bQ, bU, *]; omega) | omega))))
      refine (Ta_add (v := R i) x1 t ?_ (by omega)).bind ?_
      · rw [N_nat (by omega), q4]; exact lob_small (hR i)
      · rintro s6 ⟨t6, f6⟩
        repeat (first | first | (with_reducible refine s_let ?_; intro x9 hx9; (try simp (disch := omega) only [bG, Option.bind_some, Nat.reduceMul, Nat.reduceAdd, Nat.reduceEqDiff, Nat.reduceSub, Nat.reduceDiv, Nat.reduceLeDiff, bQ, bU, *] at hx9); subst hx9) | (with_reducible refine s_R2 ?_ ?_; (focus (simp (disch := omega) only [bG, Option.bind_some, Nat.reduceMul, Nat.reduceAdd, Nat.reduceEqDiff, Nat.reduceSub, Nat.reduceDiv, Nat.reduceLeDiff, bQ, *, Option.isSome_some]; done)); (intro o9 ho9; simp (disch := omega) only [bG, Option.bind_some, Nat.reduceMul, Nat.reduceAdd, Nat.reduceEqDiff, Nat.reduceSub, Nat.reduceDiv, Nat.reduceLeDiff, bQ, *, Option.some.injEq] at ho9; subst ho9)) | (with_reducible refine s_in2 ?_ ?_; (focus first | (simp (disch := omega) only [bG, Option.bind_some, Nat.reduceMul, Nat.reduceAdd, Nat.reduceEqDiff, Nat.reduceSub, Nat.reduceDiv, Nat.reduceLeDiff, bQ, *, bK]; omega) | (simp (disch := omega) only [bG, Option.bind_some, Nat.reduceMul, Nat.reduceAdd, Nat.reduceEqDiff, Nat.reduceSub, Nat.reduceDiv, Nat.reduceLeDiff, bQ, *, bK, or_false, false_or, Nat.lt_irrefl, or_self, Nat.not_lt_zero]; done) | decide)) | (with_reducible refine s_nz ?_ ?_; (focus first | decide | assumption)) | (with_reducible refine s_nzl ?_ ?_; (focus decide)) | (with_reducible refine s_z ?_ ?_; (focus first | exact Or.inl rfl | exact Or.inr rfl | assumption)) | (with_reducible refine s_ji ?_) | first | (with_reducible refine s_h ?_) | (with_reducible refine s_t ?_) | (with_reducible apply s_chan; (focus first | with_reducible rfl | (simp (disch := omega) only [bG, Option.bind_some, Nat.reduceMul, Nat.reduceAdd, Nat.reduceEqDiff, Nat.reduceSub, Nat.reduceDiv, Nat.reduceLeDiff, bQ, bU, *]; with_reducible rfl)); (focus omega)) | (with_reducible refine Ok.c2' ?_; (first | (first | (with_reducible show Ok (kf_let _ _) _) | (with_reducible show Ok (kf_j _ _) _) | (with_reducible show Ok (if _ then _ else _) _) | (with_reducible refine Ok.some ?_; try dsimp only) | (with_reducible show Ok (Option.bind (gR _ _) _) _) | (with_reducible show Ok (kf_in _ _ _) _) | (with_reducible show Ok (kf_nz _ _) _)) | (with_reducible refine Ok.c2' ?_; (first | (with_reducible show Ok (kf_let _ _) _) | (with_reducible show Ok (kf_j _ _) _) | (with_reducible show Ok (if _ then _ else _) _) | (with_reducible refine Ok.some ?_; try dsimp only) | (with_reducible show Ok (Option.bind (gR _ _) _) _) | (with_reducible show Ok (kf_in _ _ _) _) | (with_reducible show Ok (kf_nz _ _) _))))) | (with_reducible refine Ok.bind' ?_; (first | (first | (with_reducible show Ok (kf_let _ _) _) | (with_reducible show Ok (kf_j _ _) _) | (with_reducible show Ok (if _ then _ else _) _) | (with_reducible refine Ok.some ?_; try dsimp only) | (with_reducible show Ok (Option.bind (gR _ _) _) _) | (with_reducible show Ok (kf_in _ _ _) _) | (with_reducible show Ok (kf_nz _ _) _)) | (with_reducible refine Ok.c2' ?_; (first | (with_reducible show Ok (kf_let _ _) _) | (with_reducible show Ok (kf_j _ _) _) | (with_reducible show Ok (if _ then _ else _) _) | (with_reducible refine Ok.some ?_; try dsimp only) | (with_reducible show Ok (Option.bind (gR _ _) _) _) | (with_reducible show Ok (kf_in _ _ _) _) | (with_reducible show Ok (kf_nz _ _) _))))) | first | (with_reducible refine s_pos ?_ ?_; (focus (show (_ : String) = _; exact rfl))) | (with_reducible refine s_neg ?_ ?_; (focus (show ¬ ((_ : String) = _); decide))) | (first | (with_reducible refine s_pos ?_ ?_; (focus first | (simp (disch := omega) only [bG, Option.bind_some, Nat.reduceMul, Nat.reduceAdd, Nat.reduceEqDiff, Nat.reduceSub, Nat.reduceDiv, Nat.reduceLeDiff, bQ, bU, *]; done) | (simp (disch := omega) only [bG, Option.bind_some, Nat.reduceMul, Nat.reduceAdd, Nat.reduceEqDiff, Nat.reduceSub, Nat.reduceDiv, Nat.reduceLeDiff, bQ, bU, *]; omega) | omega)) | (with_reducible refine s_neg ?_ ?_; (focus first | (simp (disch := omega) only [bG, Option.bind_some, Nat.reduceMul, Nat.reduceAdd, Nat.reduceEqDiff, Nat.reduceSub, Nat.reduceDiv, Nat.reduceLeDiff, bQ, bU, *]; done) | (simp (disch := omega) only [bG, Option.bind_some, Nat.reduceMul, Nat.reduceAdd, Nat.reduceEqDiff, Nat.reduceSub, Nat.reduceDiv, Nat.reduceLeDiff, bQ, bU, *]; omega) | omega))))
        exact ih2 (by omega) _ _ ⟨rfl, t6, (f6.S (by decide)).trans gt', f.trans (u f6)⟩
