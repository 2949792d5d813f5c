/-! THE CLASS'S BITS -/
def BC (B : ((Nat → Nat) × Nat) × Nat × Nat) (σ : Mm) : Prop := TapeC B.1.1 B.1.2 σ ∧ gS σ 2245 = N B.2.1 ∧ gS σ 2246 = N B.2.2
abbrev PCb (k : Nat) : Prop := PT k ∨ k = 2245 ∨ k = 2246
theorem PCb_C (k : Nat) (h : PCb k) : cptr.all (fun q => q.1 != k) = true := by unfold PCb PT at h; rcases h with h | h | h <;> subst h <;> decide
theorem flS_2 {S : (Nat → Nat) × Nat} {X k : Nat} : (flS S X k).2 = S.2 + k := by
  induction k with
  | zero => rfl
  | succ k ih => show (flS S X k).2 + 1 = _; rw [ih]; omega
set_option maxHeartbeats 4000000 in
theorem addBits_ok {n v m : Nat} {x y : Int32} {B : ((Nat → Nat) × Nat) × Nat × Nat} {σ : Mm} (e1 : x = N v) (e2 : y = N m) (hn : 100 < n) (hp : PtC σ) (h : BC B σ) (hB : Bok B) (hv : v < 2 ^ m) (hm : m ≤ 16) (hl : B.1.2 + 10 < 65536) : Ok (F_Packer_addBits n 35 x y σ) (fun s => BC (pbs B (fun k => (v >>> k) % 2) m) s ∧ Fr PCb AT σ s) := by
  subst e1 e2
  obtain ⟨S, acc, cnt⟩ := B
  obtain ⟨t, h1, h2⟩ := h
  obtain ⟨b1, b2⟩ := hB
  dsimp only at t h1 h2 b1 b2 hl
  have hfl := pbs_fl (S := S) (v := v) b1 b2 m
  rw [Nat.mod_eq_of_lt hv] at hfl
  rw [hfl]
  clear hfl
  have e1 : N acc ||| (N v <<< (N cnt &&& N 31)) = N (acc + v * 2 ^ cnt) := by rw [N_shl (by omega), N_or, or_pow b2]
  have hX : acc + v * 2 ^ cnt < 2 ^ (cnt + m) := by
    rw [Nat.add_comm cnt m, Nat.pow_add]
    have h1 : (v + 1) * 2 ^ cnt ≤ 2 ^ m * 2 ^ cnt := Nat.mul_le_mul_right _ hv
    rw [Nat.add_mul, Nat.one_mul] at h1
    omega
  have hX2 : acc + v * 2 ^ cnt < 16777216 := Nat.lt_of_lt_of_le hX (Nat.pow_le_pow_right (n := 2) (j := 24) (by decide) (by omega))
  generalize acc + v * 2 ^ cnt = X at *
  obtain ⟨c, hc⟩ : ∃ c, cnt + m = c := ⟨_, rfl⟩
  rw [hc]
  have hc24 : c ≤ 23 := by omega
  unfold F_Packer_addBits
  (with_reducible refine s_let ?_; intro x9 hx9; (try simp (disch := omega) only [bG, Option.bind_some, Nat.reduceMul, Nat.reduceAdd, Nat.reduceEqDiff, Nat.reduceSub, Nat.reduceDiv, Nat.reduceLeDiff, bQ, bU, *] at hx9); subst hx9)
  (with_reducible refine s_let ?_; intro x9 hx9; (try simp (disch := omega) only [bG, Option.bind_some, Nat.reduceMul, Nat.reduceAdd, Nat.reduceEqDiff, Nat.reduceSub, Nat.reduceDiv, Nat.reduceLeDiff, bQ, bU, *] at hx9); subst hx9)
  (with_reducible refine s_nz ?_ ?_; (focus first | decide | assumption))
  (with_reducible refine s_let ?_; intro x9 hx9; (try simp (disch := omega) only [bG, Option.bind_some, Nat.reduceMul, Nat.reduceAdd, Nat.reduceEqDiff, Nat.reduceSub, Nat.reduceDiv, Nat.reduceLeDiff, bQ, bU, *] at hx9); subst hx9)
  have t' : TapeC S.1 S.2 (pS (pS σ 2245 (N X)) 2246 (N c)) := ⟨by have := t.1; first | (simp (disch := omega) only [bG, Option.bind_some, Nat.reduceMul, Nat.reduceAdd, Nat.reduceEqDiff, Nat.reduceSub, Nat.reduceDiv, Nat.reduceLeDiff, bQ, bU, *]; done) | (simp (disch := omega) only [bG, Option.bind_some, Nat.reduceMul, Nat.reduceAdd, Nat.reduceEqDiff, Nat.reduceSub, Nat.reduceDiv, Nat.reduceLeDiff, bQ, bU, *]; rfl) | rfl, t.2⟩
  refine ok_for 0 (c / 8) (fun j x s => x = N (c / 8) - N j ∧ TapeC (flS S X j).1 (flS S X j).2 s ∧ gS s 2245 = N (X / 256 ^ j) ∧ gS s 2246 = N (c - 8 * j) ∧ Fr PCb AT σ s) ?_ (by omega) (by omega) ⟨?_, t', ?_, ?_, ?_⟩
  · rintro j k9 x s - hj ⟨rfl, t1, g1, g2, f1⟩ ih
    have e2 : N (c / 8) - N j = N (c / 8 - j) := N_sub hj
    by_cases hj2 : j = c / 8
    · refine s_pos (by rw [e2, N_lit, N_le (by omega) (by decide)]; omega) (Ok.some ⟨⟨?_, ?_, ?_⟩, f1⟩)
      · rw [← hj2]; exact t1
      · rw [← hj2]; exact g1
      · rw [g2]; congr 1; show c - 8 * j = c % 8; omega
    · refine s_neg (by rw [e2, N_lit, N_le (by omega) (by decide)]; omega) ?_
      have hps := hp.fr' f1 PCb_C
      rw [hps.Packer_tape, Option.bind_some]
      have hd : X / 256 ^ j < 16777216 := Nat.lt_of_le_of_lt (Nat.div_le_self _ _) hX2
      have l2 := flS_2 (S := S) (X := X) (k := j)
      refine (Ta_add (v := X / 256 ^ j % 256) hps t1 (by rw [g1]; exact lob_Nat _) (by omega)).bind ?_
      rintro s1 ⟨t2, f2⟩
      have g1' : gS s1 2245 = N (X / 256 ^ j) := (f2.S (by decide)).trans g1
      have g2' : gS s1 2246 = N (c - 8 * j) := (f2.S (by decide)).trans g2
      have es : ((N (X / 256 ^ j)).toUInt32 >>> ((N 8).toUInt32 &&& (N 31).toUInt32)).toInt32 = N (X / 256 ^ (j + 1)) := by
        rw [N_ushr (by omega) (by decide), Nat.shiftRight_eq_div_pow, show 256 ^ (j + 1) = 256 ^ j * 256 from rfl, ← Nat.div_div_eq_div_mul]
      have f3 := f1.trans (f2.mono (fun _ h => Or.inl h) (fun _ h => h))
      have nx := ih (by omega) (N (c / 8) - N (j + 1)) (pS (pS s1 2245 (N (X / 256 ^ (j + 1)))) 2246 (N (c - 8 * j - 8))) ⟨rfl, ⟨by have := t2.1; first | (simp (disch := omega) only [bG, Option.bind_some, Nat.reduceMul, Nat.reduceAdd, Nat.reduceEqDiff, Nat.reduceSub, Nat.reduceDiv, Nat.reduceLeDiff, bQ, bU, *]; done) | (simp (disch := omega) only [bG, Option.bind_some, Nat.reduceMul, Nat.reduceAdd, Nat.reduceEqDiff, Nat.reduceSub, Nat.reduceDiv, Nat.reduceLeDiff, bQ, bU, *]; rfl) | rfl, t2.2⟩, by first | (simp (disch := omega) only [bG, Option.bind_some, Nat.reduceMul, Nat.reduceAdd, Nat.reduceEqDiff, Nat.reduceSub, Nat.reduceDiv, Nat.reduceLeDiff, bQ, bU, *]; done) | (simp (disch := omega) only [bG, Option.bind_some, Nat.reduceMul, Nat.reduceAdd, Nat.reduceEqDiff, Nat.reduceSub, Nat.reduceDiv, Nat.reduceLeDiff, bQ, bU, *]; rfl) | rfl, ?_, ?_⟩
      · refine s_let (fun x9 hx9 => ?_)
        rw [g1', N_lit, N_lit, es] at hx9
        subst hx9
        refine s_let (fun x9 hx9 => ?_)
        rw [gS_ne (by decide), g2', N_lit, N_sub (by omega)] at hx9
        subst hx9
        refine s_let (fun x9 hx9 => ?_)
        rw [sub_m1] at hx9
        subst hx9
        exact nx
      · exact (gS_eq rfl).trans (congrArg N (by omega))
      · refine Fr.wS (Fr.wS f3 ?_ _) ?_ _
        · exact Or.inr (Or.inl rfl)
        · exact Or.inr (Or.inr rfl)
  · rw [N_sub (by omega), Nat.sub_zero]
  · rw [Nat.pow_zero, Nat.div_one]; first | (simp (disch := omega) only [bG, Option.bind_some, Nat.reduceMul, Nat.reduceAdd, Nat.reduceEqDiff, Nat.reduceSub, Nat.reduceDiv, Nat.reduceLeDiff, bQ, bU, *]; done) | (simp (disch := omega) only [bG, Option.bind_some, Nat.reduceMul, Nat.reduceAdd, Nat.reduceEqDiff, Nat.reduceSub, Nat.reduceDiv, Nat.reduceLeDiff, bQ, bU, *]; rfl) | rfl
  · first | (simp (disch := omega) only [bG, Option.bind_some, Nat.reduceMul, Nat.reduceAdd, Nat.reduceEqDiff, Nat.reduceSub, Nat.reduceDiv, Nat.reduceLeDiff, bQ, bU, *]; done) | (simp (disch := omega) only [bG, Option.bind_some, Nat.reduceMul, Nat.reduceAdd, Nat.reduceEqDiff, Nat.reduceSub, Nat.reduceDiv, Nat.reduceLeDiff, bQ, bU, *]; rfl) | rfl
  · refine Fr.wS (Fr.wS Fr.rfl ?_ _) ?_ _
    · exact Or.inr (Or.inl rfl)
    · exact Or.inr (Or.inr rfl)
/-- bits the other way round -/
def rvb (c : Nat) : Nat → Nat
  | 0 => 0
  | k + 1 => 2 * rvb c k + (c >>> k) % 2
theorem rvb_lt (c k : Nat) : rvb c k < 2 ^ k := by
  induction k with
  | zero => exact (by decide : 0 < 2 ^ 0)
  | succ k ih =>
    show 2 * rvb c k + _ < _
    rw [Nat.pow_succ]
    have := Nat.mod_lt (c >>> k) (show 0 < 2 by decide)
    omega
theorem rvb_bit (c : Nat) : ∀ n k, k < n → (rvb c n >>> k) % 2 = (c >>> (n - 1 - k)) % 2 := by
  intro n
  induction n with
  | zero => intro k hk; omega
  | succ n ih =>
    intro k hk
    have hb := Nat.mod_lt (c >>> n) (show 0 < 2 by decide)
    cases k with
    | zero =>
      show (2 * rvb c n + (c >>> n) % 2) % 2 = (c >>> n) % 2
      omega
    | succ k =>
      have h1 : rvb c (n + 1) >>> (k + 1) = rvb c n >>> k := by
        rw [Nat.shiftRight_eq_div_pow, Nat.shiftRight_eq_div_pow, Nat.pow_succ, Nat.mul_comm, ← Nat.div_div_eq_div_mul]
        congr 1
        show (2 * rvb c n + (c >>> n) % 2) / 2 = _
        omega
      rw [h1, ih k (by omega)]
      congr 2
      omega
theorem pbs_ext {B : ((Nat → Nat) × Nat) × Nat × Nat} {f g : Nat → Nat} {n : Nat} (h : ∀ k, k < n → f k = g k) : pbs B f n = pbs B g n := by
  induction n with
  | zero => rfl
  | succ n ih =>
    show pb (pbs B f n) (f n) = pb (pbs B g n) (g n)
    rw [ih (fun k hk => h k (by omega)), h n (by omega)]
theorem turned_eq {n c m : Nat} {x y : Int32} {σ : Mm} (e1 : x = N c) (e2 : y = N m) (hn : 100 < n) (hc : c < 2147483648) (hm : m ≤ 16) : F_Packer_turned n x y σ = some (N (rvb c m), σ) := by
  subst e1 e2
  apply Ok.eq
  unfold F_Packer_turned
  refine ok_for 0 m (fun k x s => σ = s ∧ x = (N (rvb c k), N k)) ?_ (by omega) (by omega) ⟨rfl, rfl⟩
  rintro k k9 x s - hk ⟨rfl, rfl⟩ ih
  by_cases hk2 : m = k
  · subst hk2
    refine s_pos (Int32.le_refl _) (Ok.some rfl)
  · have hb := Nat.mod_lt (c >>> k) (show 0 < 2 by decide)
    have e : N (rvb c k) <<< (N 1 &&& N 31) ||| (N c >>> (N k &&& N 31) &&& N 1) = N (rvb c (k + 1)) := by
      rw [N_shl (by decide), N_shr hc (by omega), N_and, and1, N_or, ← Nat.shiftLeft_add_eq_or_of_lt (i := 1) hb, Nat.shiftLeft_eq, Nat.mul_comm]
      rfl
    repeat (first | first | (with_reducible refine s_let ?_; intro x9 hx9; (try simp (disch := omega) only [bG, Option.bind_some, Nat.reduceMul, Nat.reduceAdd, Nat.reduceEqDiff, Nat.reduceSub, Nat.reduceDiv, Nat.reduceLeDiff, bQ, bU, *] at hx9); subst hx9) | (with_reducible refine s_R2 ?_ ?_; (focus (simp (disch := omega) only [bG, Option.bind_some, Nat.reduceMul, Nat.reduceAdd, Nat.reduceEqDiff, Nat.reduceSub, Nat.reduceDiv, Nat.reduceLeDiff, bQ, *, Option.isSome_some]; done)); (intro o9 ho9; simp (disch := omega) only [bG, Option.bind_some, Nat.reduceMul, Nat.reduceAdd, Nat.reduceEqDiff, Nat.reduceSub, Nat.reduceDiv, Nat.reduceLeDiff, bQ, *, Option.some.injEq] at ho9; subst ho9)) | (with_reducible refine s_in2 ?_ ?_; (focus first | (simp (disch := omega) only [bG, Option.bind_some, Nat.reduceMul, Nat.reduceAdd, Nat.reduceEqDiff, Nat.reduceSub, Nat.reduceDiv, Nat.reduceLeDiff, bQ, *, bK]; omega) | (simp (disch := omega) only [bG, Option.bind_some, Nat.reduceMul, Nat.reduceAdd, Nat.reduceEqDiff, Nat.reduceSub, Nat.reduceDiv, Nat.reduceLeDiff, bQ, *, bK, or_false, false_or, Nat.lt_irrefl, or_self, Nat.not_lt_zero]; done) | decide)) | (with_reducible refine s_nz ?_ ?_; (focus first | decide | assumption)) | (with_reducible refine s_nzl ?_ ?_; (focus decide)) | (with_reducible refine s_z ?_ ?_; (focus first | exact Or.inl rfl | exact Or.inr rfl | assumption)) | (with_reducible refine s_ji ?_) | first | (with_reducible refine s_h ?_) | (with_reducible refine s_t ?_) | (with_reducible apply s_chan; (focus first | with_reducible rfl | (simp (disch := omega) only [bG, Option.bind_some, Nat.reduceMul, Nat.reduceAdd, Nat.reduceEqDiff, Nat.reduceSub, Nat.reduceDiv, Nat.reduceLeDiff, bQ, bU, *]; with_reducible rfl)); (focus omega)) | (with_reducible refine Ok.c2' ?_; (first | (first | (with_reducible show Ok (kf_let _ _) _) | (with_reducible show Ok (kf_j _ _) _) | (with_reducible show Ok (if _ then _ else _) _) | (with_reducible refine Ok.some ?_; try dsimp only) | (with_reducible show Ok (Option.bind (gR _ _) _) _) | (with_reducible show Ok (kf_in _ _ _) _) | (with_reducible show Ok (kf_nz _ _) _)) | (with_reducible refine Ok.c2' ?_; (first | (with_reducible show Ok (kf_let _ _) _) | (with_reducible show Ok (kf_j _ _) _) | (with_reducible show Ok (if _ then _ else _) _) | (with_reducible refine Ok.some ?_; try dsimp only) | (with_reducible show Ok (Option.bind (gR _ _) _) _) | (with_reducible show Ok (kf_in _ _ _) _) | (with_reducible show Ok (kf_nz _ _) _))))) | (with_reducible refine Ok.bind' ?_; (first | (first | (with_reducible show Ok (kf_let _ _) _) | (with_reducible show Ok (kf_j _ _) _) | (with_reducible show Ok (if _ then _ else _) _) | (with_reducible refine Ok.some ?_; try dsimp only) | (with_reducible show Ok (Option.bind (gR _ _) _) _) | (with_reducible show Ok (kf_in _ _ _) _) | (with_reducible show Ok (kf_nz _ _) _)) | (with_reducible refine Ok.c2' ?_; (first | (with_reducible show Ok (kf_let _ _) _) | (with_reducible show Ok (kf_j _ _) _) | (with_reducible show Ok (if _ then _ else _) _) | (with_reducible refine Ok.some ?_; try dsimp only) | (with_reducible show Ok (Option.bind (gR _ _) _) _) | (with_reducible show Ok (kf_in _ _ _) _) | (with_reducible show Ok (kf_nz _ _) _))))) | first | (with_reducible refine s_pos ?_ ?_; (focus (show (_ : String) = _; exact rfl))) | (with_reducible refine s_neg ?_ ?_; (focus (show ¬ ((_ : String) = _); decide))) | (first | (with_reducible refine s_pos ?_ ?_; (focus first | (simp (disch := omega) only [bG, Option.bind_some, Nat.reduceMul, Nat.reduceAdd, Nat.reduceEqDiff, Nat.reduceSub, Nat.reduceDiv, Nat.reduceLeDiff, bQ, bU, *]; done) | (simp (disch := omega) only [bG, Option.bind_some, Nat.reduceMul, Nat.reduceAdd, Nat.reduceEqDiff, Nat.reduceSub, Nat.reduceDiv, Nat.reduceLeDiff, bQ, bU, *]; omega) | omega)) | (with_reducible refine s_neg ?_ ?_; (focus first | (simp (disch := omega) only [bG, Option.bind_some, Nat.reduceMul, Nat.reduceAdd, Nat.reduceEqDiff, Nat.reduceSub, Nat.reduceDiv, Nat.reduceLeDiff, bQ, bU, *]; done) | (simp (disch := omega) only [bG, Option.bind_some, Nat.reduceMul, Nat.reduceAdd, Nat.reduceEqDiff, Nat.reduceSub, Nat.reduceDiv, Nat.reduceLeDiff, bQ, bU, *]; omega) | omega))))
    exact ih (by omega) _ _ ⟨rfl, rfl⟩
