/-! HEADER, COLOURS, THIN NUMBERS -/
def Sb (S : (Nat → Nat) × Nat) : Prop := ∀ i, S.1 i < 256
theorem ad_b {S : (Nat → Nat) × Nat} {v : Nat} (h : Sb S) (hv : v < 256) : Sb (ad S v) := by
  intro i
  show app S.1 S.2 v i < 256
  unfold app
  split
  · exact hv
  · exact h i
theorem adn_b {S : (Nat → Nat) × Nat} {v : Nat} (h : Sb S) : Sb (adn S v) := ad_b (ad_b (ad_b (ad_b h (by4_lt _ _)) (by4_lt _ _)) (by4_lt _ _)) (by4_lt _ _)
theorem bg_b {S : (Nat → Nat) × Nat} {v : Nat} (h : Sb S) : Sb (bg S v) := adn_b (adn_b h)
theorem cl_b {S : (Nat → Nat) × Nat} {st : Nat} (h : Sb S) : Sb (cl S st) := adn_b (S := (putT S.1 st (S.2 - st - 8), S.2)) (putT_lt h _ _)
/-- so many bytes of f -/
def adl (S : (Nat → Nat) × Nat) (f : Nat → Nat) : Nat → (Nat → Nat) × Nat
  | 0 => S
  | k + 1 => ad (adl S f k) (f k)
theorem adl_2 {S : (Nat → Nat) × Nat} {f : Nat → Nat} {k : Nat} : (adl S f k).2 = S.2 + k := by
  induction k with
  | zero => rfl
  | succ k ih => show (adl S f k).2 + 1 = _; rw [ih]; omega
theorem adl_b {S : (Nat → Nat) × Nat} {f : Nat → Nat} (h : Sb S) (hf : ∀ i, f i < 256) (k : Nat) : Sb (adl S f k) := by
  induction k with
  | zero => exact h
  | succ k ih => exact ad_b ih (hf k)
/-- so many pairs of f -/
def adp (S : (Nat → Nat) × Nat) (f : Nat → Nat) : Nat → (Nat → Nat) × Nat
  | 0 => S
  | k + 1 => ad (ad (adp S f k) (f k / 256 % 256)) (f k % 256)
theorem adp_2 {S : (Nat → Nat) × Nat} {f : Nat → Nat} {k : Nat} : (adp S f k).2 = S.2 + 2 * k := by
  induction k with
  | zero => rfl
  | succ k ih => show (adp S f k).2 + 1 + 1 = _; rw [ih]; omega
theorem adp_b {S : (Nat → Nat) × Nat} {f : Nat → Nat} (h : Sb S) (k : Nat) : Sb (adp S f k) := by
  induction k with
  | zero => exact h
  | succ k ih => exact ad_b (ad_b ih (Nat.mod_lt _ (by decide))) (Nat.mod_lt _ (by decide))
def hdr (S : (Nat → Nat) × Nat) (w h kd dp lc : Nat) : (Nat → Nat) × Nat := cl (ad (ad (ad (ad (ad (adn (adn (bg S 1229472850) w) h) dp) kd) 0) 0) lc) S.2
theorem hdr_2 {S : (Nat → Nat) × Nat} {w h kd dp lc : Nat} : (hdr S w h kd dp lc).2 = S.2 + 25 := rfl
theorem hdr_b {S : (Nat → Nat) × Nat} {w h kd dp lc : Nat} (hS : Sb S) (h1 : dp < 256) (h2 : kd < 256) (h3 : lc < 256) : Sb (hdr S w h kd dp lc) := cl_b (ad_b (ad_b (ad_b (ad_b (ad_b (adn_b (adn_b (bg_b hS))) h1) h2) (by decide)) (by decide)) h3)
theorem lob_small {v : Nat} (h : v < 256) : lob (N v) = v := by rw [lob_Nat, Nat.mod_eq_of_lt h]
theorem PT_W {s s' : Mm} (f : Fr PT AT s s') : Fr PWr AT s s' := f.mono (fun _ h => Or.inl h) (fun _ h => h)
set_option maxHeartbeats 4000000 in
theorem W_header {n p w h kd dp lc : Nat} {S : (Nat → Nat) × Nat} {σ : Mm} (hn : 65536 < n) (hp : PtC σ) (h38 : isP p) (hT : Turns σ) (hS : TapeC S.1 S.2 σ) (hh : Hd w h lc) (hk : kdOk kd dp) (c0 : gS σ (64 * p + 0) = N w) (c1 : gS σ (64 * p + 1) = N h) (c2 : gS σ (64 * p + 2) = N kd) (c3 : gS σ (64 * p + 3) = N dp) (c4 : gS σ (64 * p + 4) = N lc) (hl : S.2 + 40 < 65536) : Ok (F_Writer_addHeader n 34 p σ) (fun s => TapeC (hdr S w h kd dp lc).1 (hdr S w h kd dp lc).2 s ∧ Fr PWr AT σ s) := by
  have hp50 : p ≤ 50 := by rcases h38 with rfl | rfl <;> decide
  have hp38 : 38 ≤ p := by rcases h38 with rfl | rfl <;> decide
  have kb := hk.b
  have fld : ∀ {s : Mm}, Fr PWr AT σ s → PtC s ∧ gR s 2176 = some 2 ∧ gS s (64 * p + 0) = N w ∧ gS s (64 * p + 1) = N h ∧ gS s (64 * p + 2) = N kd ∧ gS s (64 * p + 3) = N dp ∧ gS s (64 * p + 4) = N lc := fun f => ⟨hp.fr' f PWr_C, (hp.fr' f PWr_C).Writer_tape, (f.S (by omega)).trans c0, (f.S (by omega)).trans c1, (f.S (by omega)).trans c2, (f.S (by omega)).trans c3, (f.S (by omega)).trans c4⟩
  unfold F_Writer_addHeader
  refine (W_start (ty := 1229472850) hp hS rfl (by omega)).bind ?_
  rintro s1 ⟨t1, hst, f1⟩
  obtain ⟨x1, x2, x3, x4, x5, x6, x7⟩ := fld f1
  have l1 : (bg S 1229472850).2 = S.2 + 8 := rfl
  rw [x2, Option.bind_some, x3]
  refine (Ta_num x1 t1 rfl (by omega)).bind ?_
  rintro s2 ⟨t2, f2'⟩
  have f2 := f1.trans (PT_W f2')
  clear x1 x2 x3 x4 x5 x6 x7
  obtain ⟨x1, x2, x3, x4, x5, x6, x7⟩ := fld f2
  have l2 : (adn (bg S 1229472850) w).2 = S.2 + 12 := rfl
  rw [x2, Option.bind_some, x4]
  refine (Ta_num x1 t2 rfl (by omega)).bind ?_
  rintro s3 ⟨t3, f3'⟩
  have f3 := f2.trans (PT_W f3')
  clear x1 x2 x3 x4 x5 x6 x7
  obtain ⟨x1, x2, x3, x4, x5, x6, x7⟩ := fld f3
  have l3 : (adn (adn (bg S 1229472850) w) h).2 = S.2 + 16 := rfl
  rw [x2, Option.bind_some, x6]
  refine (Ta_add x1 t3 (lob_small (show dp < 256 by omega)) (by omega)).bind ?_
  rintro s4 ⟨t4, f4'⟩
  have f4 := f3.trans (PT_W f4')
  clear x1 x2 x3 x4 x5 x6 x7
  obtain ⟨x1, x2, x3, x4, x5, x6, x7⟩ := fld f4
  have l4 : (ad (adn (adn (bg S 1229472850) w) h) dp).2 = S.2 + 17 := rfl
  rw [x2, Option.bind_some, x5]
  refine (Ta_add x1 t4 (lob_small (show kd < 256 by omega)) (by omega)).bind ?_
  rintro s5 ⟨t5, f5'⟩
  have f5 := f4.trans (PT_W f5')
  clear x1 x2 x3 x4 x5 x6 x7
  obtain ⟨x1, x2, x3, x4, x5, x6, x7⟩ := fld f5
  have l5 : (ad (ad (adn (adn (bg S 1229472850) w) h) dp) kd).2 = S.2 + 18 := rfl
  rw [x2, Option.bind_some]
  refine (Ta_add (v := 0) x1 t5 (by decide) (by omega)).bind ?_
  rintro s6 ⟨t6, f6'⟩
  have f6 := f5.trans (PT_W f6')
  clear x1 x2 x3 x4 x5 x6 x7
  obtain ⟨x1, x2, x3, x4, x5, x6, x7⟩ := fld f6
  have l6 : (ad (ad (ad (adn (adn (bg S 1229472850) w) h) dp) kd) 0).2 = S.2 + 19 := rfl
  rw [x2, Option.bind_some]
  refine (Ta_add (v := 0) x1 t6 (by decide) (by omega)).bind ?_
  rintro s7 ⟨t7, f7'⟩
  have f7 := f6.trans (PT_W f7')
  clear x1 x2 x3 x4 x5 x6 x7
  obtain ⟨x1, x2, x3, x4, x5, x6, x7⟩ := fld f7
  have l7 : (ad (ad (ad (ad (adn (adn (bg S 1229472850) w) h) dp) kd) 0) 0).2 = S.2 + 20 := rfl
  rw [x2, Option.bind_some, x7]
  refine s_j (fun k9 hk9 => ?_)
  refine s_ifv (v := N lc) (fun e => ?_) (fun e => ?_) ?_
  · have : lc = 0 := (N_inj (by have := hh.2.2.2.2; omega) (by decide)).mp e
    rw [this]; rfl
  · have : lc = 1 := by
      have h1 := hh.2.2.2.2
      have h2 : ¬ lc = 0 := fun z => e (by rw [z]; rfl)
      omega
    rw [this]; rfl
  subst hk9
  refine (Ta_add x1 t7 (lob_small (show lc < 256 by have := hh.2.2.2.2; omega)) (by omega)).bind ?_
  rintro s8 ⟨t8, f8'⟩
  have f8 := f7.trans (PT_W f8')
  have st8 : gS s8 2179 = N S.2 := by
    rw [f8'.S (by decide), f7'.S (by decide), f6'.S (by decide), f5'.S (by decide), f4'.S (by decide), f3'.S (by decide), f2'.S (by decide)]
    exact hst
  have l8 : (ad (ad (ad (ad (ad (adn (adn (bg S 1229472850) w) h) dp) kd) 0) 0) lc).2 = S.2 + 21 := rfl
  refine (W_close hn (fld f8).1 (hT.fr f8 (by decide)) t8 st8 (by omega) (by omega)).bind ?_
  rintro s9 ⟨t9, f9⟩
  exact Ok.some ⟨t9, f8.trans (PT_W f9)⟩
def plte (S : (Nat → Nat) × Nat) (cc : Nat) (co : Nat → Nat) : (Nat → Nat) × Nat := cl (adl (bg S 1347179589) co (3 * cc)) S.2
def trns (S : (Nat → Nat) × Nat) (kd tc : Nat) (th : Nat → Nat) : (Nat → Nat) × Nat := cl (if kd = 3 then adl (bg S 1951551059) (fun i => th i % 256) tc else adp (bg S 1951551059) th tc) S.2
theorem W_colours {n p cc : Nat} {co : Nat → Nat} {S : (Nat → Nat) × Nat} {σ : Mm} (hn : 65536 < n) (hp : PtC σ) (h38 : isP p) (hT : Turns σ) (hS : TapeC S.1 S.2 σ) (hcc : cc ≤ 256) (hco : ∀ i, co i < 256) (c6 : gS σ (64 * p + 6) = N cc) (c10 : ∀ i, i < 3 * cc → gB σ (p + 2) i = N (co i)) (hl : S.2 + 3 * cc + 20 < 65536) : Ok (F_Writer_addColours n 34 p σ) (fun s => TapeC (plte S cc co).1 (plte S cc co).2 s ∧ Fr PWr AT σ s) := by
  have hp50 : p ≤ 50 := by rcases h38 with rfl | rfl <;> decide
  have hp38 : 38 ≤ p := by rcases h38 with rfl | rfl <;> decide
  have k1 := kdp_2 h38
  unfold F_Writer_addColours
  refine (W_start (ty := 1347179589) hp hS rfl (by omega)).bind ?_
  rintro s1 ⟨t1, hst, f1⟩
  refine ok_for 0 (3 * cc) (fun i x s => x = N i ∧ TapeC (adl (bg S 1347179589) co i).1 (adl (bg S 1347179589) co i).2 s ∧ gS s 2179 = N S.2 ∧ Fr PWr AT σ s) ?_ (by omega) (by omega) ⟨rfl, t1, hst, f1⟩
  rintro i k9 x s - hi ⟨rfl, t, st, f⟩ ih
  have hps := hp.fr' f PWr_C
  have q1 := hps.Writer_tape
  have q2 := hps.pic_colours h38
  have q3 : gS s (64 * p + 6) = N cc := (f.S (by omega)).trans c6
  have hl2 := adl_2 (S := bg S 1347179589) (f := co) (k := i)
  rw [bg_2] at hl2
  by_cases hi2 : i = 3 * cc
  · subst hi2
    refine s_pos (by rw [q3, N_lit, N_mul]; exact (N_le (by omega) (by omega)).mpr (Nat.le_refl _)) ?_
    refine (W_close hn hps (hT.fr f (by decide)) t st (by omega) (by omega)).bind ?_
    rintro s2 ⟨t2, f2⟩
    exact Ok.some ⟨t2, f.trans (PT_W f2)⟩
  · have q4 : gB s (p + 2) i = N (co i) := by rw [f.B (by omega)]; exact c10 i (by omega)
    repeat (first | first | (with_reducible refine s_let ?_; intro x9 hx9; (try simp (disch := omega) only [bG, Option.bind_some, Nat.reduceMul, Nat.reduceAdd, Nat.reduceEqDiff, Nat.reduceSub, Nat.reduceDiv, Nat.reduceLeDiff, bQ, bU, *] at hx9); subst hx9) | (with_reducible refine s_R2 ?_ ?_; (focus (simp (disch := omega) only [bG, Option.bind_some, Nat.reduceMul, Nat.reduceAdd, Nat.reduceEqDiff, Nat.reduceSub, Nat.reduceDiv, Nat.reduceLeDiff, bQ, *, Option.isSome_some]; done)); (intro o9 ho9; simp (disch := omega) only [bG, Option.bind_some, Nat.reduceMul, Nat.reduceAdd, Nat.reduceEqDiff, Nat.reduceSub, Nat.reduceDiv, Nat.reduceLeDiff, bQ, *, Option.some.injEq] at ho9; subst ho9)) | (with_reducible refine s_in2 ?_ ?_; (focus first | (simp (disch := omega) only [bG, Option.bind_some, Nat.reduceMul, Nat.reduceAdd, Nat.reduceEqDiff, Nat.reduceSub, Nat.reduceDiv, Nat.reduceLeDiff, bQ, *, bK]; omega) | (simp (disch := omega) only [bG, Option.bind_some, Nat.reduceMul, Nat.reduceAdd, Nat.reduceEqDiff, Nat.reduceSub, Nat.reduceDiv, Nat.reduceLeDiff, bQ, *, bK, or_false, false_or, Nat.lt_irrefl, or_self, Nat.not_lt_zero]; done) | decide)) | (with_reducible refine s_nz ?_ ?_; (focus first | decide | assumption)) | (with_reducible refine s_nzl ?_ ?_; (focus decide)) | (with_reducible refine s_z ?_ ?_; (focus first | exact Or.inl rfl | exact Or.inr rfl | assumption)) | (with_reducible refine s_ji ?_) | first | (with_reducible refine s_h ?_) | (with_reducible refine s_t ?_) | (with_reducible apply s_chan; (focus first | with_reducible rfl | (simp (disch := omega) only [bG, Option.bind_some, Nat.reduceMul, Nat.reduceAdd, Nat.reduceEqDiff, Nat.reduceSub, Nat.reduceDiv, Nat.reduceLeDiff, bQ, bU, *]; with_reducible rfl)); (focus omega)) | (with_reducible refine Ok.c2' ?_; (first | (first | (with_reducible show Ok (kf_let _ _) _) | (with_reducible show Ok (kf_j _ _) _) | (with_reducible show Ok (if _ then _ else _) _) | (with_reducible refine Ok.some ?_; try dsimp only) | (with_reducible show Ok (Option.bind (gR _ _) _) _) | (with_reducible show Ok (kf_in _ _ _) _) | (with_reducible show Ok (kf_nz _ _) _)) | (with_reducible refine Ok.c2' ?_; (first | (with_reducible show Ok (kf_let _ _) _) | (with_reducible show Ok (kf_j _ _) _) | (with_reducible show Ok (if _ then _ else _) _) | (with_reducible refine Ok.some ?_; try dsimp only) | (with_reducible show Ok (Option.bind (gR _ _) _) _) | (with_reducible show Ok (kf_in _ _ _) _) | (with_reducible show Ok (kf_nz _ _) _))))) | (with_reducible refine Ok.bind' ?_; (first | (first | (with_reducible show Ok (kf_let _ _) _) | (with_reducible show Ok (kf_j _ _) _) | (with_reducible show Ok (if _ then _ else _) _) | (with_reducible refine Ok.some ?_; try dsimp only) | (with_reducible show Ok (Option.bind (gR _ _) _) _) | (with_reducible show Ok (kf_in _ _ _) _) | (with_reducible show Ok (kf_nz _ _) _)) | (with_reducible refine Ok.c2' ?_; (first | (with_reducible show Ok (kf_let _ _) _) | (with_reducible show Ok (kf_j _ _) _) | (with_reducible show Ok (if _ then _ else _) _) | (with_reducible refine Ok.some ?_; try dsimp only) | (with_reducible show Ok (Option.bind (gR _ _) _) _) | (with_reducible show Ok (kf_in _ _ _) _) | (with_reducible show Ok (kf_nz _ _) _))))) | first | (with_reducible refine s_pos ?_ ?_; (focus (show (_ : String) = _; exact rfl))) | (with_reducible refine s_neg ?_ ?_; (focus (show ¬ ((_ : String) = _); decide))) | (first | (with_reducible refine s_pos ?_ ?_; (focus first | (simp (disch := omega) only [bG, Option.bind_some, Nat.reduceMul, Nat.reduceAdd, Nat.reduceEqDiff, Nat.reduceSub, Nat.reduceDiv, Nat.reduceLeDiff, bQ, bU, *]; done) | (simp (disch := omega) only [bG, Option.bind_some, Nat.reduceMul, Nat.reduceAdd, Nat.reduceEqDiff, Nat.reduceSub, Nat.reduceDiv, Nat.reduceLeDiff, bQ, bU, *]; omega) | omega)) | (with_reducible refine s_neg ?_ ?_; (focus first | (simp (disch := omega) only [bG, Option.bind_some, Nat.reduceMul, Nat.reduceAdd, Nat.reduceEqDiff, Nat.reduceSub, Nat.reduceDiv, Nat.reduceLeDiff, bQ, bU, *]; done) | (simp (disch := omega) only [bG, Option.bind_some, Nat.reduceMul, Nat.reduceAdd, Nat.reduceEqDiff, Nat.reduceSub, Nat.reduceDiv, Nat.reduceLeDiff, bQ, bU, *]; omega) | omega))))
    refine (Ta_add (v := co i) hps t ?_ (by omega)).bind ?_
    · rw [N_nat (by omega), q4]; exact lob_small (hco i)
    · rintro s2 ⟨t2, f2⟩
      repeat (first | first | (with_reducible refine s_let ?_; intro x9 hx9; (try simp (disch := omega) only [bG, Option.bind_some, Nat.reduceMul, Nat.reduceAdd, Nat.reduceEqDiff, Nat.reduceSub, Nat.reduceDiv, Nat.reduceLeDiff, bQ, bU, *] at hx9); subst hx9) | (with_reducible refine s_R2 ?_ ?_; (focus (simp (disch := omega) only [bG, Option.bind_some, Nat.reduceMul, Nat.reduceAdd, Nat.reduceEqDiff, Nat.reduceSub, Nat.reduceDiv, Nat.reduceLeDiff, bQ, *, Option.isSome_some]; done)); (intro o9 ho9; simp (disch := omega) only [bG, Option.bind_some, Nat.reduceMul, Nat.reduceAdd, Nat.reduceEqDiff, Nat.reduceSub, Nat.reduceDiv, Nat.reduceLeDiff, bQ, *, Option.some.injEq] at ho9; subst ho9)) | (with_reducible refine s_in2 ?_ ?_; (focus first | (simp (disch := omega) only [bG, Option.bind_some, Nat.reduceMul, Nat.reduceAdd, Nat.reduceEqDiff, Nat.reduceSub, Nat.reduceDiv, Nat.reduceLeDiff, bQ, *, bK]; omega) | (simp (disch := omega) only [bG, Option.bind_some, Nat.reduceMul, Nat.reduceAdd, Nat.reduceEqDiff, Nat.reduceSub, Nat.reduceDiv, Nat.reduceLeDiff, bQ, *, bK, or_false, false_or, Nat.lt_irrefl, or_self, Nat.not_lt_zero]; done) | decide)) | (with_reducible refine s_nz ?_ ?_; (focus first | decide | assumption)) | (with_reducible refine s_nzl ?_ ?_; (focus decide)) | (with_reducible refine s_z ?_ ?_; (focus first | exact Or.inl rfl | exact Or.inr rfl | assumption)) | (with_reducible refine s_ji ?_) | first | (with_reducible refine s_h ?_) | (with_reducible refine s_t ?_) | (with_reducible apply s_chan; (focus first | with_reducible rfl | (simp (disch := omega) only [bG, Option.bind_some, Nat.reduceMul, Nat.reduceAdd, Nat.reduceEqDiff, Nat.reduceSub, Nat.reduceDiv, Nat.reduceLeDiff, bQ, bU, *]; with_reducible rfl)); (focus omega)) | (with_reducible refine Ok.c2' ?_; (first | (first | (with_reducible show Ok (kf_let _ _) _) | (with_reducible show Ok (kf_j _ _) _) | (with_reducible show Ok (if _ then _ else _) _) | (with_reducible refine Ok.some ?_; try dsimp only) | (with_reducible show Ok (Option.bind (gR _ _) _) _) | (with_reducible show Ok (kf_in _ _ _) _) | (with_reducible show Ok (kf_nz _ _) _)) | (with_reducible refine Ok.c2' ?_; (first | (with_reducible show Ok (kf_let _ _) _) | (with_reducible show Ok (kf_j _ _) _) | (with_reducible show Ok (if _ then _ else _) _) | (with_reducible refine Ok.some ?_; try dsimp only) | (with_reducible show Ok (Option.bind (gR _ _) _) _) | (with_reducible show Ok (kf_in _ _ _) _) | (with_reducible show Ok (kf_nz _ _) _))))) | (with_reducible refine Ok.bind' ?_; (first | (first | (with_reducible show Ok (kf_let _ _) _) | (with_reducible show Ok (kf_j _ _) _) | (with_reducible show Ok (if _ then _ else _) _) | (with_reducible refine Ok.some ?_; try dsimp only) | (with_reducible show Ok (Option.bind (gR _ _) _) _) | (with_reducible show Ok (kf_in _ _ _) _) | (with_reducible show Ok (kf_nz _ _) _)) | (with_reducible refine Ok.c2' ?_; (first | (with_reducible show Ok (kf_let _ _) _) | (with_reducible show Ok (kf_j _ _) _) | (with_reducible show Ok (if _ then _ else _) _) | (with_reducible refine Ok.some ?_; try dsimp only) | (with_reducible show Ok (Option.bind (gR _ _) _) _) | (with_reducible show Ok (kf_in _ _ _) _) | (with_reducible show Ok (kf_nz _ _) _))))) | first | (with_reducible refine s_pos ?_ ?_; (focus (show (_ : String) = _; exact rfl))) | (with_reducible refine s_neg ?_ ?_; (focus (show ¬ ((_ : String) = _); decide))) | (first | (with_reducible refine s_pos ?_ ?_; (focus first | (simp (disch := omega) only [bG, Option.bind_some, Nat.reduceMul, Nat.reduceAdd, Nat.reduceEqDiff, Nat.reduceSub, Nat.reduceDiv, Nat.reduceLeDiff, bQ, bU, *]; done) | (simp (disch := omega) only [bG, Option.bind_some, Nat.reduceMul, Nat.reduceAdd, Nat.reduceEqDiff, Nat.reduceSub, Nat.reduceDiv, Nat.reduceLeDiff, bQ, bU, *]; omega) | omega)) | (with_reducible refine s_neg ?_ ?_; (focus first | (simp (disch := omega) only [bG, Option.bind_some, Nat.reduceMul, Nat.reduceAdd, Nat.reduceEqDiff, Nat.reduceSub, Nat.reduceDiv, Nat.reduceLeDiff, bQ, bU, *]; done) | (simp (disch := omega) only [bG, Option.bind_some, Nat.reduceMul, Nat.reduceAdd, Nat.reduceEqDiff, Nat.reduceSub, Nat.reduceDiv, Nat.reduceLeDiff, bQ, bU, *]; omega) | omega))))
      exact ih (by omega) _ _ ⟨rfl, t2, (f2.S (by decide)).trans st, f.trans (PT_W f2)⟩
theorem W_thins {n p kd tc : Nat} {th : Nat → Nat} {S : (Nat → Nat) × Nat} {σ : Mm} (hn : 65536 < n) (hp : PtC σ) (h38 : isP p) (hT : Turns σ) (hS : TapeC S.1 S.2 σ) (htc : tc ≤ 256) (hkd : kd ≤ 6) (c2 : gS σ (64 * p + 2) = N kd) (c7 : gS σ (64 * p + 7) = N tc) (c11 : ∀ i, i < tc → gB σ (p + 3) i = N (th i)) (hl : S.2 + 2 * tc + 20 < 65536) : Ok (F_Writer_addThins n 34 p σ) (fun s => TapeC (trns S kd tc th).1 (trns S kd tc th).2 s ∧ Fr PWr AT σ s) := by
  have hp50 : p ≤ 50 := by rcases h38 with rfl | rfl <;> decide
  have hp38 : 38 ≤ p := by rcases h38 with rfl | rfl <;> decide
  have k1 := kdp_3 h38
  unfold F_Writer_addThins
  refine (W_start (ty := 1951551059) hp hS rfl (by omega)).bind ?_
  rintro s1 ⟨t1, hst, f1⟩
  refine ok_for 0 tc (fun i x s => x = N i ∧ TapeC (if kd = 3 then adl (bg S 1951551059) (fun i => th i % 256) i else adp (bg S 1951551059) th i).1 (if kd = 3 then adl (bg S 1951551059) (fun i => th i % 256) i else adp (bg S 1951551059) th i).2 s ∧ gS s 2179 = N S.2 ∧ Fr PWr AT σ s) ?_ (by omega) (by omega) ⟨rfl, by (by_cases h3 : kd = 3); (rw [if_pos h3]; exact t1); (rw [if_neg h3]; exact t1), hst, f1⟩
  rintro i k9 x s - hi ⟨rfl, t, st, f⟩ ih
  have hps := hp.fr' f PWr_C
  have q1 := hps.Writer_tape
  have q2 := hps.pic_thins h38
  have q3 : gS s (64 * p + 7) = N tc := (f.S (by omega)).trans c7
  have q5 : gS s (64 * p + 2) = N kd := (f.S (by omega)).trans c2
  have hl2 := adl_2 (S := bg S 1951551059) (f := fun i => th i % 256) (k := i)
  have hl3 := adp_2 (S := bg S 1951551059) (f := th) (k := i)
  rw [bg_2] at hl2 hl3
  have hlen : (if kd = 3 then adl (bg S 1951551059) (fun i => th i % 256) i else adp (bg S 1951551059) th i).2 ≤ S.2 + 8 + 2 * i ∧ S.2 + 8 ≤ (if kd = 3 then adl (bg S 1951551059) (fun i => th i % 256) i else adp (bg S 1951551059) th i).2 := by
    split <;> omega
  by_cases hi2 : tc = i
  · subst hi2
    repeat (first | first | (with_reducible refine s_let ?_; intro x9 hx9; (try simp (disch := omega) only [bG, Option.bind_some, Nat.reduceMul, Nat.reduceAdd, Nat.reduceEqDiff, Nat.reduceSub, Nat.reduceDiv, Nat.reduceLeDiff, bQ, bU, *] at hx9); subst hx9) | (with_reducible refine s_R2 ?_ ?_; (focus (simp (disch := omega) only [bG, Option.bind_some, Nat.reduceMul, Nat.reduceAdd, Nat.reduceEqDiff, Nat.reduceSub, Nat.reduceDiv, Nat.reduceLeDiff, bQ, *, Option.isSome_some]; done)); (intro o9 ho9; simp (disch := omega) only [bG, Option.bind_some, Nat.reduceMul, Nat.reduceAdd, Nat.reduceEqDiff, Nat.reduceSub, Nat.reduceDiv, Nat.reduceLeDiff, bQ, *, Option.some.injEq] at ho9; subst ho9)) | (with_reducible refine s_in2 ?_ ?_; (focus first | (simp (disch := omega) only [bG, Option.bind_some, Nat.reduceMul, Nat.reduceAdd, Nat.reduceEqDiff, Nat.reduceSub, Nat.reduceDiv, Nat.reduceLeDiff, bQ, *, bK]; omega) | (simp (disch := omega) only [bG, Option.bind_some, Nat.reduceMul, Nat.reduceAdd, Nat.reduceEqDiff, Nat.reduceSub, Nat.reduceDiv, Nat.reduceLeDiff, bQ, *, bK, or_false, false_or, Nat.lt_irrefl, or_self, Nat.not_lt_zero]; done) | decide)) | (with_reducible refine s_nz ?_ ?_; (focus first | decide | assumption)) | (with_reducible refine s_nzl ?_ ?_; (focus decide)) | (with_reducible refine s_z ?_ ?_; (focus first | exact Or.inl rfl | exact Or.inr rfl | assumption)) | (with_reducible refine s_ji ?_) | first | (with_reducible refine s_h ?_) | (with_reducible refine s_t ?_) | (with_reducible apply s_chan; (focus first | with_reducible rfl | (simp (disch := omega) only [bG, Option.bind_some, Nat.reduceMul, Nat.reduceAdd, Nat.reduceEqDiff, Nat.reduceSub, Nat.reduceDiv, Nat.reduceLeDiff, bQ, bU, *]; with_reducible rfl)); (focus omega)) | (with_reducible refine Ok.c2' ?_; (first | (first | (with_reducible show Ok (kf_let _ _) _) | (with_reducible show Ok (kf_j _ _) _) | (with_reducible show Ok (if _ then _ else _) _) | (with_reducible refine Ok.some ?_; try dsimp only) | (with_reducible show Ok (Option.bind (gR _ _) _) _) | (with_reducible show Ok (kf_in _ _ _) _) | (with_reducible show Ok (kf_nz _ _) _)) | (with_reducible refine Ok.c2' ?_; (first | (with_reducible show Ok (kf_let _ _) _) | (with_reducible show Ok (kf_j _ _) _) | (with_reducible show Ok (if _ then _ else _) _) | (with_reducible refine Ok.some ?_; try dsimp only) | (with_reducible show Ok (Option.bind (gR _ _) _) _) | (with_reducible show Ok (kf_in _ _ _) _) | (with_reducible show Ok (kf_nz _ _) _))))) | (with_reducible refine Ok.bind' ?_; (first | (first | (with_reducible show Ok (kf_let _ _) _) | (with_reducible show Ok (kf_j _ _) _) | (with_reducible show Ok (if _ then _ else _) _) | (with_reducible refine Ok.some ?_; try dsimp only) | (with_reducible show Ok (Option.bind (gR _ _) _) _) | (with_reducible show Ok (kf_in _ _ _) _) | (with_reducible show Ok (kf_nz _ _) _)) | (with_reducible refine Ok.c2' ?_; (first | (with_reducible show Ok (kf_let _ _) _) | (with_reducible show Ok (kf_j _ _) _) | (with_reducible show Ok (if _ then _ else _) _) | (with_reducible refine Ok.some ?_; try dsimp only) | (with_reducible show Ok (Option.bind (gR _ _) _) _) | (with_reducible show Ok (kf_in _ _ _) _) | (with_reducible show Ok (kf_nz _ _) _))))) | first | (with_reducible refine s_pos ?_ ?_; (focus (show (_ : String) = _; exact rfl))) | (with_reducible refine s_neg ?_ ?_; (focus (show ¬ ((_ : String) = _); decide))) | (first | (with_reducible refine s_pos ?_ ?_; (focus first | (simp (disch := omega) only [bG, Option.bind_some, Nat.reduceMul, Nat.reduceAdd, Nat.reduceEqDiff, Nat.reduceSub, Nat.reduceDiv, Nat.reduceLeDiff, bQ, bU, *]; done) | (simp (disch := omega) only [bG, Option.bind_some, Nat.reduceMul, Nat.reduceAdd, Nat.reduceEqDiff, Nat.reduceSub, Nat.reduceDiv, Nat.reduceLeDiff, bQ, bU, *]; omega) | omega)) | (with_reducible refine s_neg ?_ ?_; (focus first | (simp (disch := omega) only [bG, Option.bind_some, Nat.reduceMul, Nat.reduceAdd, Nat.reduceEqDiff, Nat.reduceSub, Nat.reduceDiv, Nat.reduceLeDiff, bQ, bU, *]; done) | (simp (disch := omega) only [bG, Option.bind_some, Nat.reduceMul, Nat.reduceAdd, Nat.reduceEqDiff, Nat.reduceSub, Nat.reduceDiv, Nat.reduceLeDiff, bQ, bU, *]; omega) | omega))))
    refine (W_close hn hps (hT.fr f (by decide)) t st (by omega) (by omega)).bind ?_
    rintro s2 ⟨t2, f2⟩
    exact Ok.some ⟨t2, f.trans (PT_W f2)⟩
  · have q4 : gB s (p + 3) i = N (th i) := by rw [f.B (by omega)]; exact c11 i (by omega)
    by_cases h3 : kd = 3
    · rw [if_pos h3] at t hlen
      repeat (first | first | (with_reducible refine s_let ?_; intro x9 hx9; (try simp (disch := omega) only [bG, Option.bind_some, Nat.reduceMul, Nat.reduceAdd, Nat.reduceEqDiff, Nat.reduceSub, Nat.reduceDiv, Nat.reduceLeDiff, bQ, bU, *] at hx9); subst hx9) | (with_reducible refine s_R2 ?_ ?_; (focus (simp (disch := omega) only [bG, Option.bind_some, Nat.reduceMul, Nat.reduceAdd, Nat.reduceEqDiff, Nat.reduceSub, Nat.reduceDiv, Nat.reduceLeDiff, bQ, *, Option.isSome_some]; done)); (intro o9 ho9; simp (disch := omega) only [bG, Option.bind_some, Nat.reduceMul, Nat.reduceAdd, Nat.reduceEqDiff, Nat.reduceSub, Nat.reduceDiv, Nat.reduceLeDiff, bQ, *, Option.some.injEq] at ho9; subst ho9)) | (with_reducible refine s_in2 ?_ ?_; (focus first | (simp (disch := omega) only [bG, Option.bind_some, Nat.reduceMul, Nat.reduceAdd, Nat.reduceEqDiff, Nat.reduceSub, Nat.reduceDiv, Nat.reduceLeDiff, bQ, *, bK]; omega) | (simp (disch := omega) only [bG, Option.bind_some, Nat.reduceMul, Nat.reduceAdd, Nat.reduceEqDiff, Nat.reduceSub, Nat.reduceDiv, Nat.reduceLeDiff, bQ, *, bK, or_false, false_or, Nat.lt_irrefl, or_self, Nat.not_lt_zero]; done) | decide)) | (with_reducible refine s_nz ?_ ?_; (focus first | decide | assumption)) | (with_reducible refine s_nzl ?_ ?_; (focus decide)) | (with_reducible refine s_z ?_ ?_; (focus first | exact Or.inl rfl | exact Or.inr rfl | assumption)) | (with_reducible refine s_ji ?_) | first | (with_reducible refine s_h ?_) | (with_reducible refine s_t ?_) | (with_reducible apply s_chan; (focus first | with_reducible rfl | (simp (disch := omega) only [bG, Option.bind_some, Nat.reduceMul, Nat.reduceAdd, Nat.reduceEqDiff, Nat.reduceSub, Nat.reduceDiv, Nat.reduceLeDiff, bQ, bU, *]; with_reducible rfl)); (focus omega)) | (with_reducible refine Ok.c2' ?_; (first | (first | (with_reducible show Ok (kf_let _ _) _) | (with_reducible show Ok (kf_j _ _) _) | (with_reducible show Ok (if _ then _ else _) _) | (with_reducible refine Ok.some ?_; try dsimp only) | (with_reducible show Ok (Option.bind (gR _ _) _) _) | (with_reducible show Ok (kf_in _ _ _) _) | (with_reducible show Ok (kf_nz _ _) _)) | (with_reducible refine Ok.c2' ?_; (first | (with_reducible show Ok (kf_let _ _) _) | (with_reducible show Ok (kf_j _ _) _) | (with_reducible show Ok (if _ then _ else _) _) | (with_reducible refine Ok.some ?_; try dsimp only) | (with_reducible show Ok (Option.bind (gR _ _) _) _) | (with_reducible show Ok (kf_in _ _ _) _) | (with_reducible show Ok (kf_nz _ _) _))))) | (with_reducible refine Ok.bind' ?_; (first | (first | (with_reducible show Ok (kf_let _ _) _) | (with_reducible show Ok (kf_j _ _) _) | (with_reducible show Ok (if _ then _ else _) _) | (with_reducible refine Ok.some ?_; try dsimp only) | (with_reducible show Ok (Option.bind (gR _ _) _) _) | (with_reducible show Ok (kf_in _ _ _) _) | (with_reducible show Ok (kf_nz _ _) _)) | (with_reducible refine Ok.c2' ?_; (first | (with_reducible show Ok (kf_let _ _) _) | (with_reducible show Ok (kf_j _ _) _) | (with_reducible show Ok (if _ then _ else _) _) | (with_reducible refine Ok.some ?_; try dsimp only) | (with_reducible show Ok (Option.bind (gR _ _) _) _) | (with_reducible show Ok (kf_in _ _ _) _) | (with_reducible show Ok (kf_nz _ _) _))))) | first | (with_reducible refine s_pos ?_ ?_; (focus (show (_ : String) = _; exact rfl))) | (with_reducible refine s_neg ?_ ?_; (focus (show ¬ ((_ : String) = _); decide))) | (first | (with_reducible refine s_pos ?_ ?_; (focus first | (simp (disch := omega) only [bG, Option.bind_some, Nat.reduceMul, Nat.reduceAdd, Nat.reduceEqDiff, Nat.reduceSub, Nat.reduceDiv, Nat.reduceLeDiff, bQ, bU, *]; done) | (simp (disch := omega) only [bG, Option.bind_some, Nat.reduceMul, Nat.reduceAdd, Nat.reduceEqDiff, Nat.reduceSub, Nat.reduceDiv, Nat.reduceLeDiff, bQ, bU, *]; omega) | omega)) | (with_reducible refine s_neg ?_ ?_; (focus first | (simp (disch := omega) only [bG, Option.bind_some, Nat.reduceMul, Nat.reduceAdd, Nat.reduceEqDiff, Nat.reduceSub, Nat.reduceDiv, Nat.reduceLeDiff, bQ, bU, *]; done) | (simp (disch := omega) only [bG, Option.bind_some, Nat.reduceMul, Nat.reduceAdd, Nat.reduceEqDiff, Nat.reduceSub, Nat.reduceDiv, Nat.reduceLeDiff, bQ, bU, *]; omega) | omega))))
      refine (Ta_add (v := th i % 256) hps t ?_ (by omega)).bind ?_
      · rw [N_nat (by omega), q4]; exact lob_Nat _
      · rintro s2 ⟨t2, f2⟩
        repeat (first | first | (with_reducible refine s_let ?_; intro x9 hx9; (try simp (disch := omega) only [bG, Option.bind_some, Nat.reduceMul, Nat.reduceAdd, Nat.reduceEqDiff, Nat.reduceSub, Nat.reduceDiv, Nat.reduceLeDiff, bQ, bU, *] at hx9); subst hx9) | (with_reducible refine s_R2 ?_ ?_; (focus (simp (disch := omega) only [bG, Option.bind_some, Nat.reduceMul, Nat.reduceAdd, Nat.reduceEqDiff, Nat.reduceSub, Nat.reduceDiv, Nat.reduceLeDiff, bQ, *, Option.isSome_some]; done)); (intro o9 ho9; simp (disch := omega) only [bG, Option.bind_some, Nat.reduceMul, Nat.reduceAdd, Nat.reduceEqDiff, Nat.reduceSub, Nat.reduceDiv, Nat.reduceLeDiff, bQ, *, Option.some.injEq] at ho9; subst ho9)) | (with_reducible refine s_in2 ?_ ?_; (focus first | (simp (disch := omega) only [bG, Option.bind_some, Nat.reduceMul, Nat.reduceAdd, Nat.reduceEqDiff, Nat.reduceSub, Nat.reduceDiv, Nat.reduceLeDiff, bQ, *, bK]; omega) | (simp (disch := omega) only [bG, Option.bind_some, Nat.reduceMul, Nat.reduceAdd, Nat.reduceEqDiff, Nat.reduceSub, Nat.reduceDiv, Nat.reduceLeDiff, bQ, *, bK, or_false, false_or, Nat.lt_irrefl, or_self, Nat.not_lt_zero]; done) | decide)) | (with_reducible refine s_nz ?_ ?_; (focus first | decide | assumption)) | (with_reducible refine s_nzl ?_ ?_; (focus decide)) | (with_reducible refine s_z ?_ ?_; (focus first | exact Or.inl rfl | exact Or.inr rfl | assumption)) | (with_reducible refine s_ji ?_) | first | (with_reducible refine s_h ?_) | (with_reducible refine s_t ?_) | (with_reducible apply s_chan; (focus first | with_reducible rfl | (simp (disch := omega) only [bG, Option.bind_some, Nat.reduceMul, Nat.reduceAdd, Nat.reduceEqDiff, Nat.reduceSub, Nat.reduceDiv, Nat.reduceLeDiff, bQ, bU, *]; with_reducible rfl)); (focus omega)) | (with_reducible refine Ok.c2' ?_; (first | (first | (with_reducible show Ok (kf_let _ _) _) | (with_reducible show Ok (kf_j _ _) _) | (with_reducible show Ok (if _ then _ else _) _) | (with_reducible refine Ok.some ?_; try dsimp only) | (with_reducible show Ok (Option.bind (gR _ _) _) _) | (with_reducible show Ok (kf_in _ _ _) _) | (with_reducible show Ok (kf_nz _ _) _)) | (with_reducible refine Ok.c2' ?_; (first | (with_reducible show Ok (kf_let _ _) _) | (with_reducible show Ok (kf_j _ _) _) | (with_reducible show Ok (if _ then _ else _) _) | (with_reducible refine Ok.some ?_; try dsimp only) | (with_reducible show Ok (Option.bind (gR _ _) _) _) | (with_reducible show Ok (kf_in _ _ _) _) | (with_reducible show Ok (kf_nz _ _) _))))) | (with_reducible refine Ok.bind' ?_; (first | (first | (with_reducible show Ok (kf_let _ _) _) | (with_reducible show Ok (kf_j _ _) _) | (with_reducible show Ok (if _ then _ else _) _) | (with_reducible refine Ok.some ?_; try dsimp only) | (with_reducible show Ok (Option.bind (gR _ _) _) _) | (with_reducible show Ok (kf_in _ _ _) _) | (with_reducible show Ok (kf_nz _ _) _)) | (with_reducible refine Ok.c2' ?_; (first | (with_reducible show Ok (kf_let _ _) _) | (with_reducible show Ok (kf_j _ _) _) | (with_reducible show Ok (if _ then _ else _) _) | (with_reducible refine Ok.some ?_; try dsimp only) | (with_reducible show Ok (Option.bind (gR _ _) _) _) | (with_reducible show Ok (kf_in _ _ _) _) | (with_reducible show Ok (kf_nz _ _) _))))) | first | (with_reducible refine s_pos ?_ ?_; (focus (show (_ : String) = _; exact rfl))) | (with_reducible refine s_neg ?_ ?_; (focus (show ¬ ((_ : String) = _); decide))) | (first | (with_reducible refine s_pos ?_ ?_; (focus first | (simp (disch := omega) only [bG, Option.bind_some, Nat.reduceMul, Nat.reduceAdd, Nat.reduceEqDiff, Nat.reduceSub, Nat.reduceDiv, Nat.reduceLeDiff, bQ, bU, *]; done) | (simp (disch := omega) only [bG, Option.bind_some, Nat.reduceMul, Nat.reduceAdd, Nat.reduceEqDiff, Nat.reduceSub, Nat.reduceDiv, Nat.reduceLeDiff, bQ, bU, *]; omega) | omega)) | (with_reducible refine s_neg ?_ ?_; (focus first | (simp (disch := omega) only [bG, Option.bind_some, Nat.reduceMul, Nat.reduceAdd, Nat.reduceEqDiff, Nat.reduceSub, Nat.reduceDiv, Nat.reduceLeDiff, bQ, bU, *]; done) | (simp (disch := omega) only [bG, Option.bind_some, Nat.reduceMul, Nat.reduceAdd, Nat.reduceEqDiff, Nat.reduceSub, Nat.reduceDiv, Nat.reduceLeDiff, bQ, bU, *]; omega) | omega))))
        refine ih (by omega) _ _ ⟨rfl, ?_, (f2.S (by decide)).trans st, f.trans (PT_W f2)⟩
        rw [if_pos h3]
        exact t2
    · rw [if_neg h3] at t hlen
      repeat (first | first | (with_reducible refine s_let ?_; intro x9 hx9; (try simp (disch := omega) only [bG, Option.bind_some, Nat.reduceMul, Nat.reduceAdd, Nat.reduceEqDiff, Nat.reduceSub, Nat.reduceDiv, Nat.reduceLeDiff, bQ, bU, *] at hx9); subst hx9) | (with_reducible refine s_R2 ?_ ?_; (focus (simp (disch := omega) only [bG, Option.bind_some, Nat.reduceMul, Nat.reduceAdd, Nat.reduceEqDiff, Nat.reduceSub, Nat.reduceDiv, Nat.reduceLeDiff, bQ, *, Option.isSome_some]; done)); (intro o9 ho9; simp (disch := omega) only [bG, Option.bind_some, Nat.reduceMul, Nat.reduceAdd, Nat.reduceEqDiff, Nat.reduceSub, Nat.reduceDiv, Nat.reduceLeDiff, bQ, *, Option.some.injEq] at ho9; subst ho9)) | (with_reducible refine s_in2 ?_ ?_; (focus first | (simp (disch := omega) only [bG, Option.bind_some, Nat.reduceMul, Nat.reduceAdd, Nat.reduceEqDiff, Nat.reduceSub, Nat.reduceDiv, Nat.reduceLeDiff, bQ, *, bK]; omega) | (simp (disch := omega) only [bG, Option.bind_some, Nat.reduceMul, Nat.reduceAdd, Nat.reduceEqDiff, Nat.reduceSub, Nat.reduceDiv, Nat.reduceLeDiff, bQ, *, bK, or_false, false_or, Nat.lt_irrefl, or_self, Nat.not_lt_zero]; done) | decide)) | (with_reducible refine s_nz ?_ ?_; (focus first | decide | assumption)) | (with_reducible refine s_nzl ?_ ?_; (focus decide)) | (with_reducible refine s_z ?_ ?_; (focus first | exact Or.inl rfl | exact Or.inr rfl | assumption)) | (with_reducible refine s_ji ?_) | first | (with_reducible refine s_h ?_) | (with_reducible refine s_t ?_) | (with_reducible apply s_chan; (focus first | with_reducible rfl | (simp (disch := omega) only [bG, Option.bind_some, Nat.reduceMul, Nat.reduceAdd, Nat.reduceEqDiff, Nat.reduceSub, Nat.reduceDiv, Nat.reduceLeDiff, bQ, bU, *]; with_reducible rfl)); (focus omega)) | (with_reducible refine Ok.c2' ?_; (first | (first | (with_reducible show Ok (kf_let _ _) _) | (with_reducible show Ok (kf_j _ _) _) | (with_reducible show Ok (if _ then _ else _) _) | (with_reducible refine Ok.some ?_; try dsimp only) | (with_reducible show Ok (Option.bind (gR _ _) _) _) | (with_reducible show Ok (kf_in _ _ _) _) | (with_reducible show Ok (kf_nz _ _) _)) | (with_reducible refine Ok.c2' ?_; (first | (with_reducible show Ok (kf_let _ _) _) | (with_reducible show Ok (kf_j _ _) _) | (with_reducible show Ok (if _ then _ else _) _) | (with_reducible refine Ok.some ?_; try dsimp only) | (with_reducible show Ok (Option.bind (gR _ _) _) _) | (with_reducible show Ok (kf_in _ _ _) _) | (with_reducible show Ok (kf_nz _ _) _))))) | (with_reducible refine Ok.bind' ?_; (first | (first | (with_reducible show Ok (kf_let _ _) _) | (with_reducible show Ok (kf_j _ _) _) | (with_reducible show Ok (if _ then _ else _) _) | (with_reducible refine Ok.some ?_; try dsimp only) | (with_reducible show Ok (Option.bind (gR _ _) _) _) | (with_reducible show Ok (kf_in _ _ _) _) | (with_reducible show Ok (kf_nz _ _) _)) | (with_reducible refine Ok.c2' ?_; (first | (with_reducible show Ok (kf_let _ _) _) | (with_reducible show Ok (kf_j _ _) _) | (with_reducible show Ok (if _ then _ else _) _) | (with_reducible refine Ok.some ?_; try dsimp only) | (with_reducible show Ok (Option.bind (gR _ _) _) _) | (with_reducible show Ok (kf_in _ _ _) _) | (with_reducible show Ok (kf_nz _ _) _))))) | first | (with_reducible refine s_pos ?_ ?_; (focus (show (_ : String) = _; exact rfl))) | (with_reducible refine s_neg ?_ ?_; (focus (show ¬ ((_ : String) = _); decide))) | (first | (with_reducible refine s_pos ?_ ?_; (focus first | (simp (disch := omega) only [bG, Option.bind_some, Nat.reduceMul, Nat.reduceAdd, Nat.reduceEqDiff, Nat.reduceSub, Nat.reduceDiv, Nat.reduceLeDiff, bQ, bU, *]; done) | (simp (disch := omega) only [bG, Option.bind_some, Nat.reduceMul, Nat.reduceAdd, Nat.reduceEqDiff, Nat.reduceSub, Nat.reduceDiv, Nat.reduceLeDiff, bQ, bU, *]; omega) | omega)) | (with_reducible refine s_neg ?_ ?_; (focus first | (simp (disch := omega) only [bG, Option.bind_some, Nat.reduceMul, Nat.reduceAdd, Nat.reduceEqDiff, Nat.reduceSub, Nat.reduceDiv, Nat.reduceLeDiff, bQ, bU, *]; done) | (simp (disch := omega) only [bG, Option.bind_some, Nat.reduceMul, Nat.reduceAdd, Nat.reduceEqDiff, Nat.reduceSub, Nat.reduceDiv, Nat.reduceLeDiff, bQ, bU, *]; omega) | omega))))
      refine (Ta_pair (v := th i) hps t ?_ (by omega)).bind ?_
      · rw [N_nat (by omega), q4]
      · rintro s2 ⟨t2, f2⟩
        repeat (first | first | (with_reducible refine s_let ?_; intro x9 hx9; (try simp (disch := omega) only [bG, Option.bind_some, Nat.reduceMul, Nat.reduceAdd, Nat.reduceEqDiff, Nat.reduceSub, Nat.reduceDiv, Nat.reduceLeDiff, bQ, bU, *] at hx9); subst hx9) | (with_reducible refine s_R2 ?_ ?_; (focus (simp (disch := omega) only [bG, Option.bind_some, Nat.reduceMul, Nat.reduceAdd, Nat.reduceEqDiff, Nat.reduceSub, Nat.reduceDiv, Nat.reduceLeDiff, bQ, *, Option.isSome_some]; done)); (intro o9 ho9; simp (disch := omega) only [bG, Option.bind_some, Nat.reduceMul, Nat.reduceAdd, Nat.reduceEqDiff, Nat.reduceSub, Nat.reduceDiv, Nat.reduceLeDiff, bQ, *, Option.some.injEq] at ho9; subst ho9)) | (with_reducible refine s_in2 ?_ ?_; (focus first | (simp (disch := omega) only [bG, Option.bind_some, Nat.reduceMul, Nat.reduceAdd, Nat.reduceEqDiff, Nat.reduceSub, Nat.reduceDiv, Nat.reduceLeDiff, bQ, *, bK]; omega) | (simp (disch := omega) only [bG, Option.bind_some, Nat.reduceMul, Nat.reduceAdd, Nat.reduceEqDiff, Nat.reduceSub, Nat.reduceDiv, Nat.reduceLeDiff, bQ, *, bK, or_false, false_or, Nat.lt_irrefl, or_self, Nat.not_lt_zero]; done) | decide)) | (with_reducible refine s_nz ?_ ?_; (focus first | decide | assumption)) | (with_reducible refine s_nzl ?_ ?_; (focus decide)) | (with_reducible refine s_z ?_ ?_; (focus first | exact Or.inl rfl | exact Or.inr rfl | assumption)) | (with_reducible refine s_ji ?_) | first | (with_reducible refine s_h ?_) | (with_reducible refine s_t ?_) | (with_reducible apply s_chan; (focus first | with_reducible rfl | (simp (disch := omega) only [bG, Option.bind_some, Nat.reduceMul, Nat.reduceAdd, Nat.reduceEqDiff, Nat.reduceSub, Nat.reduceDiv, Nat.reduceLeDiff, bQ, bU, *]; with_reducible rfl)); (focus omega)) | (with_reducible refine Ok.c2' ?_; (first | (first | (with_reducible show Ok (kf_let _ _) _) | (with_reducible show Ok (kf_j _ _) _) | (with_reducible show Ok (if _ then _ else _) _) | (with_reducible refine Ok.some ?_; try dsimp only) | (with_reducible show Ok (Option.bind (gR _ _) _) _) | (with_reducible show Ok (kf_in _ _ _) _) | (with_reducible show Ok (kf_nz _ _) _)) | (with_reducible refine Ok.c2' ?_; (first | (with_reducible show Ok (kf_let _ _) _) | (with_reducible show Ok (kf_j _ _) _) | (with_reducible show Ok (if _ then _ else _) _) | (with_reducible refine Ok.some ?_; try dsimp only) | (with_reducible show Ok (Option.bind (gR _ _) _) _) | (with_reducible show Ok (kf_in _ _ _) _) | (with_reducible show Ok (kf_nz _ _) _))))) | (with_reducible refine Ok.bind' ?_; (first | (first | (with_reducible show Ok (kf_let _ _) _) | (with_reducible show Ok (kf_j _ _) _) | (with_reducible show Ok (if _ then _ else _) _) | (with_reducible refine Ok.some ?_; try dsimp only) | (with_reducible show Ok (Option.bind (gR _ _) _) _) | (with_reducible show Ok (kf_in _ _ _) _) | (with_reducible show Ok (kf_nz _ _) _)) | (with_reducible refine Ok.c2' ?_; (first | (with_reducible show Ok (kf_let _ _) _) | (with_reducible show Ok (kf_j _ _) _) | (with_reducible show Ok (if _ then _ else _) _) | (with_reducible refine Ok.some ?_; try dsimp only) | (with_reducible show Ok (Option.bind (gR _ _) _) _) | (with_reducible show Ok (kf_in _ _ _) _) | (with_reducible show Ok (kf_nz _ _) _))))) | first | (with_reducible refine s_pos ?_ ?_; (focus (show (_ : String) = _; exact rfl))) | (with_reducible refine s_neg ?_ ?_; (focus (show ¬ ((_ : String) = _); decide))) | (first | (with_reducible refine s_pos ?_ ?_; (focus first | (simp (disch := omega) only [bG, Option.bind_some, Nat.reduceMul, Nat.reduceAdd, Nat.reduceEqDiff, Nat.reduceSub, Nat.reduceDiv, Nat.reduceLeDiff, bQ, bU, *]; done) | (simp (disch := omega) only [bG, Option.bind_some, Nat.reduceMul, Nat.reduceAdd, Nat.reduceEqDiff, Nat.reduceSub, Nat.reduceDiv, Nat.reduceLeDiff, bQ, bU, *]; omega) | omega)) | (with_reducible refine s_neg ?_ ?_; (focus first | (simp (disch := omega) only [bG, Option.bind_some, Nat.reduceMul, Nat.reduceAdd, Nat.reduceEqDiff, Nat.reduceSub, Nat.reduceDiv, Nat.reduceLeDiff, bQ, bU, *]; done) | (simp (disch := omega) only [bG, Option.bind_some, Nat.reduceMul, Nat.reduceAdd, Nat.reduceEqDiff, Nat.reduceSub, Nat.reduceDiv, Nat.reduceLeDiff, bQ, bU, *]; omega) | omega))))
        refine ih (by omega) _ _ ⟨rfl, ?_, (f2.S (by decide)).trans st, f.trans (PT_W f2)⟩
        rw [if_neg h3]
        exact t2
def colS (S : (Nat → Nat) × Nat) (cc : Nat) (co : Nat → Nat) : (Nat → Nat) × Nat := if cc = 0 then S else plte S cc co
def thnS (S : (Nat → Nat) × Nat) (kd tc : Nat) (th : Nat → Nat) : (Nat → Nat) × Nat := if tc = 0 then S else trns S kd tc th
theorem colS_2 {S : (Nat → Nat) × Nat} {cc : Nat} {co : Nat → Nat} : (colS S cc co).2 ≤ S.2 + 3 * cc + 12 := by
  unfold colS plte
  split
  · omega
  · rw [cl_2, adl_2, bg_2]; omega
theorem thnS_2 {S : (Nat → Nat) × Nat} {kd tc : Nat} {th : Nat → Nat} : (thnS S kd tc th).2 ≤ S.2 + 2 * tc + 12 := by
  unfold thnS trns
  split
  · omega
  · rw [cl_2]
    split
    · rw [adl_2, bg_2]; omega
    · rw [adp_2, bg_2]; omega
theorem colS_b {S : (Nat → Nat) × Nat} {cc : Nat} {co : Nat → Nat} (h : Sb S) (hco : ∀ i, co i < 256) : Sb (colS S cc co) := by
  unfold colS plte
  split
  · exact h
  · exact cl_b (adl_b (bg_b h) hco _)
theorem thnS_b {S : (Nat → Nat) × Nat} {kd tc : Nat} {th : Nat → Nat} (h : Sb S) : Sb (thnS S kd tc th) := by
  unfold thnS trns
  split
  · exact h
  · refine cl_b ?_
    split
    · exact adl_b (bg_b h) (fun i => Nat.mod_lt _ (by decide)) _
    · exact adp_b (bg_b h) _
