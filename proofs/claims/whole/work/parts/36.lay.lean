/-! LAYOUTS: rows of a picture, by pass and line -/
def pX (q : Nat) : Nat := if q = 1 then 4 else if q = 3 then 2 else if q = 5 then 1 else 0
def pY (q : Nat) : Nat := if q = 2 then 4 else if q = 4 then 2 else if q = 6 then 1 else 0
def sX (q : Nat) : Nat := if q < 2 then 8 else if q < 4 then 4 else if q < 6 then 2 else 1
def sY (q : Nat) : Nat := if q < 3 then 8 else if q < 5 then 4 else if q < 7 then 2 else 1
def pts (z a b : Nat) : Nat := if z ≤ a then 0 else (z - a + b - 1) / b
/-- points of a row; bytes of a row; lines of a pass; rows and bytes before a pass -/
def pn (w q : Nat) : Nat := pts w (pX q) (sX q)
def rb (w bits q : Nat) : Nat := (pn w q * bits + 7) / 8
def ln (w h lc q : Nat) : Nat := if (lc = 0 ∧ q = 7) ∨ (lc = 1 ∧ q < 7) then (if pn w q = 0 then 0 else pts h (pY q) (sY q)) else 0
def bs (w h lc : Nat) : Nat → Nat
  | 0 => 0
  | q + 1 => bs w h lc q + ln w h lc q
def bt (w h lc bits : Nat) : Nat → Nat
  | 0 => 0
  | q + 1 => bt w h lc bits q + ln w h lc q * (1 + rb w bits q)
def ro (w h lc bits q l : Nat) : Nat := bt w h lc bits q + l * (1 + rb w bits q)
def Hd (w h lc : Nat) : Prop := 1 ≤ w ∧ w ≤ 64 ∧ 1 ≤ h ∧ h ≤ 64 ∧ lc ≤ 1
theorem q8 {q : Nat} (h : q < 8) : q = 0 ∨ q = 1 ∨ q = 2 ∨ q = 3 ∨ q = 4 ∨ q = 5 ∨ q = 6 ∨ q = 7 := by omega
theorem pX_le {q : Nat} : pX q ≤ 4 := by unfold pX; (repeat' split) <;> omega
theorem pY_le {q : Nat} : pY q ≤ 4 := by unfold pY; (repeat' split) <;> omega
theorem sX_b {q : Nat} : 1 ≤ sX q ∧ sX q ≤ 8 := by unfold sX; (repeat' split) <;> omega
theorem sY_b {q : Nat} : 1 ≤ sY q ∧ sY q ≤ 8 := by unfold sY; (repeat' split) <;> omega
theorem pn_le {w q : Nat} (h : w ≤ 64) (hq : q < 8) : pn w q ≤ 64 := by
  rcases q8 hq with rfl | rfl | rfl | rfl | rfl | rfl | rfl | rfl <;> (unfold pn pts pX sX; simp only [Nat.reduceEqDiff, Nat.reduceLT, if_true, if_false, reduceIte]; split <;> omega)
theorem pts_lt {z l q : Nat} (hq : q < 8) : l < pts z (pY q) (sY q) ↔ pY q + l * sY q < z := by
  rcases q8 hq with rfl | rfl | rfl | rfl | rfl | rfl | rfl | rfl <;> (unfold pts pY sY; simp only [Nat.reduceEqDiff, Nat.reduceLT, if_true, if_false, reduceIte]; split <;> omega)
theorem ptsX_lt {z l q : Nat} (hq : q < 8) : l < pn z q ↔ pX q + l * sX q < z := by
  rcases q8 hq with rfl | rfl | rfl | rfl | rfl | rfl | rfl | rfl <;> (unfold pn pts pX sX; simp only [Nat.reduceEqDiff, Nat.reduceLT, if_true, if_false, reduceIte]; split <;> omega)
theorem bs_mono {w h lc q q' : Nat} (hq : q ≤ q') : bs w h lc q ≤ bs w h lc q' := by
  induction hq with
  | refl => exact Nat.le_refl _
  | step _ ih => exact Nat.le_trans ih (Nat.le_add_right _ _)
theorem bt_mono {w h lc bits q q' : Nat} (hq : q ≤ q') : bt w h lc bits q ≤ bt w h lc bits q' := by
  induction hq with
  | refl => exact Nat.le_refl _
  | step _ ih => exact Nat.le_trans ih (Nat.le_add_right _ _)
theorem bs_in {w h lc q l : Nat} (hl : l < ln w h lc q) (hq : q < 8) : bs w h lc q + l < bs w h lc 8 := by
  have h1 : bs w h lc (q + 1) = bs w h lc q + ln w h lc q := rfl
  have h2 : bs w h lc (q + 1) ≤ bs w h lc 8 := bs_mono (by omega)
  omega
/-- earlier lines stand at smaller numbers -/
theorem bs_lt {w h lc q l q' l' : Nat} (hl : l' < ln w h lc q') (hq : q' < q ∨ (q' = q ∧ l' < l)) : bs w h lc q' + l' < bs w h lc q + l := by
  rcases hq with hq | ⟨rfl, hq⟩
  · have h1 : bs w h lc (q' + 1) = bs w h lc q' + ln w h lc q' := rfl
    have h2 : bs w h lc (q' + 1) ≤ bs w h lc q := bs_mono (by omega)
    omega
  · omega
theorem ln_le {w h lc q : Nat} (hh : Hd w h lc) (hq : q < 8) : ln w h lc q ≤ if lc = 0 then (if q = 7 then 64 else 0) else if q < 3 then 8 else if q < 5 then 16 else if q < 7 then 32 else 0 := by
  obtain ⟨h1, h2, h3, h4, h5⟩ := hh
  have hlc : lc = 0 ∨ lc = 1 := by omega
  rcases hlc with rfl | rfl <;> rcases q8 hq with rfl | rfl | rfl | rfl | rfl | rfl | rfl | rfl <;> (unfold ln pts pY sY; simp only [Nat.reduceEqDiff, Nat.reduceLT, if_true, if_false, reduceIte, and_true, true_and, and_false, false_and, or_false, false_or, Nat.zero_le, Nat.le_refl]; try (repeat' split) <;> omega)
theorem bs_8 {w h lc : Nat} (hh : Hd w h lc) : bs w h lc 8 ≤ 120 := by
  have e : ∀ q, bs w h lc (q + 1) = bs w h lc q + ln w h lc q := fun q => rfl
  have e0 : bs w h lc 0 = 0 := rfl
  have h0 := ln_le hh (q := 0) (by decide)
  have h1 := ln_le hh (q := 1) (by decide)
  have h2 := ln_le hh (q := 2) (by decide)
  have h3 := ln_le hh (q := 3) (by decide)
  have h4 := ln_le hh (q := 4) (by decide)
  have h5 := ln_le hh (q := 5) (by decide)
  have h6 := ln_le hh (q := 6) (by decide)
  have h7 := ln_le hh (q := 7) (by decide)
  rw [e, e, e, e, e, e, e, e, e0]
  by_cases hlc : lc = 0
  · simp only [hlc, if_true, Nat.reduceEqDiff, if_false, reduceIte] at h0 h1 h2 h3 h4 h5 h6 h7 ⊢
    omega
  · simp only [hlc, if_true, Nat.reduceEqDiff, if_false, reduceIte, Nat.reduceLT] at h0 h1 h2 h3 h4 h5 h6 h7 ⊢
    omega
theorem rb_le {w bits q m : Nat} (hb : bits ≤ 64) (hm : pn w q ≤ m) : rb w bits q ≤ 8 * m := by
  unfold rb
  have : pn w q * bits ≤ m * 64 := Nat.mul_le_mul hm hb
  omega
theorem pn_b {w q : Nat} (h : w ≤ 64) (hq : q < 8) : pn w q ≤ if q < 2 then 8 else if q < 4 then 16 else if q < 6 then 32 else 64 := by
  rcases q8 hq with rfl | rfl | rfl | rfl | rfl | rfl | rfl | rfl <;> (unfold pn pts pX sX; simp only [Nat.reduceEqDiff, Nat.reduceLT, if_true, if_false, reduceIte]; split <;> omega)
theorem lr_le {w h lc bits q m k : Nat} (hb : bits ≤ 64) (hl : ln w h lc q ≤ m) (hp : pn w q ≤ k) : ln w h lc q * (1 + rb w bits q) ≤ m * (1 + 8 * k) := Nat.mul_le_mul hl (Nat.add_le_add_left (rb_le hb hp) 1)
theorem bt_8 {w h lc bits : Nat} (hh : Hd w h lc) (hb : bits ≤ 64) : bt w h lc bits 8 ≤ 32888 := by
  have e : ∀ q, bt w h lc bits (q + 1) = bt w h lc bits q + ln w h lc q * (1 + rb w bits q) := fun q => rfl
  have e0 : bt w h lc bits 0 = 0 := rfl
  have hw := hh.2.1
  have h0 := lr_le (bits := bits) hb (ln_le hh (q := 0) (by decide)) (pn_b hw (by decide))
  have h1 := lr_le (bits := bits) hb (ln_le hh (q := 1) (by decide)) (pn_b hw (by decide))
  have h2 := lr_le (bits := bits) hb (ln_le hh (q := 2) (by decide)) (pn_b hw (by decide))
  have h3 := lr_le (bits := bits) hb (ln_le hh (q := 3) (by decide)) (pn_b hw (by decide))
  have h4 := lr_le (bits := bits) hb (ln_le hh (q := 4) (by decide)) (pn_b hw (by decide))
  have h5 := lr_le (bits := bits) hb (ln_le hh (q := 5) (by decide)) (pn_b hw (by decide))
  have h6 := lr_le (bits := bits) hb (ln_le hh (q := 6) (by decide)) (pn_b hw (by decide))
  have h7 := lr_le (bits := bits) hb (ln_le hh (q := 7) (by decide)) (pn_b hw (by decide))
  rw [e, e, e, e, e, e, e, e, e0]
  by_cases hlc : lc = 0
  · simp only [hlc, if_true, Nat.reduceEqDiff, if_false, reduceIte, Nat.reduceLT, Nat.reduceMul, Nat.reduceAdd] at h0 h1 h2 h3 h4 h5 h6 h7 ⊢
    omega
  · simp only [hlc, if_true, Nat.reduceEqDiff, if_false, reduceIte, Nat.reduceLT, Nat.reduceMul, Nat.reduceAdd] at h0 h1 h2 h3 h4 h5 h6 h7 ⊢
    omega
/-- each row has a pass and a line -/
theorem row_ex {w h lc k : Nat} : ∀ {q : Nat}, k < bs w h lc q → ∃ q' l, q' < q ∧ l < ln w h lc q' ∧ k = bs w h lc q' + l := by
  intro q
  induction q with
  | zero => intro h; exact absurd h (Nat.not_lt_zero _)
  | succ q ih =>
    intro hk
    by_cases h1 : k < bs w h lc q
    · obtain ⟨q', l, a, b, c⟩ := ih h1
      exact ⟨q', l, by omega, b, c⟩
    · have e : bs w h lc (q + 1) = bs w h lc q + ln w h lc q := rfl
      exact ⟨q, k - bs w h lc q, by omega, by omega, by omega⟩
/-- the class's layout -/
def LayR (p w h lc bits q l : Nat) (σ : Mm) : Prop :=
  gB σ (p + 5) (bs w h lc q + l) = N (pX q) ∧ gB σ (p + 6) (bs w h lc q + l) = N (pY q + l * sY q) ∧ gB σ (p + 7) (bs w h lc q + l) = N (sX q) ∧ gB σ (p + 8) (bs w h lc q + l) = N (pn w q) ∧ gB σ (p + 9) (bs w h lc q + l) = N (ro w h lc bits q l) ∧ gB σ (p + 10) (bs w h lc q + l) = N (rb w bits q) ∧ gB σ (p + 11) (bs w h lc q + l) = N (if l = 0 then 0 else rb w bits q + 1)
def LayC (p w h lc bits : Nat) (σ : Mm) : Prop := gS σ (64 * (p + 4) + 0) = N (bs w h lc 8) ∧ gS σ (64 * (p + 4) + 1) = N (bt w h lc bits 8) ∧ gS σ (64 * (p + 4) + 2) = N (if 1 < bits / 8 then bits / 8 else 1) ∧ ∀ q l, q < 8 → l < ln w h lc q → LayR p w h lc bits q l σ
/-- the fixed tables -/
def Stat (σ : Mm) : Prop := ∀ a, 100 ≤ a → gB σ a = mm_sc a
theorem Stat.x {σ : Mm} (h : Stat σ) {q : Nat} (hq : q < 8) : gB σ 101 q = N (pX q) := by
  rw [h 101 (by decide)]; rcases q8 hq with rfl | rfl | rfl | rfl | rfl | rfl | rfl | rfl <;> decide
theorem Stat.right {σ : Mm} (h : Stat σ) {q : Nat} (hq : q < 8) : gB σ 102 q = N (sX q) := by
  rw [h 102 (by decide)]; rcases q8 hq with rfl | rfl | rfl | rfl | rfl | rfl | rfl | rfl <;> decide
theorem Stat.y {σ : Mm} (h : Stat σ) {q : Nat} (hq : q < 8) : gB σ 103 q = N (pY q) := by
  rw [h 103 (by decide)]; rcases q8 hq with rfl | rfl | rfl | rfl | rfl | rfl | rfl | rfl <;> decide
theorem Stat.down {σ : Mm} (h : Stat σ) {q : Nat} (hq : q < 8) : gB σ 104 q = N (sY q) := by
  rw [h 104 (by decide)]; rcases q8 hq with rfl | rfl | rfl | rfl | rfl | rfl | rfl | rfl <;> decide
theorem Stat.fr {P A : Nat → Prop} {σ σ' : Mm} (h : Stat σ) (hF : Fr P A σ σ') (hA : ∀ a, A a → a < 100) : Stat σ' := fun a ha => (hF.B (fun z => by have := hA a z; omega)).trans (h a ha)
/-- places and arrays of the layout of a picture -/
abbrev PLay (p k : Nat) : Prop := k = 64 * (p + 4) + 0 ∨ k = 64 * (p + 4) + 1 ∨ k = 64 * (p + 4) + 2
abbrev ALay (p a : Nat) : Prop := p + 5 ≤ a ∧ a ≤ p + 11
theorem isP.le {p : Nat} (h : isP p) : p = 38 ∨ p = 50 := h
theorem PLay_C {p : Nat} (hp : isP p) (k : Nat) (h : PLay p k) : cptr.all (fun q => q.1 != k) = true := by
  unfold PLay at h
  rcases hp with rfl | rfl <;> rcases h with h | h | h <;> subst h <;> decide
theorem Layout_addRow_eq {n p i t a b c d e : Nat} {e5 : Int32} {s : Mm} (he : e5 = N e) (hp : PtC s) (h38 : isP p) (h0 : gS s (64 * (p + 4) + 0) = N i) (h1 : gS s (64 * (p + 4) + 1) = N t) (hi : i < 120) : F_Layout_addRow n (p + 4) (N a) (N b) (N c) (N d) e5 s = some (pS (pS (pB (pB (pB (pB (pB (pB s (p + 5) i (N a)) (p + 6) i (N b)) (p + 7) i (N c)) (p + 8) i (N d)) (p + 9) i (N t)) (p + 10) i (N e)) (64 * (p + 4) + 1) (N (t + (1 + e)))) (64 * (p + 4) + 0) (N (i + 1))) := by
  subst he
  have p1 := hp.lay_x h38
  have p2 := hp.lay_y h38
  have p3 := hp.lay_step h38
  have p4 := hp.lay_points h38
  have p5 := hp.lay_at h38
  have p6 := hp.lay_length h38
  have k1 := kdp_5 h38
  have k2 := kdp_6 h38
  have k3 := kdp_7 h38
  have k4 := kdp_8 h38
  have k5 := kdp_9 h38
  have k6 := kdp_10 h38
  apply Ok.eq
  unfold F_Layout_addRow
  repeat (first | first | (with_reducible refine s_let ?_; intro x9 hx9; (try simp (disch := omega) only [bG, Option.bind_some, Nat.reduceMul, Nat.reduceAdd, Nat.reduceEqDiff, Nat.reduceSub, Nat.reduceDiv, Nat.reduceLeDiff, bQ, bU, *] at hx9); subst hx9) | (with_reducible refine s_R2 ?_ ?_; (focus (simp (disch := omega) only [bG, Option.bind_some, Nat.reduceMul, Nat.reduceAdd, Nat.reduceEqDiff, Nat.reduceSub, Nat.reduceDiv, Nat.reduceLeDiff, bQ, *, Option.isSome_some]; done)); (intro o9 ho9; simp (disch := omega) only [bG, Option.bind_some, Nat.reduceMul, Nat.reduceAdd, Nat.reduceEqDiff, Nat.reduceSub, Nat.reduceDiv, Nat.reduceLeDiff, bQ, *, Option.some.injEq] at ho9; subst ho9)) | (with_reducible refine s_in2 ?_ ?_; (focus first | (simp (disch := omega) only [bG, Option.bind_some, Nat.reduceMul, Nat.reduceAdd, Nat.reduceEqDiff, Nat.reduceSub, Nat.reduceDiv, Nat.reduceLeDiff, bQ, *, bK]; omega) | (simp (disch := omega) only [bG, Option.bind_some, Nat.reduceMul, Nat.reduceAdd, Nat.reduceEqDiff, Nat.reduceSub, Nat.reduceDiv, Nat.reduceLeDiff, bQ, *, bK, or_false, false_or, Nat.lt_irrefl, or_self, Nat.not_lt_zero]; done) | decide)) | (with_reducible refine s_nz ?_ ?_; (focus first | decide | assumption)) | (with_reducible refine s_nzl ?_ ?_; (focus decide)) | (with_reducible refine s_z ?_ ?_; (focus first | exact Or.inl rfl | exact Or.inr rfl | assumption)) | (with_reducible refine s_ji ?_) | first | (with_reducible refine s_h ?_) | (with_reducible refine s_t ?_) | (with_reducible apply s_chan; (focus first | with_reducible rfl | (simp (disch := omega) only [bG, Option.bind_some, Nat.reduceMul, Nat.reduceAdd, Nat.reduceEqDiff, Nat.reduceSub, Nat.reduceDiv, Nat.reduceLeDiff, bQ, bU, *]; with_reducible rfl)); (focus omega)) | (with_reducible refine Ok.c2' ?_; (first | (first | (with_reducible show Ok (kf_let _ _) _) | (with_reducible show Ok (kf_j _ _) _) | (with_reducible show Ok (if _ then _ else _) _) | (with_reducible refine Ok.some ?_; try dsimp only) | (with_reducible show Ok (Option.bind (gR _ _) _) _) | (with_reducible show Ok (kf_in _ _ _) _) | (with_reducible show Ok (kf_nz _ _) _)) | (with_reducible refine Ok.c2' ?_; (first | (with_reducible show Ok (kf_let _ _) _) | (with_reducible show Ok (kf_j _ _) _) | (with_reducible show Ok (if _ then _ else _) _) | (with_reducible refine Ok.some ?_; try dsimp only) | (with_reducible show Ok (Option.bind (gR _ _) _) _) | (with_reducible show Ok (kf_in _ _ _) _) | (with_reducible show Ok (kf_nz _ _) _))))) | (with_reducible refine Ok.bind' ?_; (first | (first | (with_reducible show Ok (kf_let _ _) _) | (with_reducible show Ok (kf_j _ _) _) | (with_reducible show Ok (if _ then _ else _) _) | (with_reducible refine Ok.some ?_; try dsimp only) | (with_reducible show Ok (Option.bind (gR _ _) _) _) | (with_reducible show Ok (kf_in _ _ _) _) | (with_reducible show Ok (kf_nz _ _) _)) | (with_reducible refine Ok.c2' ?_; (first | (with_reducible show Ok (kf_let _ _) _) | (with_reducible show Ok (kf_j _ _) _) | (with_reducible show Ok (if _ then _ else _) _) | (with_reducible refine Ok.some ?_; try dsimp only) | (with_reducible show Ok (Option.bind (gR _ _) _) _) | (with_reducible show Ok (kf_in _ _ _) _) | (with_reducible show Ok (kf_nz _ _) _))))) | first | (with_reducible refine s_pos ?_ ?_; (focus (show (_ : String) = _; exact rfl))) | (with_reducible refine s_neg ?_ ?_; (focus (show ¬ ((_ : String) = _); decide))) | (first | (with_reducible refine s_pos ?_ ?_; (focus first | (simp (disch := omega) only [bG, Option.bind_some, Nat.reduceMul, Nat.reduceAdd, Nat.reduceEqDiff, Nat.reduceSub, Nat.reduceDiv, Nat.reduceLeDiff, bQ, bU, *]; done) | (simp (disch := omega) only [bG, Option.bind_some, Nat.reduceMul, Nat.reduceAdd, Nat.reduceEqDiff, Nat.reduceSub, Nat.reduceDiv, Nat.reduceLeDiff, bQ, bU, *]; omega) | omega)) | (with_reducible refine s_neg ?_ ?_; (focus first | (simp (disch := omega) only [bG, Option.bind_some, Nat.reduceMul, Nat.reduceAdd, Nat.reduceEqDiff, Nat.reduceSub, Nat.reduceDiv, Nat.reduceLeDiff, bQ, bU, *]; done) | (simp (disch := omega) only [bG, Option.bind_some, Nat.reduceMul, Nat.reduceAdd, Nat.reduceEqDiff, Nat.reduceSub, Nat.reduceDiv, Nat.reduceLeDiff, bQ, bU, *]; omega) | omega))) | (with_reducible refine Ok.some ?_; try dsimp only))
theorem ln_0 {w h q : Nat} (hq : q ≠ 7) : ln w h 0 q = 0 := by unfold ln; rw [if_neg (by omega)]
theorem ln_1 {w h q : Nat} (hq : ¬ q < 7) : ln w h 1 q = 0 := by unfold ln; rw [if_neg (by omega)]
theorem bs_0 {w h q : Nat} (hq : q ≤ 7) : bs w h 0 q = 0 := by
  induction q with
  | zero => rfl
  | succ q ih => show bs w h 0 q + ln w h 0 q = 0; rw [ih (by omega), ln_0 (by omega)]
theorem bt_0 {w h bits q : Nat} (hq : q ≤ 7) : bt w h 0 bits q = 0 := by
  induction q with
  | zero => rfl
  | succ q ih => show bt w h 0 bits q + ln w h 0 q * _ = 0; rw [ih (by omega), ln_0 (by omega)]; omega
theorem bs_s {w h lc q : Nat} : bs w h lc (q + 1) = bs w h lc q + ln w h lc q := rfl
theorem bt_s {w h lc bits q : Nat} : bt w h lc bits (q + 1) = ro w h lc bits q (ln w h lc q) := rfl
theorem ro_s {w h lc bits q l : Nat} : ro w h lc bits q (l + 1) = ro w h lc bits q l + (1 + rb w bits q) := by
  unfold ro; rw [Nat.add_mul, Nat.one_mul, Nat.add_assoc]
theorem ro_0 {w h lc bits q : Nat} : ro w h lc bits q 0 = bt w h lc bits q := by unfold ro; rw [Nat.zero_mul, Nat.add_zero]
theorem ro_lt {w h lc bits q l : Nat} (hq : q < 8) (hl : l < ln w h lc q) : ro w h lc bits q l + (1 + rb w bits q) ≤ bt w h lc bits 8 := by
  rw [← ro_s]
  have h1 : ro w h lc bits q (l + 1) ≤ ro w h lc bits q (ln w h lc q) := Nat.add_le_add_left (Nat.mul_le_mul_right _ hl) _
  rw [← bt_s] at h1
  exact Nat.le_trans h1 (bt_mono (by omega))
/-- so far: passes before q, and l lines of q -/
def LayJ (p w h lc bits : Nat) (σ : Mm) (q l : Nat) (s : Mm) : Prop := Fr (PLay p) (ALay p) σ s ∧ gS s (64 * (p + 4) + 0) = N (bs w h lc q + l) ∧ gS s (64 * (p + 4) + 1) = N (ro w h lc bits q l) ∧ gS s (64 * (p + 4) + 2) = N (if 1 < bits / 8 then bits / 8 else 1) ∧ ∀ q' l', q' < 8 → l' < ln w h lc q' → (q' < q ∨ (q' = q ∧ l' < l)) → LayR p w h lc bits q' l' s
theorem LayJ_next {p w h lc bits q : Nat} {σ s : Mm} (hJ : LayJ p w h lc bits σ q (ln w h lc q) s) : LayJ p w h lc bits σ (q + 1) 0 s := by
  obtain ⟨f1, c0, c1, c2, hR⟩ := hJ
  refine ⟨f1, c0, ?_, c2, fun q' l' h1 h2 h3 => hR q' l' h1 h2 ?_⟩
  · rw [c1, ro_0, bt_s]
  · rcases h3 with h3 | ⟨rfl, h3⟩
    · by_cases h4 : q' = q
      · subst h4; exact Or.inr ⟨rfl, h2⟩
      · exact Or.inl (by omega)
    · exact absurd h3 (Nat.not_lt_zero _)
theorem LayJ_end {p w h lc bits q : Nat} {σ s : Mm} (hJ : LayJ p w h lc bits σ q 0 s) (hq : q ≤ 8) (hz : ∀ q', q ≤ q' → ln w h lc q' = 0) : LayC p w h lc bits s ∧ Fr (PLay p) (ALay p) σ s := by
  obtain ⟨f1, c0, c1, c2, hR⟩ := hJ
  have hb : ∀ k, q ≤ k → bs w h lc k = bs w h lc q ∧ bt w h lc bits k = bt w h lc bits q := by
    intro k hk
    induction hk with
    | refl => exact ⟨rfl, rfl⟩
    | step hk ih =>
      refine ⟨?_, ?_⟩
      · rw [bs_s, hz _ hk, Nat.add_zero]; exact ih.1
      · rw [bt_s, hz _ hk, ro_0]; exact ih.2
  refine ⟨⟨?_, ?_, c2, fun q' l' h1 h2 => hR q' l' h1 h2 (Or.inl ?_)⟩, f1⟩
  · rw [c0, (hb 8 hq).1, Nat.add_zero]
  · rw [c1, (hb 8 hq).2, ro_0]
  · rcases Nat.lt_or_ge q' q with h3 | h3
    · exact h3
    · rw [hz q' h3] at h2; exact absurd h2 (Nat.not_lt_zero _)
theorem LayJ_row {p w h lc bits q l : Nat} {σ s : Mm} (hJ : LayJ p w h lc bits σ q l s) (hq : q < 8) (hl : l < ln w h lc q) : LayJ p w h lc bits σ q (l + 1) (pB (pS (pS (pB (pB (pB (pB (pB (pB s (p + 5) (bs w h lc q + l) (N (pX q))) (p + 6) (bs w h lc q + l) (N (pY q + l * sY q))) (p + 7) (bs w h lc q + l) (N (sX q))) (p + 8) (bs w h lc q + l) (N (pn w q))) (p + 9) (bs w h lc q + l) (N (ro w h lc bits q l))) (p + 10) (bs w h lc q + l) (N (rb w bits q))) (64 * (p + 4) + 1) (N (ro w h lc bits q l + (1 + rb w bits q)))) (64 * (p + 4) + 0) (N (bs w h lc q + l + 1))) (p + 11) (bs w h lc q + l) (N (if l = 0 then 0 else rb w bits q + 1))) := by
  obtain ⟨f1, c0, c1, c2, hR⟩ := hJ
  refine ⟨?_, ?_, ?_, ?_, ?_⟩
  · refine Fr.wB (Fr.wS (Fr.wS (Fr.wB (Fr.wB (Fr.wB (Fr.wB (Fr.wB (Fr.wB f1 ?_ _ _) ?_ _ _) ?_ _ _) ?_ _ _) ?_ _ _) ?_ _ _) ?_ _) ?_ _) ?_ _ _ <;> first | exact Or.inl rfl | exact Or.inr (Or.inl rfl) | (unfold ALay; omega)
  · first | (simp (disch := omega) only [bG, Option.bind_some, Nat.reduceMul, Nat.reduceAdd, Nat.reduceEqDiff, Nat.reduceSub, Nat.reduceDiv, Nat.reduceLeDiff, bQ, bU, *]; done) | (simp (disch := omega) only [bG, Option.bind_some, Nat.reduceMul, Nat.reduceAdd, Nat.reduceEqDiff, Nat.reduceSub, Nat.reduceDiv, Nat.reduceLeDiff, bQ, bU, *]; rfl) | rfl
  · simp (disch := omega) only [bG, Option.bind_some, Nat.reduceMul, Nat.reduceAdd, Nat.reduceEqDiff, Nat.reduceSub, Nat.reduceDiv, Nat.reduceLeDiff, bQ, ro_s]
  · simp (disch := omega) only [bG, Option.bind_some, Nat.reduceMul, Nat.reduceAdd, Nat.reduceEqDiff, Nat.reduceSub, Nat.reduceDiv, Nat.reduceLeDiff, bQ, c2]
  · intro q' l' h1 h2 h3
    by_cases h4 : q' = q ∧ l' = l
    · obtain ⟨rfl, rfl⟩ := h4
      unfold LayR
      simp (disch := omega) only [bG, Option.bind_some, Nat.reduceMul, Nat.reduceAdd, Nat.reduceEqDiff, Nat.reduceSub, Nat.reduceDiv, Nat.reduceLeDiff, bQ, upd_eq, and_self]
    · have h5 : bs w h lc q' + l' < bs w h lc q + l := bs_lt h2 (by omega)
      obtain ⟨g1, g2, g3, g4, g5, g6, g7⟩ := hR q' l' h1 h2 (by omega)
      unfold LayR
      simp (disch := omega) only [bG, Option.bind_some, Nat.reduceMul, Nat.reduceAdd, Nat.reduceEqDiff, Nat.reduceSub, Nat.reduceDiv, Nat.reduceLeDiff, bQ, upd_ne, g1, g2, g3, g4, g5, g6, g7, and_self]
theorem N_ne0 {a : Nat} (h : 1 ≤ a) (h2 : a < 2147483648) : N a ≠ 0 := by
  intro e
  have := (N_inj (a := a) (b := 0) (by omega) (by decide)).mp e
  omega
theorem s_ifv {α X : Type} {k : α → Mm → Option X} {c : Prop} [Decidable c] {a b v : α} {σ : Mm} {Q : X → Prop} (h1 : c → a = v) (h2 : ¬ c → b = v) (h : Ok (k v σ) Q) : Ok (if c then k a σ else k b σ) Q := by
  by_cases hc : c
  · rw [if_pos hc, h1 hc]; exact h
  · rw [if_neg hc, h2 hc]; exact h
/-- first and last pass -/
def PaB (lc lo hi : Nat) : Prop := (lc = 0 ∧ lo = 7 ∧ hi = 8) ∨ (lc = 1 ∧ lo = 0 ∧ hi = 7)
theorem PaB_ex {lc : Nat} (h : lc ≤ 1) : ∃ lo hi, PaB lc lo hi := by
  by_cases h0 : lc = 0
  · exact ⟨7, 8, Or.inl ⟨h0, rfl, rfl⟩⟩
  · exact ⟨0, 7, Or.inr ⟨by omega, rfl, rfl⟩⟩
theorem ln_out {w h lc lo hi q : Nat} (hb : PaB lc lo hi) (hq : q < lo ∨ hi ≤ q) : ln w h lc q = 0 := by
  unfold ln PaB at *
  rw [if_neg (by omega)]
theorem ln_in {w h lc lo hi q : Nat} (hb : PaB lc lo hi) (h1 : lo ≤ q) (h2 : q < hi) : ln w h lc q = if pn w q = 0 then 0 else pts h (pY q) (sY q) := by
  unfold ln PaB at *
  rw [if_pos (by omega)]
theorem bs_lo {w h lc lo hi : Nat} (hb : PaB lc lo hi) : ∀ q, q ≤ lo → bs w h lc q = 0 := by
  intro q
  induction q with
  | zero => intro _; rfl
  | succ q ih => intro hq; show bs w h lc q + ln w h lc q = 0; rw [ih (by omega), ln_out hb (Or.inl hq)]
theorem bt_lo {w h lc lo hi bits : Nat} (hb : PaB lc lo hi) : ∀ q, q ≤ lo → bt w h lc bits q = 0 := by
  intro q
  induction q with
  | zero => intro _; rfl
  | succ q ih => intro hq; show bt w h lc bits q + ln w h lc q * _ = 0; rw [ih (by omega), ln_out hb (Or.inl hq)]; omega
set_option maxHeartbeats 8000000 in
theorem Layout_lay_ok {n p w h lc bits : Nat} {σ : Mm} (hp : PtC σ) (hs : Stat σ) (h38 : isP p) (hh : Hd w h lc) (hb1 : 1 ≤ bits) (hb : bits ≤ 64) (hn : 1000 < n) : Ok (F_Layout_lay n (p + 4) (N w) (N h) (N bits) (N lc) σ) (fun σ' => LayC p w h lc bits σ' ∧ Fr (PLay p) (ALay p) σ σ') := by
  obtain ⟨w1, w2, h1, h2, l2⟩ := id hh
  have hp50 : p ≤ 50 := by rcases h38 with rfl | rfl <;> decide
  have hB8 := bs_8 hh
  have hT8 := bt_8 hh hb
  obtain ⟨lo, hi, hpb⟩ := PaB_ex l2
  have hlh : lo ≤ hi ∧ hi ≤ 8 ∧ (lc = 0 → lo = 7 ∧ hi = 8) ∧ (¬ lc = 0 → lo = 0 ∧ hi = 7) := by unfold PaB at hpb; omega
  have hx : (if N 1 < N bits / N 8 then N bits / N 8 else N 1) = N (if 1 < bits / 8 then bits / 8 else 1) := by
    rw [N_div (by omega) (by decide)]
    by_cases hc : 1 < bits / 8
    · rw [if_pos hc, if_pos ((N_lt (by decide) (by omega)).mpr hc)]
    · rw [if_neg hc, if_neg (fun z => hc ((N_lt (by decide) (by omega)).mp z))]
  have hl0' : N lc = 0 → lc = 0 := fun e => (N_inj (by omega) (by decide)).mp e
  have hl0'' : ¬ N lc = 0 → ¬ lc = 0 := fun e e2 => e (by rw [e2]; rfl)
  unfold F_Layout_lay
  (with_reducible refine s_let ?_; intro x9 hx9; (try simp (disch := omega) only [bG, Option.bind_some, Nat.reduceMul, Nat.reduceAdd, Nat.reduceEqDiff, Nat.reduceSub, Nat.reduceDiv, Nat.reduceLeDiff, bQ, bU, *] at hx9); subst hx9)
  (with_reducible refine s_let ?_; intro x9 hx9; (try simp (disch := omega) only [bG, Option.bind_some, Nat.reduceMul, Nat.reduceAdd, Nat.reduceEqDiff, Nat.reduceSub, Nat.reduceDiv, Nat.reduceLeDiff, bQ, bU, *] at hx9); subst hx9)
  (with_reducible refine s_nz ?_ ?_; (focus first | decide | assumption))
  refine s_let (fun x9 hx9 => ?_)
  rw [N_lit, N_lit, hx] at hx9
  subst hx9
  (with_reducible refine s_let ?_; intro x9 hx9; (try simp (disch := omega) only [bG, Option.bind_some, Nat.reduceMul, Nat.reduceAdd, Nat.reduceEqDiff, Nat.reduceSub, Nat.reduceDiv, Nat.reduceLeDiff, bQ, bU, *] at hx9); subst hx9)
  refine s_j (fun k5 hk5 => ?_)
  refine s_ifv (v := N hi) (fun e => by rw [(hlh.2.2.1 (hl0' e)).2]; rfl) (fun e => by rw [(hlh.2.2.2 (hl0'' e)).2]; rfl) ?_
  subst hk5
  refine s_j (fun k5 hk5 => ?_)
  refine s_ifv (v := N lo) (fun e => by rw [(hlh.2.2.1 (hl0' e)).1]; rfl) (fun e => by rw [(hlh.2.2.2 (hl0'' e)).1]; rfl) ?_
  subst hk5
  clear hl0' hl0'' hx
  refine ok_for lo hi (fun q x s => x = N q ∧ LayJ p w h lc bits σ q 0 s) ?_ (by omega) (by omega) ⟨rfl, ?_⟩
  · rintro q k9 x s hq1 hq2 ⟨rfl, hJ⟩ ih
    by_cases hq : q = hi
    · subst hq
      refine s_pos (by first | (simp (disch := omega) only [bG, Option.bind_some, Nat.reduceMul, Nat.reduceAdd, Nat.reduceEqDiff, Nat.reduceSub, Nat.reduceDiv, Nat.reduceLeDiff, bQ, bU, *]; done) | (simp (disch := omega) only [bG, Option.bind_some, Nat.reduceMul, Nat.reduceAdd, Nat.reduceEqDiff, Nat.reduceSub, Nat.reduceDiv, Nat.reduceLeDiff, bQ, bU, *]; omega) | omega) (Ok.some ?_)
      exact LayJ_end hJ (by omega) (fun q' hq' => ln_out hpb (Or.inr hq'))
    · have hq8 : q < 8 := by omega
      obtain ⟨f1, c0, c1, c2, hR⟩ := id hJ
      have hss := hs.fr f1 (fun a ha => by unfold ALay at ha; omega)
      have x1 := hss.x hq8
      have x2 := hss.right hq8
      have x3 := hss.y hq8
      have hz : N (sX q) ≠ 0 := N_ne0 sX_b.1 (by have := sX_b (q := q); omega)
      have sb := sX_b (q := q)
      have yb := sY_b (q := q)
      have xb := pX_le (q := q)
      have yb2 := pY_le (q := q)
      have hl := ln_in (w := w) (h := h) hpb hq1 (show q < hi by omega)
      have hpn64 := pn_le w2 hq8
      have hln := ln_le hh hq8
      have hln64 : ln w h lc q ≤ 64 := by
        refine Nat.le_trans hln ?_
        (repeat' split) <;> omega
      clear hln hR c0 c1 c2 f1
      refine s_neg (by first | (simp (disch := omega) only [bG, Option.bind_some, Nat.reduceMul, Nat.reduceAdd, Nat.reduceEqDiff, Nat.reduceSub, Nat.reduceDiv, Nat.reduceLeDiff, bQ, bU, *]; done) | (simp (disch := omega) only [bG, Option.bind_some, Nat.reduceMul, Nat.reduceAdd, Nat.reduceEqDiff, Nat.reduceSub, Nat.reduceDiv, Nat.reduceLeDiff, bQ, bU, *]; omega) | omega) ?_
      by_cases hw : w ≤ pX q
      · have hv : pn w q = 0 := by unfold pn pts; rw [if_pos hw]
        have hl0 : ln w h lc q = 0 := by rw [hl, if_pos hv]
        have fin : LayJ p w h lc bits σ (q + 1) 0 s := LayJ_next (by rw [hl0]; exact hJ)
        have nx := ih (by omega) (N (q + 1)) s ⟨rfl, fin⟩
        clear hl hv hl0 ih hss hJ
        repeat (first | first | (with_reducible refine s_let ?_; intro x9 hx9; (try simp (disch := omega) only [bG, Option.bind_some, Nat.reduceMul, Nat.reduceAdd, Nat.reduceEqDiff, Nat.reduceSub, Nat.reduceDiv, Nat.reduceLeDiff, bQ, bU, *] at hx9); subst hx9) | (with_reducible refine s_R2 ?_ ?_; (focus (simp (disch := omega) only [bG, Option.bind_some, Nat.reduceMul, Nat.reduceAdd, Nat.reduceEqDiff, Nat.reduceSub, Nat.reduceDiv, Nat.reduceLeDiff, bQ, *, Option.isSome_some]; done)); (intro o9 ho9; simp (disch := omega) only [bG, Option.bind_some, Nat.reduceMul, Nat.reduceAdd, Nat.reduceEqDiff, Nat.reduceSub, Nat.reduceDiv, Nat.reduceLeDiff, bQ, *, Option.some.injEq] at ho9; subst ho9)) | (with_reducible refine s_in2 ?_ ?_; (focus first | (simp (disch := omega) only [bG, Option.bind_some, Nat.reduceMul, Nat.reduceAdd, Nat.reduceEqDiff, Nat.reduceSub, Nat.reduceDiv, Nat.reduceLeDiff, bQ, *, bK]; omega) | (simp (disch := omega) only [bG, Option.bind_some, Nat.reduceMul, Nat.reduceAdd, Nat.reduceEqDiff, Nat.reduceSub, Nat.reduceDiv, Nat.reduceLeDiff, bQ, *, bK, or_false, false_or, Nat.lt_irrefl, or_self, Nat.not_lt_zero]; done) | decide)) | (with_reducible refine s_nz ?_ ?_; (focus first | decide | assumption)) | (with_reducible refine s_nzl ?_ ?_; (focus decide)) | (with_reducible refine s_z ?_ ?_; (focus first | exact Or.inl rfl | exact Or.inr rfl | assumption)) | (with_reducible refine s_ji ?_) | first | (with_reducible refine s_h ?_) | (with_reducible refine s_t ?_) | (with_reducible apply s_chan; (focus first | with_reducible rfl | (simp (disch := omega) only [bG, Option.bind_some, Nat.reduceMul, Nat.reduceAdd, Nat.reduceEqDiff, Nat.reduceSub, Nat.reduceDiv, Nat.reduceLeDiff, bQ, bU, *]; with_reducible rfl)); (focus omega)) | (with_reducible refine Ok.c2' ?_; (first | (first | (with_reducible show Ok (kf_let _ _) _) | (with_reducible show Ok (kf_j _ _) _) | (with_reducible show Ok (if _ then _ else _) _) | (with_reducible refine Ok.some ?_; try dsimp only) | (with_reducible show Ok (Option.bind (gR _ _) _) _) | (with_reducible show Ok (kf_in _ _ _) _) | (with_reducible show Ok (kf_nz _ _) _)) | (with_reducible refine Ok.c2' ?_; (first | (with_reducible show Ok (kf_let _ _) _) | (with_reducible show Ok (kf_j _ _) _) | (with_reducible show Ok (if _ then _ else _) _) | (with_reducible refine Ok.some ?_; try dsimp only) | (with_reducible show Ok (Option.bind (gR _ _) _) _) | (with_reducible show Ok (kf_in _ _ _) _) | (with_reducible show Ok (kf_nz _ _) _))))) | (with_reducible refine Ok.bind' ?_; (first | (first | (with_reducible show Ok (kf_let _ _) _) | (with_reducible show Ok (kf_j _ _) _) | (with_reducible show Ok (if _ then _ else _) _) | (with_reducible refine Ok.some ?_; try dsimp only) | (with_reducible show Ok (Option.bind (gR _ _) _) _) | (with_reducible show Ok (kf_in _ _ _) _) | (with_reducible show Ok (kf_nz _ _) _)) | (with_reducible refine Ok.c2' ?_; (first | (with_reducible show Ok (kf_let _ _) _) | (with_reducible show Ok (kf_j _ _) _) | (with_reducible show Ok (if _ then _ else _) _) | (with_reducible refine Ok.some ?_; try dsimp only) | (with_reducible show Ok (Option.bind (gR _ _) _) _) | (with_reducible show Ok (kf_in _ _ _) _) | (with_reducible show Ok (kf_nz _ _) _))))) | first | (with_reducible refine s_pos ?_ ?_; (focus (show (_ : String) = _; exact rfl))) | (with_reducible refine s_neg ?_ ?_; (focus (show ¬ ((_ : String) = _); decide))) | (first | (with_reducible refine s_pos ?_ ?_; (focus first | (simp (disch := omega) only [bG, Option.bind_some, Nat.reduceMul, Nat.reduceAdd, Nat.reduceEqDiff, Nat.reduceSub, Nat.reduceDiv, Nat.reduceLeDiff, bQ, bU, *]; done) | (simp (disch := omega) only [bG, Option.bind_some, Nat.reduceMul, Nat.reduceAdd, Nat.reduceEqDiff, Nat.reduceSub, Nat.reduceDiv, Nat.reduceLeDiff, bQ, bU, *]; omega) | omega)) | (with_reducible refine s_neg ?_ ?_; (focus first | (simp (disch := omega) only [bG, Option.bind_some, Nat.reduceMul, Nat.reduceAdd, Nat.reduceEqDiff, Nat.reduceSub, Nat.reduceDiv, Nat.reduceLeDiff, bQ, bU, *]; done) | (simp (disch := omega) only [bG, Option.bind_some, Nat.reduceMul, Nat.reduceAdd, Nat.reduceEqDiff, Nat.reduceSub, Nat.reduceDiv, Nat.reduceLeDiff, bQ, bU, *]; omega) | omega))))
        refine ok_for 0 0 (fun l x s' => x = N (pY q) ∧ s = s') ?_ (by omega) (by omega) ⟨rfl, rfl⟩
        rintro l k8 x s' - hl1 ⟨rfl, rfl⟩ -
        by_cases hy : h ≤ pY q
        · repeat (first | first | (with_reducible refine s_let ?_; intro x9 hx9; (try simp (disch := omega) only [bG, Option.bind_some, Nat.reduceMul, Nat.reduceAdd, Nat.reduceEqDiff, Nat.reduceSub, Nat.reduceDiv, Nat.reduceLeDiff, bQ, bU, *] at hx9); subst hx9) | (with_reducible refine s_R2 ?_ ?_; (focus (simp (disch := omega) only [bG, Option.bind_some, Nat.reduceMul, Nat.reduceAdd, Nat.reduceEqDiff, Nat.reduceSub, Nat.reduceDiv, Nat.reduceLeDiff, bQ, *, Option.isSome_some]; done)); (intro o9 ho9; simp (disch := omega) only [bG, Option.bind_some, Nat.reduceMul, Nat.reduceAdd, Nat.reduceEqDiff, Nat.reduceSub, Nat.reduceDiv, Nat.reduceLeDiff, bQ, *, Option.some.injEq] at ho9; subst ho9)) | (with_reducible refine s_in2 ?_ ?_; (focus first | (simp (disch := omega) only [bG, Option.bind_some, Nat.reduceMul, Nat.reduceAdd, Nat.reduceEqDiff, Nat.reduceSub, Nat.reduceDiv, Nat.reduceLeDiff, bQ, *, bK]; omega) | (simp (disch := omega) only [bG, Option.bind_some, Nat.reduceMul, Nat.reduceAdd, Nat.reduceEqDiff, Nat.reduceSub, Nat.reduceDiv, Nat.reduceLeDiff, bQ, *, bK, or_false, false_or, Nat.lt_irrefl, or_self, Nat.not_lt_zero]; done) | decide)) | (with_reducible refine s_nz ?_ ?_; (focus first | decide | assumption)) | (with_reducible refine s_nzl ?_ ?_; (focus decide)) | (with_reducible refine s_z ?_ ?_; (focus first | exact Or.inl rfl | exact Or.inr rfl | assumption)) | (with_reducible refine s_ji ?_) | first | (with_reducible refine s_h ?_) | (with_reducible refine s_t ?_) | (with_reducible apply s_chan; (focus first | with_reducible rfl | (simp (disch := omega) only [bG, Option.bind_some, Nat.reduceMul, Nat.reduceAdd, Nat.reduceEqDiff, Nat.reduceSub, Nat.reduceDiv, Nat.reduceLeDiff, bQ, bU, *]; with_reducible rfl)); (focus omega)) | (with_reducible refine Ok.c2' ?_; (first | (first | (with_reducible show Ok (kf_let _ _) _) | (with_reducible show Ok (kf_j _ _) _) | (with_reducible show Ok (if _ then _ else _) _) | (with_reducible refine Ok.some ?_; try dsimp only) | (with_reducible show Ok (Option.bind (gR _ _) _) _) | (with_reducible show Ok (kf_in _ _ _) _) | (with_reducible show Ok (kf_nz _ _) _)) | (with_reducible refine Ok.c2' ?_; (first | (with_reducible show Ok (kf_let _ _) _) | (with_reducible show Ok (kf_j _ _) _) | (with_reducible show Ok (if _ then _ else _) _) | (with_reducible refine Ok.some ?_; try dsimp only) | (with_reducible show Ok (Option.bind (gR _ _) _) _) | (with_reducible show Ok (kf_in _ _ _) _) | (with_reducible show Ok (kf_nz _ _) _))))) | (with_reducible refine Ok.bind' ?_; (first | (first | (with_reducible show Ok (kf_let _ _) _) | (with_reducible show Ok (kf_j _ _) _) | (with_reducible show Ok (if _ then _ else _) _) | (with_reducible refine Ok.some ?_; try dsimp only) | (with_reducible show Ok (Option.bind (gR _ _) _) _) | (with_reducible show Ok (kf_in _ _ _) _) | (with_reducible show Ok (kf_nz _ _) _)) | (with_reducible refine Ok.c2' ?_; (first | (with_reducible show Ok (kf_let _ _) _) | (with_reducible show Ok (kf_j _ _) _) | (with_reducible show Ok (if _ then _ else _) _) | (with_reducible refine Ok.some ?_; try dsimp only) | (with_reducible show Ok (Option.bind (gR _ _) _) _) | (with_reducible show Ok (kf_in _ _ _) _) | (with_reducible show Ok (kf_nz _ _) _))))) | first | (with_reducible refine s_pos ?_ ?_; (focus (show (_ : String) = _; exact rfl))) | (with_reducible refine s_neg ?_ ?_; (focus (show ¬ ((_ : String) = _); decide))) | (first | (with_reducible refine s_pos ?_ ?_; (focus first | (simp (disch := omega) only [bG, Option.bind_some, Nat.reduceMul, Nat.reduceAdd, Nat.reduceEqDiff, Nat.reduceSub, Nat.reduceDiv, Nat.reduceLeDiff, bQ, bU, *]; done) | (simp (disch := omega) only [bG, Option.bind_some, Nat.reduceMul, Nat.reduceAdd, Nat.reduceEqDiff, Nat.reduceSub, Nat.reduceDiv, Nat.reduceLeDiff, bQ, bU, *]; omega) | omega)) | (with_reducible refine s_neg ?_ ?_; (focus first | (simp (disch := omega) only [bG, Option.bind_some, Nat.reduceMul, Nat.reduceAdd, Nat.reduceEqDiff, Nat.reduceSub, Nat.reduceDiv, Nat.reduceLeDiff, bQ, bU, *]; done) | (simp (disch := omega) only [bG, Option.bind_some, Nat.reduceMul, Nat.reduceAdd, Nat.reduceEqDiff, Nat.reduceSub, Nat.reduceDiv, Nat.reduceLeDiff, bQ, bU, *]; omega) | omega))))
          exact nx
        · repeat (first | first | (with_reducible refine s_let ?_; intro x9 hx9; (try simp (disch := omega) only [bG, Option.bind_some, Nat.reduceMul, Nat.reduceAdd, Nat.reduceEqDiff, Nat.reduceSub, Nat.reduceDiv, Nat.reduceLeDiff, bQ, bU, *] at hx9); subst hx9) | (with_reducible refine s_R2 ?_ ?_; (focus (simp (disch := omega) only [bG, Option.bind_some, Nat.reduceMul, Nat.reduceAdd, Nat.reduceEqDiff, Nat.reduceSub, Nat.reduceDiv, Nat.reduceLeDiff, bQ, *, Option.isSome_some]; done)); (intro o9 ho9; simp (disch := omega) only [bG, Option.bind_some, Nat.reduceMul, Nat.reduceAdd, Nat.reduceEqDiff, Nat.reduceSub, Nat.reduceDiv, Nat.reduceLeDiff, bQ, *, Option.some.injEq] at ho9; subst ho9)) | (with_reducible refine s_in2 ?_ ?_; (focus first | (simp (disch := omega) only [bG, Option.bind_some, Nat.reduceMul, Nat.reduceAdd, Nat.reduceEqDiff, Nat.reduceSub, Nat.reduceDiv, Nat.reduceLeDiff, bQ, *, bK]; omega) | (simp (disch := omega) only [bG, Option.bind_some, Nat.reduceMul, Nat.reduceAdd, Nat.reduceEqDiff, Nat.reduceSub, Nat.reduceDiv, Nat.reduceLeDiff, bQ, *, bK, or_false, false_or, Nat.lt_irrefl, or_self, Nat.not_lt_zero]; done) | decide)) | (with_reducible refine s_nz ?_ ?_; (focus first | decide | assumption)) | (with_reducible refine s_nzl ?_ ?_; (focus decide)) | (with_reducible refine s_z ?_ ?_; (focus first | exact Or.inl rfl | exact Or.inr rfl | assumption)) | (with_reducible refine s_ji ?_) | first | (with_reducible refine s_h ?_) | (with_reducible refine s_t ?_) | (with_reducible apply s_chan; (focus first | with_reducible rfl | (simp (disch := omega) only [bG, Option.bind_some, Nat.reduceMul, Nat.reduceAdd, Nat.reduceEqDiff, Nat.reduceSub, Nat.reduceDiv, Nat.reduceLeDiff, bQ, bU, *]; with_reducible rfl)); (focus omega)) | (with_reducible refine Ok.c2' ?_; (first | (first | (with_reducible show Ok (kf_let _ _) _) | (with_reducible show Ok (kf_j _ _) _) | (with_reducible show Ok (if _ then _ else _) _) | (with_reducible refine Ok.some ?_; try dsimp only) | (with_reducible show Ok (Option.bind (gR _ _) _) _) | (with_reducible show Ok (kf_in _ _ _) _) | (with_reducible show Ok (kf_nz _ _) _)) | (with_reducible refine Ok.c2' ?_; (first | (with_reducible show Ok (kf_let _ _) _) | (with_reducible show Ok (kf_j _ _) _) | (with_reducible show Ok (if _ then _ else _) _) | (with_reducible refine Ok.some ?_; try dsimp only) | (with_reducible show Ok (Option.bind (gR _ _) _) _) | (with_reducible show Ok (kf_in _ _ _) _) | (with_reducible show Ok (kf_nz _ _) _))))) | (with_reducible refine Ok.bind' ?_; (first | (first | (with_reducible show Ok (kf_let _ _) _) | (with_reducible show Ok (kf_j _ _) _) | (with_reducible show Ok (if _ then _ else _) _) | (with_reducible refine Ok.some ?_; try dsimp only) | (with_reducible show Ok (Option.bind (gR _ _) _) _) | (with_reducible show Ok (kf_in _ _ _) _) | (with_reducible show Ok (kf_nz _ _) _)) | (with_reducible refine Ok.c2' ?_; (first | (with_reducible show Ok (kf_let _ _) _) | (with_reducible show Ok (kf_j _ _) _) | (with_reducible show Ok (if _ then _ else _) _) | (with_reducible refine Ok.some ?_; try dsimp only) | (with_reducible show Ok (Option.bind (gR _ _) _) _) | (with_reducible show Ok (kf_in _ _ _) _) | (with_reducible show Ok (kf_nz _ _) _))))) | first | (with_reducible refine s_pos ?_ ?_; (focus (show (_ : String) = _; exact rfl))) | (with_reducible refine s_neg ?_ ?_; (focus (show ¬ ((_ : String) = _); decide))) | (first | (with_reducible refine s_pos ?_ ?_; (focus first | (simp (disch := omega) only [bG, Option.bind_some, Nat.reduceMul, Nat.reduceAdd, Nat.reduceEqDiff, Nat.reduceSub, Nat.reduceDiv, Nat.reduceLeDiff, bQ, bU, *]; done) | (simp (disch := omega) only [bG, Option.bind_some, Nat.reduceMul, Nat.reduceAdd, Nat.reduceEqDiff, Nat.reduceSub, Nat.reduceDiv, Nat.reduceLeDiff, bQ, bU, *]; omega) | omega)) | (with_reducible refine s_neg ?_ ?_; (focus first | (simp (disch := omega) only [bG, Option.bind_some, Nat.reduceMul, Nat.reduceAdd, Nat.reduceEqDiff, Nat.reduceSub, Nat.reduceDiv, Nat.reduceLeDiff, bQ, bU, *]; done) | (simp (disch := omega) only [bG, Option.bind_some, Nat.reduceMul, Nat.reduceAdd, Nat.reduceEqDiff, Nat.reduceSub, Nat.reduceDiv, Nat.reduceLeDiff, bQ, bU, *]; omega) | omega))))
          exact nx
      · have hv : (w - pX q + sX q - 1) / sX q = pn w q := by unfold pn pts; rw [if_neg hw]
        have hv0 : 0 < pn w q := (ptsX_lt hq8).mpr (by omega)
        have hl0 : ln w h lc q = pts h (pY q) (sY q) := by rw [hl, if_neg (by omega)]
        have hm : pn w q * bits ≤ 64 * 64 := Nat.mul_le_mul hpn64 hb
        have hrb : (pn w q * bits + 7) / 8 = rb w bits q := rfl
        have nx : ∀ s', LayJ p w h lc bits σ q (ln w h lc q) s' → Ok (k9 (N (q + 1)) s') (fun σ' => LayC p w h lc bits σ' ∧ Fr (PLay p) (ALay p) σ σ') := fun s' h9 => ih (by omega) _ _ ⟨rfl, LayJ_next h9⟩
        clear hl ih hss
        have e17 : (N w - N (pX q) + N (sX q) - 1) / N (sX q) = N (pn w q) := by simp (disch := omega) only [bG, Option.bind_some, Nat.reduceMul, Nat.reduceAdd, Nat.reduceEqDiff, Nat.reduceSub, Nat.reduceDiv, Nat.reduceLeDiff, bQ, bU, *]
        repeat (first | first | (with_reducible refine s_let ?_; intro x9 hx9; (try simp (disch := omega) only [bG, Option.bind_some, Nat.reduceMul, Nat.reduceAdd, Nat.reduceEqDiff, Nat.reduceSub, Nat.reduceDiv, Nat.reduceLeDiff, bQ, bU, *] at hx9); subst hx9) | (with_reducible refine s_R2 ?_ ?_; (focus (simp (disch := omega) only [bG, Option.bind_some, Nat.reduceMul, Nat.reduceAdd, Nat.reduceEqDiff, Nat.reduceSub, Nat.reduceDiv, Nat.reduceLeDiff, bQ, *, Option.isSome_some]; done)); (intro o9 ho9; simp (disch := omega) only [bG, Option.bind_some, Nat.reduceMul, Nat.reduceAdd, Nat.reduceEqDiff, Nat.reduceSub, Nat.reduceDiv, Nat.reduceLeDiff, bQ, *, Option.some.injEq] at ho9; subst ho9)) | (with_reducible refine s_in2 ?_ ?_; (focus first | (simp (disch := omega) only [bG, Option.bind_some, Nat.reduceMul, Nat.reduceAdd, Nat.reduceEqDiff, Nat.reduceSub, Nat.reduceDiv, Nat.reduceLeDiff, bQ, *, bK]; omega) | (simp (disch := omega) only [bG, Option.bind_some, Nat.reduceMul, Nat.reduceAdd, Nat.reduceEqDiff, Nat.reduceSub, Nat.reduceDiv, Nat.reduceLeDiff, bQ, *, bK, or_false, false_or, Nat.lt_irrefl, or_self, Nat.not_lt_zero]; done) | decide)) | (with_reducible refine s_nz ?_ ?_; (focus first | decide | assumption)) | (with_reducible refine s_nzl ?_ ?_; (focus decide)) | (with_reducible refine s_z ?_ ?_; (focus first | exact Or.inl rfl | exact Or.inr rfl | assumption)) | (with_reducible refine s_ji ?_) | first | (with_reducible refine s_h ?_) | (with_reducible refine s_t ?_) | (with_reducible apply s_chan; (focus first | with_reducible rfl | (simp (disch := omega) only [bG, Option.bind_some, Nat.reduceMul, Nat.reduceAdd, Nat.reduceEqDiff, Nat.reduceSub, Nat.reduceDiv, Nat.reduceLeDiff, bQ, bU, *]; with_reducible rfl)); (focus omega)) | (with_reducible refine Ok.c2' ?_; (first | (first | (with_reducible show Ok (kf_let _ _) _) | (with_reducible show Ok (kf_j _ _) _) | (with_reducible show Ok (if _ then _ else _) _) | (with_reducible refine Ok.some ?_; try dsimp only) | (with_reducible show Ok (Option.bind (gR _ _) _) _) | (with_reducible show Ok (kf_in _ _ _) _) | (with_reducible show Ok (kf_nz _ _) _)) | (with_reducible refine Ok.c2' ?_; (first | (with_reducible show Ok (kf_let _ _) _) | (with_reducible show Ok (kf_j _ _) _) | (with_reducible show Ok (if _ then _ else _) _) | (with_reducible refine Ok.some ?_; try dsimp only) | (with_reducible show Ok (Option.bind (gR _ _) _) _) | (with_reducible show Ok (kf_in _ _ _) _) | (with_reducible show Ok (kf_nz _ _) _))))) | (with_reducible refine Ok.bind' ?_; (first | (first | (with_reducible show Ok (kf_let _ _) _) | (with_reducible show Ok (kf_j _ _) _) | (with_reducible show Ok (if _ then _ else _) _) | (with_reducible refine Ok.some ?_; try dsimp only) | (with_reducible show Ok (Option.bind (gR _ _) _) _) | (with_reducible show Ok (kf_in _ _ _) _) | (with_reducible show Ok (kf_nz _ _) _)) | (with_reducible refine Ok.c2' ?_; (first | (with_reducible show Ok (kf_let _ _) _) | (with_reducible show Ok (kf_j _ _) _) | (with_reducible show Ok (if _ then _ else _) _) | (with_reducible refine Ok.some ?_; try dsimp only) | (with_reducible show Ok (Option.bind (gR _ _) _) _) | (with_reducible show Ok (kf_in _ _ _) _) | (with_reducible show Ok (kf_nz _ _) _))))) | first | (with_reducible refine s_pos ?_ ?_; (focus (show (_ : String) = _; exact rfl))) | (with_reducible refine s_neg ?_ ?_; (focus (show ¬ ((_ : String) = _); decide))) | (first | (with_reducible refine s_pos ?_ ?_; (focus first | (simp (disch := omega) only [bG, Option.bind_some, Nat.reduceMul, Nat.reduceAdd, Nat.reduceEqDiff, Nat.reduceSub, Nat.reduceDiv, Nat.reduceLeDiff, bQ, bU, *]; done) | (simp (disch := omega) only [bG, Option.bind_some, Nat.reduceMul, Nat.reduceAdd, Nat.reduceEqDiff, Nat.reduceSub, Nat.reduceDiv, Nat.reduceLeDiff, bQ, bU, *]; omega) | omega)) | (with_reducible refine s_neg ?_ ?_; (focus first | (simp (disch := omega) only [bG, Option.bind_some, Nat.reduceMul, Nat.reduceAdd, Nat.reduceEqDiff, Nat.reduceSub, Nat.reduceDiv, Nat.reduceLeDiff, bQ, bU, *]; done) | (simp (disch := omega) only [bG, Option.bind_some, Nat.reduceMul, Nat.reduceAdd, Nat.reduceEqDiff, Nat.reduceSub, Nat.reduceDiv, Nat.reduceLeDiff, bQ, bU, *]; omega) | omega))))
        rw [e17]
        clear x1 x2 x3 hv hz e17
        refine ok_for 0 (ln w h lc q) (fun l x s' => x = N (pY q + l * sY q) ∧ LayJ p w h lc bits σ q l s') ?_ (by omega) (by omega) ⟨by rw [Nat.zero_mul, Nat.add_zero], hJ⟩
        clear hJ
        rintro l k8 x s' - hl1 ⟨rfl, hJ'⟩ ih2
        have hyb : l * sY q ≤ 64 * 8 := Nat.mul_le_mul (by omega) (by omega)
        have hlt := pts_lt (z := h) (l := l) hq8
        rw [← hl0] at hlt
        clear hl0
        by_cases hle : l = ln w h lc q
        · have hge : h ≤ pY q + l * sY q := by omega
          have nx2 := nx s' (by rw [← hle]; exact hJ')
          clear hlt hle hJ' nx ih2
          repeat (first | first | (with_reducible refine s_let ?_; intro x9 hx9; (try simp (disch := omega) only [bG, Option.bind_some, Nat.reduceMul, Nat.reduceAdd, Nat.reduceEqDiff, Nat.reduceSub, Nat.reduceDiv, Nat.reduceLeDiff, bQ, bU, *] at hx9); subst hx9) | (with_reducible refine s_R2 ?_ ?_; (focus (simp (disch := omega) only [bG, Option.bind_some, Nat.reduceMul, Nat.reduceAdd, Nat.reduceEqDiff, Nat.reduceSub, Nat.reduceDiv, Nat.reduceLeDiff, bQ, *, Option.isSome_some]; done)); (intro o9 ho9; simp (disch := omega) only [bG, Option.bind_some, Nat.reduceMul, Nat.reduceAdd, Nat.reduceEqDiff, Nat.reduceSub, Nat.reduceDiv, Nat.reduceLeDiff, bQ, *, Option.some.injEq] at ho9; subst ho9)) | (with_reducible refine s_in2 ?_ ?_; (focus first | (simp (disch := omega) only [bG, Option.bind_some, Nat.reduceMul, Nat.reduceAdd, Nat.reduceEqDiff, Nat.reduceSub, Nat.reduceDiv, Nat.reduceLeDiff, bQ, *, bK]; omega) | (simp (disch := omega) only [bG, Option.bind_some, Nat.reduceMul, Nat.reduceAdd, Nat.reduceEqDiff, Nat.reduceSub, Nat.reduceDiv, Nat.reduceLeDiff, bQ, *, bK, or_false, false_or, Nat.lt_irrefl, or_self, Nat.not_lt_zero]; done) | decide)) | (with_reducible refine s_nz ?_ ?_; (focus first | decide | assumption)) | (with_reducible refine s_nzl ?_ ?_; (focus decide)) | (with_reducible refine s_z ?_ ?_; (focus first | exact Or.inl rfl | exact Or.inr rfl | assumption)) | (with_reducible refine s_ji ?_) | first | (with_reducible refine s_h ?_) | (with_reducible refine s_t ?_) | (with_reducible apply s_chan; (focus first | with_reducible rfl | (simp (disch := omega) only [bG, Option.bind_some, Nat.reduceMul, Nat.reduceAdd, Nat.reduceEqDiff, Nat.reduceSub, Nat.reduceDiv, Nat.reduceLeDiff, bQ, bU, *]; with_reducible rfl)); (focus omega)) | (with_reducible refine Ok.c2' ?_; (first | (first | (with_reducible show Ok (kf_let _ _) _) | (with_reducible show Ok (kf_j _ _) _) | (with_reducible show Ok (if _ then _ else _) _) | (with_reducible refine Ok.some ?_; try dsimp only) | (with_reducible show Ok (Option.bind (gR _ _) _) _) | (with_reducible show Ok (kf_in _ _ _) _) | (with_reducible show Ok (kf_nz _ _) _)) | (with_reducible refine Ok.c2' ?_; (first | (with_reducible show Ok (kf_let _ _) _) | (with_reducible show Ok (kf_j _ _) _) | (with_reducible show Ok (if _ then _ else _) _) | (with_reducible refine Ok.some ?_; try dsimp only) | (with_reducible show Ok (Option.bind (gR _ _) _) _) | (with_reducible show Ok (kf_in _ _ _) _) | (with_reducible show Ok (kf_nz _ _) _))))) | (with_reducible refine Ok.bind' ?_; (first | (first | (with_reducible show Ok (kf_let _ _) _) | (with_reducible show Ok (kf_j _ _) _) | (with_reducible show Ok (if _ then _ else _) _) | (with_reducible refine Ok.some ?_; try dsimp only) | (with_reducible show Ok (Option.bind (gR _ _) _) _) | (with_reducible show Ok (kf_in _ _ _) _) | (with_reducible show Ok (kf_nz _ _) _)) | (with_reducible refine Ok.c2' ?_; (first | (with_reducible show Ok (kf_let _ _) _) | (with_reducible show Ok (kf_j _ _) _) | (with_reducible show Ok (if _ then _ else _) _) | (with_reducible refine Ok.some ?_; try dsimp only) | (with_reducible show Ok (Option.bind (gR _ _) _) _) | (with_reducible show Ok (kf_in _ _ _) _) | (with_reducible show Ok (kf_nz _ _) _))))) | first | (with_reducible refine s_pos ?_ ?_; (focus (show (_ : String) = _; exact rfl))) | (with_reducible refine s_neg ?_ ?_; (focus (show ¬ ((_ : String) = _); decide))) | (first | (with_reducible refine s_pos ?_ ?_; (focus first | (simp (disch := omega) only [bG, Option.bind_some, Nat.reduceMul, Nat.reduceAdd, Nat.reduceEqDiff, Nat.reduceSub, Nat.reduceDiv, Nat.reduceLeDiff, bQ, bU, *]; done) | (simp (disch := omega) only [bG, Option.bind_some, Nat.reduceMul, Nat.reduceAdd, Nat.reduceEqDiff, Nat.reduceSub, Nat.reduceDiv, Nat.reduceLeDiff, bQ, bU, *]; omega) | omega)) | (with_reducible refine s_neg ?_ ?_; (focus first | (simp (disch := omega) only [bG, Option.bind_some, Nat.reduceMul, Nat.reduceAdd, Nat.reduceEqDiff, Nat.reduceSub, Nat.reduceDiv, Nat.reduceLeDiff, bQ, bU, *]; done) | (simp (disch := omega) only [bG, Option.bind_some, Nat.reduceMul, Nat.reduceAdd, Nat.reduceEqDiff, Nat.reduceSub, Nat.reduceDiv, Nat.reduceLeDiff, bQ, bU, *]; omega) | omega))))
          exact nx2
        · obtain ⟨f1', c0', c1', c2', hR'⟩ := id hJ'
          have hps' := hp.fr' f1' (PLay_C h38)
          have hss' := hs.fr f1' (fun a ha => by unfold ALay at ha; omega)
          have x3' := hss'.y hq8
          have x4' := hss'.down hq8
          have p11 := hps'.lay_up h38
          have p10 := hps'.lay_length h38
          have k11 := kdp_11 h38
          have k10 := kdp_10 h38
          have hlt2 : l < ln w h lc q := by omega
          have hyl : pY q + l * sY q < h := by omega
          have hbin := bs_in hlt2 hq8
          have hrow := LayJ_row hJ' hq8 hlt2
          have hrt := ro_lt (bits := bits) hq8 hlt2
          have hnx : N (pY q + l * sY q + sY q) = N (pY q + (l + 1) * sY q) := congrArg N (by rw [Nat.add_mul, Nat.one_mul, Nat.add_assoc])
          have nx3 : ∀ s2, LayJ p w h lc bits σ q (l + 1) s2 → Ok (k8 (N (pY q + l * sY q + sY q)) s2) (fun σ' => LayC p w h lc bits σ' ∧ Fr (PLay p) (ALay p) σ σ') := fun s2 h9 => ih2 hlt2 _ _ ⟨hnx, h9⟩
          have hib : bs w h lc q + l < 120 := by omega
          have hal : ∀ e5, e5 = N (rb w bits q) → _ := fun e5 he => Layout_addRow_eq (n := n) (a := pX q) (b := pY q + l * sY q) (c := sX q) (d := pn w q) (e5 := e5) he hps' h38 c0' c1' hib
          clear hlt hle hJ' nx ih2 hnx hR' c2' f1' hss' hps' hB8 hT8
          generalize bs w h lc q + l = ix at *
          generalize ro w h lc bits q l = rr at *
          by_cases hl00 : l = 0
          · have hls : l * sY q = 0 := by rw [hl00, Nat.zero_mul]
            rw [if_pos hl00] at hrow
            clear hl00
            rw [hls] at hrow nx3 hal
            simp only [hls]
            clear hls
            repeat (first | first | (with_reducible refine s_let ?_; intro x9 hx9; (try simp (disch := omega) only [bG, Option.bind_some, Nat.reduceMul, Nat.reduceAdd, Nat.reduceEqDiff, Nat.reduceSub, Nat.reduceDiv, Nat.reduceLeDiff, bQ, bU, *] at hx9); subst hx9) | (with_reducible refine s_R2 ?_ ?_; (focus (simp (disch := omega) only [bG, Option.bind_some, Nat.reduceMul, Nat.reduceAdd, Nat.reduceEqDiff, Nat.reduceSub, Nat.reduceDiv, Nat.reduceLeDiff, bQ, *, Option.isSome_some]; done)); (intro o9 ho9; simp (disch := omega) only [bG, Option.bind_some, Nat.reduceMul, Nat.reduceAdd, Nat.reduceEqDiff, Nat.reduceSub, Nat.reduceDiv, Nat.reduceLeDiff, bQ, *, Option.some.injEq] at ho9; subst ho9)) | (with_reducible refine s_in2 ?_ ?_; (focus first | (simp (disch := omega) only [bG, Option.bind_some, Nat.reduceMul, Nat.reduceAdd, Nat.reduceEqDiff, Nat.reduceSub, Nat.reduceDiv, Nat.reduceLeDiff, bQ, *, bK]; omega) | (simp (disch := omega) only [bG, Option.bind_some, Nat.reduceMul, Nat.reduceAdd, Nat.reduceEqDiff, Nat.reduceSub, Nat.reduceDiv, Nat.reduceLeDiff, bQ, *, bK, or_false, false_or, Nat.lt_irrefl, or_self, Nat.not_lt_zero]; done) | decide)) | (with_reducible refine s_nz ?_ ?_; (focus first | decide | assumption)) | (with_reducible refine s_nzl ?_ ?_; (focus decide)) | (with_reducible refine s_z ?_ ?_; (focus first | exact Or.inl rfl | exact Or.inr rfl | assumption)) | (with_reducible refine s_ji ?_) | first | (with_reducible refine s_h ?_) | (with_reducible refine s_t ?_) | (with_reducible apply s_chan; (focus first | with_reducible rfl | (simp (disch := omega) only [bG, Option.bind_some, Nat.reduceMul, Nat.reduceAdd, Nat.reduceEqDiff, Nat.reduceSub, Nat.reduceDiv, Nat.reduceLeDiff, bQ, bU, *]; with_reducible rfl)); (focus omega)) | (with_reducible refine Ok.c2' ?_; (first | (first | (with_reducible show Ok (kf_let _ _) _) | (with_reducible show Ok (kf_j _ _) _) | (with_reducible show Ok (if _ then _ else _) _) | (with_reducible refine Ok.some ?_; try dsimp only) | (with_reducible show Ok (Option.bind (gR _ _) _) _) | (with_reducible show Ok (kf_in _ _ _) _) | (with_reducible show Ok (kf_nz _ _) _)) | (with_reducible refine Ok.c2' ?_; (first | (with_reducible show Ok (kf_let _ _) _) | (with_reducible show Ok (kf_j _ _) _) | (with_reducible show Ok (if _ then _ else _) _) | (with_reducible refine Ok.some ?_; try dsimp only) | (with_reducible show Ok (Option.bind (gR _ _) _) _) | (with_reducible show Ok (kf_in _ _ _) _) | (with_reducible show Ok (kf_nz _ _) _))))) | (with_reducible refine Ok.bind' ?_; (first | (first | (with_reducible show Ok (kf_let _ _) _) | (with_reducible show Ok (kf_j _ _) _) | (with_reducible show Ok (if _ then _ else _) _) | (with_reducible refine Ok.some ?_; try dsimp only) | (with_reducible show Ok (Option.bind (gR _ _) _) _) | (with_reducible show Ok (kf_in _ _ _) _) | (with_reducible show Ok (kf_nz _ _) _)) | (with_reducible refine Ok.c2' ?_; (first | (with_reducible show Ok (kf_let _ _) _) | (with_reducible show Ok (kf_j _ _) _) | (with_reducible show Ok (if _ then _ else _) _) | (with_reducible refine Ok.some ?_; try dsimp only) | (with_reducible show Ok (Option.bind (gR _ _) _) _) | (with_reducible show Ok (kf_in _ _ _) _) | (with_reducible show Ok (kf_nz _ _) _))))) | first | (with_reducible refine s_pos ?_ ?_; (focus (show (_ : String) = _; exact rfl))) | (with_reducible refine s_neg ?_ ?_; (focus (show ¬ ((_ : String) = _); decide))) | (first | (with_reducible refine s_pos ?_ ?_; (focus first | (simp (disch := omega) only [bG, Option.bind_some, Nat.reduceMul, Nat.reduceAdd, Nat.reduceEqDiff, Nat.reduceSub, Nat.reduceDiv, Nat.reduceLeDiff, bQ, bU, *]; done) | (simp (disch := omega) only [bG, Option.bind_some, Nat.reduceMul, Nat.reduceAdd, Nat.reduceEqDiff, Nat.reduceSub, Nat.reduceDiv, Nat.reduceLeDiff, bQ, bU, *]; omega) | omega)) | (with_reducible refine s_neg ?_ ?_; (focus first | (simp (disch := omega) only [bG, Option.bind_some, Nat.reduceMul, Nat.reduceAdd, Nat.reduceEqDiff, Nat.reduceSub, Nat.reduceDiv, Nat.reduceLeDiff, bQ, bU, *]; done) | (simp (disch := omega) only [bG, Option.bind_some, Nat.reduceMul, Nat.reduceAdd, Nat.reduceEqDiff, Nat.reduceSub, Nat.reduceDiv, Nat.reduceLeDiff, bQ, bU, *]; omega) | omega))))
            refine s_b (hal _ ?_) ?_
            · first | (simp (disch := omega) only [bG, Option.bind_some, Nat.reduceMul, Nat.reduceAdd, Nat.reduceEqDiff, Nat.reduceSub, Nat.reduceDiv, Nat.reduceLeDiff, bQ, bU, *]; done) | (simp (disch := omega) only [bG, Option.bind_some, Nat.reduceMul, Nat.reduceAdd, Nat.reduceEqDiff, Nat.reduceSub, Nat.reduceDiv, Nat.reduceLeDiff, bQ, bU, *]; rfl) | rfl
            clear hal
            repeat (first | first | (with_reducible refine s_let ?_; intro x9 hx9; (try simp (disch := omega) only [bG, Option.bind_some, Nat.reduceMul, Nat.reduceAdd, Nat.reduceEqDiff, Nat.reduceSub, Nat.reduceDiv, Nat.reduceLeDiff, bQ, bU, *] at hx9); subst hx9) | (with_reducible refine s_R2 ?_ ?_; (focus (simp (disch := omega) only [bG, Option.bind_some, Nat.reduceMul, Nat.reduceAdd, Nat.reduceEqDiff, Nat.reduceSub, Nat.reduceDiv, Nat.reduceLeDiff, bQ, *, Option.isSome_some]; done)); (intro o9 ho9; simp (disch := omega) only [bG, Option.bind_some, Nat.reduceMul, Nat.reduceAdd, Nat.reduceEqDiff, Nat.reduceSub, Nat.reduceDiv, Nat.reduceLeDiff, bQ, *, Option.some.injEq] at ho9; subst ho9)) | (with_reducible refine s_in2 ?_ ?_; (focus first | (simp (disch := omega) only [bG, Option.bind_some, Nat.reduceMul, Nat.reduceAdd, Nat.reduceEqDiff, Nat.reduceSub, Nat.reduceDiv, Nat.reduceLeDiff, bQ, *, bK]; omega) | (simp (disch := omega) only [bG, Option.bind_some, Nat.reduceMul, Nat.reduceAdd, Nat.reduceEqDiff, Nat.reduceSub, Nat.reduceDiv, Nat.reduceLeDiff, bQ, *, bK, or_false, false_or, Nat.lt_irrefl, or_self, Nat.not_lt_zero]; done) | decide)) | (with_reducible refine s_nz ?_ ?_; (focus first | decide | assumption)) | (with_reducible refine s_nzl ?_ ?_; (focus decide)) | (with_reducible refine s_z ?_ ?_; (focus first | exact Or.inl rfl | exact Or.inr rfl | assumption)) | (with_reducible refine s_ji ?_) | first | (with_reducible refine s_h ?_) | (with_reducible refine s_t ?_) | (with_reducible apply s_chan; (focus first | with_reducible rfl | (simp (disch := omega) only [bG, Option.bind_some, Nat.reduceMul, Nat.reduceAdd, Nat.reduceEqDiff, Nat.reduceSub, Nat.reduceDiv, Nat.reduceLeDiff, bQ, bU, *]; with_reducible rfl)); (focus omega)) | (with_reducible refine Ok.c2' ?_; (first | (first | (with_reducible show Ok (kf_let _ _) _) | (with_reducible show Ok (kf_j _ _) _) | (with_reducible show Ok (if _ then _ else _) _) | (with_reducible refine Ok.some ?_; try dsimp only) | (with_reducible show Ok (Option.bind (gR _ _) _) _) | (with_reducible show Ok (kf_in _ _ _) _) | (with_reducible show Ok (kf_nz _ _) _)) | (with_reducible refine Ok.c2' ?_; (first | (with_reducible show Ok (kf_let _ _) _) | (with_reducible show Ok (kf_j _ _) _) | (with_reducible show Ok (if _ then _ else _) _) | (with_reducible refine Ok.some ?_; try dsimp only) | (with_reducible show Ok (Option.bind (gR _ _) _) _) | (with_reducible show Ok (kf_in _ _ _) _) | (with_reducible show Ok (kf_nz _ _) _))))) | (with_reducible refine Ok.bind' ?_; (first | (first | (with_reducible show Ok (kf_let _ _) _) | (with_reducible show Ok (kf_j _ _) _) | (with_reducible show Ok (if _ then _ else _) _) | (with_reducible refine Ok.some ?_; try dsimp only) | (with_reducible show Ok (Option.bind (gR _ _) _) _) | (with_reducible show Ok (kf_in _ _ _) _) | (with_reducible show Ok (kf_nz _ _) _)) | (with_reducible refine Ok.c2' ?_; (first | (with_reducible show Ok (kf_let _ _) _) | (with_reducible show Ok (kf_j _ _) _) | (with_reducible show Ok (if _ then _ else _) _) | (with_reducible refine Ok.some ?_; try dsimp only) | (with_reducible show Ok (Option.bind (gR _ _) _) _) | (with_reducible show Ok (kf_in _ _ _) _) | (with_reducible show Ok (kf_nz _ _) _))))) | first | (with_reducible refine s_pos ?_ ?_; (focus (show (_ : String) = _; exact rfl))) | (with_reducible refine s_neg ?_ ?_; (focus (show ¬ ((_ : String) = _); decide))) | (first | (with_reducible refine s_pos ?_ ?_; (focus first | (simp (disch := omega) only [bG, Option.bind_some, Nat.reduceMul, Nat.reduceAdd, Nat.reduceEqDiff, Nat.reduceSub, Nat.reduceDiv, Nat.reduceLeDiff, bQ, bU, *]; done) | (simp (disch := omega) only [bG, Option.bind_some, Nat.reduceMul, Nat.reduceAdd, Nat.reduceEqDiff, Nat.reduceSub, Nat.reduceDiv, Nat.reduceLeDiff, bQ, bU, *]; omega) | omega)) | (with_reducible refine s_neg ?_ ?_; (focus first | (simp (disch := omega) only [bG, Option.bind_some, Nat.reduceMul, Nat.reduceAdd, Nat.reduceEqDiff, Nat.reduceSub, Nat.reduceDiv, Nat.reduceLeDiff, bQ, bU, *]; done) | (simp (disch := omega) only [bG, Option.bind_some, Nat.reduceMul, Nat.reduceAdd, Nat.reduceEqDiff, Nat.reduceSub, Nat.reduceDiv, Nat.reduceLeDiff, bQ, bU, *]; omega) | omega))))
            exact nx3 _ hrow
          · have hls : 1 ≤ l * sY q := Nat.mul_pos (by omega) (by omega)
            rw [if_neg hl00] at hrow
            repeat (first | first | (with_reducible refine s_let ?_; intro x9 hx9; (try simp (disch := omega) only [bG, Option.bind_some, Nat.reduceMul, Nat.reduceAdd, Nat.reduceEqDiff, Nat.reduceSub, Nat.reduceDiv, Nat.reduceLeDiff, bQ, bU, *] at hx9); subst hx9) | (with_reducible refine s_R2 ?_ ?_; (focus (simp (disch := omega) only [bG, Option.bind_some, Nat.reduceMul, Nat.reduceAdd, Nat.reduceEqDiff, Nat.reduceSub, Nat.reduceDiv, Nat.reduceLeDiff, bQ, *, Option.isSome_some]; done)); (intro o9 ho9; simp (disch := omega) only [bG, Option.bind_some, Nat.reduceMul, Nat.reduceAdd, Nat.reduceEqDiff, Nat.reduceSub, Nat.reduceDiv, Nat.reduceLeDiff, bQ, *, Option.some.injEq] at ho9; subst ho9)) | (with_reducible refine s_in2 ?_ ?_; (focus first | (simp (disch := omega) only [bG, Option.bind_some, Nat.reduceMul, Nat.reduceAdd, Nat.reduceEqDiff, Nat.reduceSub, Nat.reduceDiv, Nat.reduceLeDiff, bQ, *, bK]; omega) | (simp (disch := omega) only [bG, Option.bind_some, Nat.reduceMul, Nat.reduceAdd, Nat.reduceEqDiff, Nat.reduceSub, Nat.reduceDiv, Nat.reduceLeDiff, bQ, *, bK, or_false, false_or, Nat.lt_irrefl, or_self, Nat.not_lt_zero]; done) | decide)) | (with_reducible refine s_nz ?_ ?_; (focus first | decide | assumption)) | (with_reducible refine s_nzl ?_ ?_; (focus decide)) | (with_reducible refine s_z ?_ ?_; (focus first | exact Or.inl rfl | exact Or.inr rfl | assumption)) | (with_reducible refine s_ji ?_) | first | (with_reducible refine s_h ?_) | (with_reducible refine s_t ?_) | (with_reducible apply s_chan; (focus first | with_reducible rfl | (simp (disch := omega) only [bG, Option.bind_some, Nat.reduceMul, Nat.reduceAdd, Nat.reduceEqDiff, Nat.reduceSub, Nat.reduceDiv, Nat.reduceLeDiff, bQ, bU, *]; with_reducible rfl)); (focus omega)) | (with_reducible refine Ok.c2' ?_; (first | (first | (with_reducible show Ok (kf_let _ _) _) | (with_reducible show Ok (kf_j _ _) _) | (with_reducible show Ok (if _ then _ else _) _) | (with_reducible refine Ok.some ?_; try dsimp only) | (with_reducible show Ok (Option.bind (gR _ _) _) _) | (with_reducible show Ok (kf_in _ _ _) _) | (with_reducible show Ok (kf_nz _ _) _)) | (with_reducible refine Ok.c2' ?_; (first | (with_reducible show Ok (kf_let _ _) _) | (with_reducible show Ok (kf_j _ _) _) | (with_reducible show Ok (if _ then _ else _) _) | (with_reducible refine Ok.some ?_; try dsimp only) | (with_reducible show Ok (Option.bind (gR _ _) _) _) | (with_reducible show Ok (kf_in _ _ _) _) | (with_reducible show Ok (kf_nz _ _) _))))) | (with_reducible refine Ok.bind' ?_; (first | (first | (with_reducible show Ok (kf_let _ _) _) | (with_reducible show Ok (kf_j _ _) _) | (with_reducible show Ok (if _ then _ else _) _) | (with_reducible refine Ok.some ?_; try dsimp only) | (with_reducible show Ok (Option.bind (gR _ _) _) _) | (with_reducible show Ok (kf_in _ _ _) _) | (with_reducible show Ok (kf_nz _ _) _)) | (with_reducible refine Ok.c2' ?_; (first | (with_reducible show Ok (kf_let _ _) _) | (with_reducible show Ok (kf_j _ _) _) | (with_reducible show Ok (if _ then _ else _) _) | (with_reducible refine Ok.some ?_; try dsimp only) | (with_reducible show Ok (Option.bind (gR _ _) _) _) | (with_reducible show Ok (kf_in _ _ _) _) | (with_reducible show Ok (kf_nz _ _) _))))) | first | (with_reducible refine s_pos ?_ ?_; (focus (show (_ : String) = _; exact rfl))) | (with_reducible refine s_neg ?_ ?_; (focus (show ¬ ((_ : String) = _); decide))) | (first | (with_reducible refine s_pos ?_ ?_; (focus first | (simp (disch := omega) only [bG, Option.bind_some, Nat.reduceMul, Nat.reduceAdd, Nat.reduceEqDiff, Nat.reduceSub, Nat.reduceDiv, Nat.reduceLeDiff, bQ, bU, *]; done) | (simp (disch := omega) only [bG, Option.bind_some, Nat.reduceMul, Nat.reduceAdd, Nat.reduceEqDiff, Nat.reduceSub, Nat.reduceDiv, Nat.reduceLeDiff, bQ, bU, *]; omega) | omega)) | (with_reducible refine s_neg ?_ ?_; (focus first | (simp (disch := omega) only [bG, Option.bind_some, Nat.reduceMul, Nat.reduceAdd, Nat.reduceEqDiff, Nat.reduceSub, Nat.reduceDiv, Nat.reduceLeDiff, bQ, bU, *]; done) | (simp (disch := omega) only [bG, Option.bind_some, Nat.reduceMul, Nat.reduceAdd, Nat.reduceEqDiff, Nat.reduceSub, Nat.reduceDiv, Nat.reduceLeDiff, bQ, bU, *]; omega) | omega))))
            refine s_b (hal _ ?_) ?_
            · first | (simp (disch := omega) only [bG, Option.bind_some, Nat.reduceMul, Nat.reduceAdd, Nat.reduceEqDiff, Nat.reduceSub, Nat.reduceDiv, Nat.reduceLeDiff, bQ, bU, *]; done) | (simp (disch := omega) only [bG, Option.bind_some, Nat.reduceMul, Nat.reduceAdd, Nat.reduceEqDiff, Nat.reduceSub, Nat.reduceDiv, Nat.reduceLeDiff, bQ, bU, *]; rfl) | rfl
            clear hal
            repeat (first | first | (with_reducible refine s_let ?_; intro x9 hx9; (try simp (disch := omega) only [bG, Option.bind_some, Nat.reduceMul, Nat.reduceAdd, Nat.reduceEqDiff, Nat.reduceSub, Nat.reduceDiv, Nat.reduceLeDiff, bQ, bU, *] at hx9); subst hx9) | (with_reducible refine s_R2 ?_ ?_; (focus (simp (disch := omega) only [bG, Option.bind_some, Nat.reduceMul, Nat.reduceAdd, Nat.reduceEqDiff, Nat.reduceSub, Nat.reduceDiv, Nat.reduceLeDiff, bQ, *, Option.isSome_some]; done)); (intro o9 ho9; simp (disch := omega) only [bG, Option.bind_some, Nat.reduceMul, Nat.reduceAdd, Nat.reduceEqDiff, Nat.reduceSub, Nat.reduceDiv, Nat.reduceLeDiff, bQ, *, Option.some.injEq] at ho9; subst ho9)) | (with_reducible refine s_in2 ?_ ?_; (focus first | (simp (disch := omega) only [bG, Option.bind_some, Nat.reduceMul, Nat.reduceAdd, Nat.reduceEqDiff, Nat.reduceSub, Nat.reduceDiv, Nat.reduceLeDiff, bQ, *, bK]; omega) | (simp (disch := omega) only [bG, Option.bind_some, Nat.reduceMul, Nat.reduceAdd, Nat.reduceEqDiff, Nat.reduceSub, Nat.reduceDiv, Nat.reduceLeDiff, bQ, *, bK, or_false, false_or, Nat.lt_irrefl, or_self, Nat.not_lt_zero]; done) | decide)) | (with_reducible refine s_nz ?_ ?_; (focus first | decide | assumption)) | (with_reducible refine s_nzl ?_ ?_; (focus decide)) | (with_reducible refine s_z ?_ ?_; (focus first | exact Or.inl rfl | exact Or.inr rfl | assumption)) | (with_reducible refine s_ji ?_) | first | (with_reducible refine s_h ?_) | (with_reducible refine s_t ?_) | (with_reducible apply s_chan; (focus first | with_reducible rfl | (simp (disch := omega) only [bG, Option.bind_some, Nat.reduceMul, Nat.reduceAdd, Nat.reduceEqDiff, Nat.reduceSub, Nat.reduceDiv, Nat.reduceLeDiff, bQ, bU, *]; with_reducible rfl)); (focus omega)) | (with_reducible refine Ok.c2' ?_; (first | (first | (with_reducible show Ok (kf_let _ _) _) | (with_reducible show Ok (kf_j _ _) _) | (with_reducible show Ok (if _ then _ else _) _) | (with_reducible refine Ok.some ?_; try dsimp only) | (with_reducible show Ok (Option.bind (gR _ _) _) _) | (with_reducible show Ok (kf_in _ _ _) _) | (with_reducible show Ok (kf_nz _ _) _)) | (with_reducible refine Ok.c2' ?_; (first | (with_reducible show Ok (kf_let _ _) _) | (with_reducible show Ok (kf_j _ _) _) | (with_reducible show Ok (if _ then _ else _) _) | (with_reducible refine Ok.some ?_; try dsimp only) | (with_reducible show Ok (Option.bind (gR _ _) _) _) | (with_reducible show Ok (kf_in _ _ _) _) | (with_reducible show Ok (kf_nz _ _) _))))) | (with_reducible refine Ok.bind' ?_; (first | (first | (with_reducible show Ok (kf_let _ _) _) | (with_reducible show Ok (kf_j _ _) _) | (with_reducible show Ok (if _ then _ else _) _) | (with_reducible refine Ok.some ?_; try dsimp only) | (with_reducible show Ok (Option.bind (gR _ _) _) _) | (with_reducible show Ok (kf_in _ _ _) _) | (with_reducible show Ok (kf_nz _ _) _)) | (with_reducible refine Ok.c2' ?_; (first | (with_reducible show Ok (kf_let _ _) _) | (with_reducible show Ok (kf_j _ _) _) | (with_reducible show Ok (if _ then _ else _) _) | (with_reducible refine Ok.some ?_; try dsimp only) | (with_reducible show Ok (Option.bind (gR _ _) _) _) | (with_reducible show Ok (kf_in _ _ _) _) | (with_reducible show Ok (kf_nz _ _) _))))) | first | (with_reducible refine s_pos ?_ ?_; (focus (show (_ : String) = _; exact rfl))) | (with_reducible refine s_neg ?_ ?_; (focus (show ¬ ((_ : String) = _); decide))) | (first | (with_reducible refine s_pos ?_ ?_; (focus first | (simp (disch := omega) only [bG, Option.bind_some, Nat.reduceMul, Nat.reduceAdd, Nat.reduceEqDiff, Nat.reduceSub, Nat.reduceDiv, Nat.reduceLeDiff, bQ, bU, *]; done) | (simp (disch := omega) only [bG, Option.bind_some, Nat.reduceMul, Nat.reduceAdd, Nat.reduceEqDiff, Nat.reduceSub, Nat.reduceDiv, Nat.reduceLeDiff, bQ, bU, *]; omega) | omega)) | (with_reducible refine s_neg ?_ ?_; (focus first | (simp (disch := omega) only [bG, Option.bind_some, Nat.reduceMul, Nat.reduceAdd, Nat.reduceEqDiff, Nat.reduceSub, Nat.reduceDiv, Nat.reduceLeDiff, bQ, bU, *]; done) | (simp (disch := omega) only [bG, Option.bind_some, Nat.reduceMul, Nat.reduceAdd, Nat.reduceEqDiff, Nat.reduceSub, Nat.reduceDiv, Nat.reduceLeDiff, bQ, bU, *]; omega) | omega))))
            exact nx3 _ hrow
  · refine ⟨?_, ?_, ?_, ?_, ?_⟩
    · exact Fr.wS (Fr.wS (Fr.wS Fr.rfl (Or.inl rfl) _) (Or.inr (Or.inl rfl)) _) (Or.inr (Or.inr rfl)) _
    · rw [bs_lo hpb lo (Nat.le_refl _)]; first | (simp (disch := omega) only [bG, Option.bind_some, Nat.reduceMul, Nat.reduceAdd, Nat.reduceEqDiff, Nat.reduceSub, Nat.reduceDiv, Nat.reduceLeDiff, bQ, bU, *]; done) | (simp (disch := omega) only [bG, Option.bind_some, Nat.reduceMul, Nat.reduceAdd, Nat.reduceEqDiff, Nat.reduceSub, Nat.reduceDiv, Nat.reduceLeDiff, bQ, bU, *]; rfl) | rfl
    · rw [ro_0, bt_lo hpb lo (Nat.le_refl _)]; first | (simp (disch := omega) only [bG, Option.bind_some, Nat.reduceMul, Nat.reduceAdd, Nat.reduceEqDiff, Nat.reduceSub, Nat.reduceDiv, Nat.reduceLeDiff, bQ, bU, *]; done) | (simp (disch := omega) only [bG, Option.bind_some, Nat.reduceMul, Nat.reduceAdd, Nat.reduceEqDiff, Nat.reduceSub, Nat.reduceDiv, Nat.reduceLeDiff, bQ, bU, *]; rfl) | rfl
    · first | (simp (disch := omega) only [bG, Option.bind_some, Nat.reduceMul, Nat.reduceAdd, Nat.reduceEqDiff, Nat.reduceSub, Nat.reduceDiv, Nat.reduceLeDiff, bQ, bU, *]; done) | (simp (disch := omega) only [bG, Option.bind_some, Nat.reduceMul, Nat.reduceAdd, Nat.reduceEqDiff, Nat.reduceSub, Nat.reduceDiv, Nat.reduceLeDiff, bQ, bU, *]; rfl) | rfl
    · intro q' l' h1 h2 h3
      rw [ln_out hpb (by omega)] at h2
      exact absurd h2 (Nat.not_lt_zero _)
