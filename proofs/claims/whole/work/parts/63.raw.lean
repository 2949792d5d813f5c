/-! THE RAW BYTES IN ONE LINE -/
theorem byte_ex {w h lc bits i : Nat} : ∀ {q : Nat}, i < bt w h lc bits q → ∃ q' l, q' < q ∧ l < ln w h lc q' ∧ ∃ r, r < 1 + rb w bits q' ∧ i = ro w h lc bits q' l + r := by
  intro q
  induction q with
  | zero => intro hi; exact absurd hi (Nat.not_lt_zero _)
  | succ q ih =>
    intro hi
    by_cases hq : i < bt w h lc bits q
    · obtain ⟨q', l, a, b⟩ := ih hq
      exact ⟨q', l, by omega, b⟩
    · have e : bt w h lc bits (q + 1) = bt w h lc bits q + ln w h lc q * (1 + rb w bits q) := rfl
      rw [e] at hi
      have hpos : 0 < 1 + rb w bits q := by omega
      refine ⟨q, (i - bt w h lc bits q) / (1 + rb w bits q), by omega, ?_, (i - bt w h lc bits q) % (1 + rb w bits q), Nat.mod_lt _ hpos, ?_⟩
      · apply Nat.div_lt_of_lt_mul
        rw [Nat.mul_comm]
        omega
      · unfold ro
        have := Nat.div_add_mod (i - bt w h lc bits q) (1 + rb w bits q)
        rw [Nat.mul_comm] at this
        omega
/-- the bytes that are packed -/
def RawR (sm : Nat → Nat) (w h kd dp lc : Nat) (R : Nat → Nat) : Prop := (∀ i, R i < 256) ∧ ∀ q l, q < 8 → l < ln w h lc q → R (ro w h lc (ch kd * dp) q l) = fil sm w kd dp q l ∧ ∀ i, i < rb w (ch kd * dp) q → R (ro w h lc (ch kd * dp) q l + 1 + i) = wrB sm w kd dp q l i
theorem wrB_lt {sm : Nat → Nat} {w kd dp q l i : Nat} : wrB sm w kd dp q l i < 256 := dif_lt _ _
theorem RawC_R {sm : Nat → Nat} {w h kd dp lc : Nat} {s : Mm} (h0 : RawC sm w h kd dp lc (bs w h lc 8) s) : ∃ R, RawR sm w h kd dp lc R ∧ ∀ i, i < bt w h lc (ch kd * dp) 8 → gB s 7 i = N (R i) := by
  have key : ∀ v, v < 256 → (N v).toNatClampNeg % 256 = v := fun v hv => by rw [N_nat (by omega), Nat.mod_eq_of_lt hv]
  refine ⟨fun i => (gB s 7 i).toNatClampNeg % 256, ⟨fun i => Nat.mod_lt _ (by decide), fun q l hq hl => ?_⟩, fun i hi => ?_⟩
  · obtain ⟨a, b⟩ := h0 q l hq hl (bs_in hl hq)
    have hf := fil_lt (sm := sm) (w := w) (kd := kd) (dp := dp) (q := q) (l := l)
    refine ⟨by dsimp only; rw [a]; exact key _ (by omega), fun i hi => by dsimp only; rw [(b i hi).1]; exact key _ wrB_lt⟩
  · obtain ⟨q, l, hq, hl, r, hr, rfl⟩ := byte_ex hi
    obtain ⟨a, b⟩ := h0 q l hq hl (bs_in hl hq)
    have hf := fil_lt (sm := sm) (w := w) (kd := kd) (dp := dp) (q := q) (l := l)
    cases r with
    | zero =>
      dsimp only
      rw [Nat.add_zero, a, key _ (by omega)]
    | succ r =>
      have := (b r (by omega)).1
      rw [Nat.add_assoc, Nat.add_comm 1 r] at this
      dsimp only
      rw [this, key _ wrB_lt]
theorem RawF_R {sm : Nat → Nat} {w h kd dp lc : Nat} {R : Nat → Nat} {s : Mm} (hR : RawR sm w h kd dp lc R) (h0 : RawF sm w h kd dp lc 0 s) : ∀ i, i < bt w h lc (ch kd * dp) 8 → gB s 73 i &&& N 255 = N (R i) := by
  intro i hi
  obtain ⟨q, l, hq, hl, r, hr, rfl⟩ := byte_ex hi
  obtain ⟨a, b⟩ := h0 q l hq hl
  obtain ⟨c, d⟩ := hR.2 q l hq hl
  cases r with
  | zero => rw [Nat.add_zero, a (Nat.zero_le _), c]
  | succ r =>
    have h1 := b r (by omega)
    have h2 := d r (by omega)
    rw [if_pos (Nat.zero_le _)] at h1
    rw [Nat.add_assoc, Nat.add_comm 1 r] at h1 h2
    rw [h1, h2]
/-! THE WHOLE FILE -/
def z0S : (Nat → Nat) × Nat := (fun _ => 0, 0)
def mrk : (Nat → Nat) × Nat := adn (adn z0S 2303741511) 218765834
def flT (w h kd dp lc cc tc : Nat) (co th : Nat → Nat) : (Nat → Nat) × Nat := thnS (colS (hdr mrk w h kd dp lc) cc co) kd tc th
def flP (S : (Nat → Nat) × Nat) (R : Nat → Nat) (tot a : Nat) : (Nat → Nat) × Nat := if a = 0 then pln (ad (ad (bg S 1229209940) 120) 1) R tot else srt (ad (ad (bg S 1229209940) 120) 1) R tot
def flD (S : (Nat → Nat) × Nat) (R : Nat → Nat) (tot a : Nat) : (Nat → Nat) × Nat := cl (adn (flP S R tot a) (sumA R tot)) S.2
def flE (S : (Nat → Nat) × Nat) : (Nat → Nat) × Nat := cl (bg S 1229278788) S.2
theorem flT_2 {w h kd dp lc cc tc : Nat} {co th : Nat → Nat} (hc : cc ≤ 256) (ht : tc ≤ 256) : (flT w h kd dp lc cc tc co th).2 ≤ 1337 := by
  unfold flT
  have a := thnS_2 (S := colS (hdr mrk w h kd dp lc) cc co) (kd := kd) (tc := tc) (th := th)
  have b := colS_2 (S := hdr mrk w h kd dp lc) (cc := cc) (co := co)
  have c : (hdr mrk w h kd dp lc).2 = 33 := rfl
  omega
theorem flP_2 {S : (Nat → Nat) × Nat} {R : Nat → Nat} {tot a : Nat} (h : S.2 ≤ 1337) (ht : tot ≤ 32888) : (flP S R tot a).2 ≤ 60000 := by
  unfold flP
  have e : (ad (ad (bg S 1229209940) 120) 1).2 = S.2 + 10 := rfl
  split
  · rw [pln_2, e]; omega
  · have := srt_2 (S := ad (ad (bg S 1229209940) 120) 1) (R := R) (tot := tot)
    rw [e] at this
    omega
theorem flP_b {S : (Nat → Nat) × Nat} {R : Nat → Nat} {tot a : Nat} (h : Sb S) (hR : ∀ i, R i < 256) : Sb (flP S R tot a) := by
  unfold flP
  have : Sb (ad (ad (bg S 1229209940) 120) 1) := ad_b (ad_b (bg_b h) (by decide)) (by decide)
  split
  · exact pln_b this hR
  · exact srt_b this
theorem pbs_lo {B : ((Nat → Nat) × Nat) × Nat × Nat} {f : Nat → Nat} {k : Nat} : B.1.2 ≤ (pbs B f k).1.2 := by
  induction k with
  | zero => exact Nat.le_refl _
  | succ k ih =>
    show _ ≤ (pb (pbs B f k) (f k)).1.2
    unfold pb
    split
    · show _ ≤ (pbs B f k).1.2 + 1
      omega
    · exact ih
theorem nmB_lo {B : ((Nat → Nat) × Nat) × Nat × Nat} {v m : Nat} : B.1.2 ≤ (nmB B v m).1.2 := pbs_lo
theorem cdB_lo {B : ((Nat → Nat) × Nat) × Nat × Nat} {v m : Nat} : B.1.2 ≤ (cdB B v m).1.2 := pbs_lo
theorem sg_lo {B : ((Nat → Nat) × Nat) × Nat × Nat} {s : Nat} : B.1.2 ≤ (sg B s).1.2 := cdB_lo
theorem cpB_lo {B : ((Nat → Nat) × Nat) × Nat × Nat} {l d : Nat} : B.1.2 ≤ (cpB B l d).1.2 := Nat.le_trans sg_lo (Nat.le_trans nmB_lo (Nat.le_trans cdB_lo nmB_lo))
theorem shR_lo {R : Nat → Nat} {tot : Nat} : ∀ f p (B : ((Nat → Nat) × Nat) × Nat × Nat), B.1.2 ≤ (shR R tot f p B).1.2 := by
  intro f
  induction f with
  | zero => intro p B; exact Nat.le_refl _
  | succ f ih =>
    intro p B
    unfold shR
    split
    · exact Nat.le_refl _
    · split
      · exact Nat.le_trans cpB_lo (ih _ _)
      · exact Nat.le_trans sg_lo (ih _ _)
theorem srB_lo {S : (Nat → Nat) × Nat} {R : Nat → Nat} {tot : Nat} : S.2 ≤ (srB S R tot).1.2 := by
  unfold srB
  have b := shR_lo (R := R) (tot := tot) tot 0 (nmB (S, 0, 0) 3 3)
  have a := nmB_lo (B := (S, 0, 0)) (v := 3) (m := 3)
  generalize nmB (S, 0, 0) 3 3 = B1 at a b ⊢
  exact Nat.le_trans a b
theorem srt_lo {S : (Nat → Nat) × Nat} {R : Nat → Nat} {tot : Nat} : S.2 ≤ (srt S R tot).2 := by
  unfold srt pd
  have a := srB_lo (S := S) (R := R) (tot := tot)
  generalize srB S R tot = B1 at a ⊢
  have c := sg_lo (B := B1) (s := 256)
  generalize sg B1 256 = B2 at c ⊢
  have d := nmB_lo (B := B2) (v := 0) (m := (8 - B2.2.2) % 8)
  exact Nat.le_trans a (Nat.le_trans c d)
theorem flP_lo {S : (Nat → Nat) × Nat} {R : Nat → Nat} {tot a : Nat} : S.2 + 8 ≤ (flP S R tot a).2 + 4 := by
  unfold flP
  have e : (ad (ad (bg S 1229209940) 120) 1).2 = S.2 + 10 := rfl
  generalize ad (ad (bg S 1229209940) 120) 1 = S1 at *
  split
  · rw [pln_2, e]; omega
  · have := srt_lo (S := S1) (R := R) (tot := tot)
    omega
theorem flT_b {w h kd dp lc cc tc : Nat} {co th : Nat → Nat} (hd : dp < 256) (hk : kd < 256) (hl : lc < 256) (hco : ∀ i, co i < 256) : Sb (flT w h kd dp lc cc tc co th) := thnS_b (colS_b (hdr_b (adn_b (adn_b (fun _ => (by decide : 0 < 256)))) hd hk hl) hco)
theorem pts_pos {z a b : Nat} (h : a < z) (hb : 0 < b) : 0 < pts z a b := by
  unfold pts
  rw [if_neg (by omega)]
  exact Nat.div_pos (by omega) hb
theorem bt_pos {w h lc bits : Nat} (hh : Hd w h lc) : 1 ≤ bt w h lc bits 8 := by
  obtain ⟨w1, w2, h1, h2, l2⟩ := hh
  have key : ∀ q, q < 8 → 0 < ln w h lc q → 1 ≤ bt w h lc bits 8 := fun q hq hl => by
    have := ro_lt (bits := bits) hq hl
    omega
  rcases (show lc = 0 ∨ lc = 1 by omega) with rfl | rfl
  · apply key 7 (by decide)
    unfold ln
    rw [if_pos (Or.inl ⟨rfl, rfl⟩)]
    have : 0 < pn w 7 := pts_pos (by show 0 < w; omega) (by decide)
    rw [if_neg (by omega)]
    exact pts_pos (by show 0 < h; omega) (by decide)
  · apply key 0 (by decide)
    unfold ln
    rw [if_pos (Or.inr ⟨rfl, by decide⟩)]
    have : 0 < pn w 0 := pts_pos (by show 0 < w; omega) (by decide)
    rw [if_neg (by omega)]
    exact pts_pos (by show 0 < h; omega) (by decide)
