/-! A CODE'S MEANING -/
def cv (T wh : Nat → Nat) (p : Nat) : Nat → Nat
  | 0 => 0
  | i + 1 => 2 * cv T wh p i + bi T wh (p + i)
theorem cv_lt {T wh : Nat → Nat} {p : Nat} (i : Nat) : cv T wh p i < 2 ^ i := by
  induction i with
  | zero => exact (by decide : 0 < 2 ^ 0)
  | succ i ih =>
    have h := bi_lt (T := T) (wh := wh) (i := p + i)
    show 2 * cv T wh p i + _ < _
    rw [Nat.pow_succ]
    omega
theorem nb1 {T wh : Nat → Nat} {p : Nat} : nb' T wh p 1 = bi T wh p := by
  show 0 ||| (bi T wh (p + 0) <<< 0) = _
  rw [Nat.zero_or, Nat.shiftLeft_zero, Nat.add_zero]
theorem N_dbl {c b : Nat} (hb : b < 2) : N c <<< (N 1 &&& N 31) ||| N b = N (2 * c + b) := by
  rw [N_shl (by decide), N_or, ← Nat.shiftLeft_add_eq_or_of_lt (i := 1) hb, Nat.shiftLeft_eq, Nat.mul_comm]
def DA (T wh ls : Nat → Nat) (cnt m pos i : Nat) : Prop := 1 ≤ i ∧ i ≤ lng ls cnt 15 ∧ (∀ j, 1 ≤ j → j < i → Gk ls cnt j ≤ cv T wh pos j) ∧ cv T wh pos i < Gk ls cnt i ∧ pos + i ≤ 8 * m
def DB (T wh ls : Nat → Nat) (cnt m pos : Nat) : Prop := (∀ j, 1 ≤ j → j ≤ lng ls cnt 15 → Gk ls cnt j ≤ cv T wh pos j) ∧ pos + lng ls cnt 15 ≤ 8 * m
def DC (T wh ls : Nat → Nat) (cnt m pos i : Nat) : Prop := 1 ≤ i ∧ i ≤ lng ls cnt 15 ∧ (∀ j, 1 ≤ j → j < i → Gk ls cnt j ≤ cv T wh pos j) ∧ 8 * m < pos + i
def DV (T wh ls : Nat → Nat) (cnt pos i v : Nat) : Prop := v < cnt ∧ ls v = i ∧ cn ls i v = cv T wh pos i - 2 * Gk ls cnt (i - 1)
theorem DV_inj {ls : Nat → Nat} {v w : Nat} (h1 : ls v = ls w) (h2 : cn ls (ls v) v = cn ls (ls v) w) : v = w := by
  rcases Nat.lt_trichotomy v w with h | h | h
  · have := cn_lt (ls := ls) h
    omega
  · exact h
  · have := cn_lt (ls := ls) h
    rw [← h1] at this
    omega
theorem DA_DA {T wh ls : Nat → Nat} {cnt m pos i j : Nat} (h1 : DA T wh ls cnt m pos i) (h2 : DA T wh ls cnt m pos j) : i = j := by
  obtain ⟨a1, a2, a3, a4, a5⟩ := h1
  obtain ⟨b1, b2, b3, b4, b5⟩ := h2
  rcases Nat.lt_trichotomy i j with h | h | h
  · have := b3 i a1 h; omega
  · exact h
  · have := a3 j b1 h; omega
theorem DA_DB {T wh ls : Nat → Nat} {cnt m pos i : Nat} (h1 : DA T wh ls cnt m pos i) (h2 : DB T wh ls cnt m pos) : False := by
  have := h2.1 i h1.1 h1.2.1
  have := h1.2.2.2.1
  omega
theorem DA_DC {T wh ls : Nat → Nat} {cnt m pos i j : Nat} (h1 : DA T wh ls cnt m pos i) (h2 : DC T wh ls cnt m pos j) : False := by
  obtain ⟨a1, a2, a3, a4, a5⟩ := h1
  obtain ⟨b1, b2, b3, b4⟩ := h2
  by_cases h : i < j
  · have := b3 i a1 h; omega
  · omega
theorem DB_DC {T wh ls : Nat → Nat} {cnt m pos j : Nat} (h1 : DB T wh ls cnt m pos) (h2 : DC T wh ls cnt m pos j) : False := by
  obtain ⟨b1, b2, b3, b4⟩ := h2
  have := h1.2
  omega
theorem code_ptr {c : Nat} {s : Mm} (hc : isK c) (h : PtC s) : gR s (64 * c + 0) = some (c + 1) ∧ gR s (64 * c + 1) = some (c + 2) ∧ gR s (64 * c + 2) = some (c + 3) := by
  rcases hc with rfl | rfl | rfl | rfl | rfl
  · exact ⟨h (832, 14) (by decide), h (833, 15) (by decide), h (834, 16) (by decide)⟩
  · exact ⟨h (1088, 18) (by decide), h (1089, 19) (by decide), h (1090, 20) (by decide)⟩
  · exact ⟨h (1344, 22) (by decide), h (1345, 23) (by decide), h (1346, 24) (by decide)⟩
  · exact ⟨h (1600, 26) (by decide), h (1601, 27) (by decide), h (1602, 28) (by decide)⟩
  · exact ⟨h (1856, 30) (by decide), h (1857, 31) (by decide), h (1858, 32) (by decide)⟩
theorem Gk_b {ls : Nat → Nat} {cnt : Nat} (hc : cnt ≤ 320) : ∀ l, l ≤ 15 → Gk ls cnt l ≤ 320 * (2 ^ l - 1) ∧ 320 * (2 ^ l - 1) ≤ 320 * 32767 := by
  intro l hl
  have h9 : (2 : Nat) ^ l ≤ 2 ^ 15 := Nat.pow_le_pow_right (by decide) hl
  refine ⟨?_, by omega⟩
  clear h9
  induction l with
  | zero => exact Nat.zero_le _
  | succ l ih =>
    have h1 := ih (by omega)
    have h2 := cn_le (ls := ls) (L := l + 1) (k := cnt)
    have h3 : 1 ≤ 2 ^ l := Nat.pow_pos (by decide)
    show 2 * Gk ls cnt l + cn ls (l + 1) cnt ≤ _
    rw [Nat.pow_succ]
    omega
theorem CodC.frI {c : Nat} {ls : Nat → Nat} {cnt q : Nat} {lp la : List Nat} {s s' : Mm} (h : CodC c ls cnt s) (f : FI lp la q s s') (h3 : ¬ (64 * c + 3) ∈ lp) (h4 : ¬ (64 * c + 4) ∈ lp) (h1 : ¬ (c + 1) ∈ la) (h2 : ¬ (c + 2) ∈ la) : CodC c ls cnt s' := by
  obtain ⟨a1, a2, a3, a4, a5⟩ := h
  have F := f.2.2
  exact ⟨by rw [F.B h1]; exact a1, fun L u v => by rw [F.B h1]; exact a2 L u v, fun k u v => by rw [F.B h2]; exact a3 k u v, (F.S h3).trans a4, (F.S h4).trans a5⟩
set_option maxHeartbeats 2000000 in
theorem C_mean {n q c len m ck pos cnt : Nat} {T wh ls : Nat → Nat} {s : Mm} (hn : 1000 < n) (hc : isK c) (h : UC q T len m wh ck pos s) (hcod : CodC c ls cnt s) (hcnt : cnt ≤ 288) : Ok (F_PackedBits_meaning n 9 c s) (fun r => (∃ i v, DA T wh ls cnt m pos i ∧ DV T wh ls cnt pos i v ∧ r.1 = N v ∧ UC q T len m wh ck (pos + i) r.2 ∧ FI [320, 321, 581] [] q s r.2) ∨ (DB T wh ls cnt m pos ∧ r.1 = -1 ∧ FC 25 (plc m wh ck pos) r.2 ∧ FI [320, 321, 581] [] q s r.2) ∨ (∃ i, DC T wh ls cnt m pos i ∧ r.1 = -1 ∧ FC 20 ck r.2 ∧ FI [320, 321, 581] [] q s r.2)) := by
  have hcb := isK_le hc
  have hlg := lng_le (ls := ls) (n := cnt) 15
  obtain ⟨⟨⟨hX, h7⟩, hT, hm, hw, hct, hk9, hwh⟩, hp, hpm, hf⟩ := id h
  have kd1 := kdc_1 hc
  have kd2 := kdc_2 hc
  unfold F_PackedBits_meaning
  refine s_let (fun x9 hx9 => ?_)
  rw [hp] at hx9
  subst hx9
  refine ok_for 1 (lng ls cnt 15 + 1) (fun i x s' => x = (N (cv T wh pos (i - 1)), N (Gk ls cnt (i - 1)), N (offL ls cnt i), N i) ∧ (∀ j, 1 ≤ j → j < i → Gk ls cnt j ≤ cv T wh pos j) ∧ UC q T len m wh ck (pos + (i - 1)) s' ∧ FI [320, 321, 581] [] q s s') ?_ (by omega) (by omega) ⟨rfl, fun j h1 h2 => by omega, h, ⟨hX, h7, Fr.rfl⟩⟩
  rintro i k9 x s' hi1 hi2 ⟨rfl, hJ, hU, f⟩ ih
  have hcod' := hcod.frI f (by simp; omega) (by simp; omega) (by simp) (by simp)
  have hXs := f.1
  obtain ⟨i', rfl⟩ : ∃ i', i = i' + 1 := ⟨i - 1, by omega⟩
  rw [Nat.add_sub_cancel] at hU
  by_cases hlong : lng ls cnt 15 < i' + 1
  · refine s_pos (by rw [hcod'.2.2.2.2, N_lt (by omega) (by omega)]; exact hlong) ?_
    refine s_R hXs.1.Packed_fault ?_
    refine s_c (C_plc (i := pos) rfl hU.1 (by omega)) ?_
    refine ((C_ref (c := 25) rfl rfl).and (fr_Fault_refuse_5 (q := q) hU.1.1)).c2 ?_
    rintro r s2 ⟨⟨-, h2⟩, f2⟩
    have he : i' = lng ls cnt 15 := by omega
    subst he
    refine Ok.some (Or.inr (Or.inl ⟨⟨fun j h1 h2 => hJ j h1 (by omega), hU.2.2.1⟩, rfl, h2, f2.1, f2.2.1, f.2.2.trans (f2.2.2.mono (by decide) (by decide))⟩))
  · refine s_neg (by rw [hcod'.2.2.2.2, N_lt (by omega) (by omega)]; exact hlong) ?_
    refine (C_num (k := 1) rfl (by omega) hU (by decide)).c2 ?_
    rintro r s2 ⟨h2, f2⟩
    dsimp only at h2 f2 ⊢
    have F2 : FI [320, 321, 581] [] q s s2 := ⟨f2.1, f2.2.1, f.2.2.trans f2.2.2⟩
    by_cases hb : pos + i' + 1 ≤ 8 * m
    · rw [if_pos hb] at h2
      obtain ⟨rfl, hU2⟩ := h2
      rw [nb1]
      have hbl := bi_lt (T := T) (wh := wh) (i := pos + i')
      have hcvl := cv_lt (T := T) (wh := wh) (p := pos) (i' + 1)
      have hcvl' := cv_lt (T := T) (wh := wh) (p := pos) i'
      have h15 : (2 : Nat) ^ (i' + 1) ≤ 2 ^ 15 := Nat.pow_le_pow_right (by decide) (by omega)
      have hGb := Gk_b (ls := ls) (cnt := cnt) (by omega) i' (by omega)
      have hcn := cn_le (ls := ls) (L := i' + 1) (k := cnt)
      have hGc : Gk ls cnt i' ≤ cv T wh pos i' := by
        cases i' with
        | zero => exact Nat.le_refl _
        | succ k => exact hJ (k + 1) (by omega) (by omega)
      have ecv : cv T wh pos (i' + 1) = 2 * cv T wh pos i' + bi T wh (pos + i') := rfl
      have eG : Gk ls cnt (i' + 1) = 2 * Gk ls cnt i' + cn ls (i' + 1) cnt := rfl
      have hoff := off_sum (ls := ls) (n := cnt) (i' + 1)
      refine s_neg (by intro z; exact absurd z (N_ne (a := bi T wh (pos + i')) (b := 4294967295) (by omega) (by decide) (by omega))) ?_
      refine s_let (fun x9 hx9 => ?_)
      rw [show (1 : Int32) = N 1 from rfl, show (31 : Int32) = N 31 from rfl, Nat.add_sub_cancel, N_dbl hbl, ← ecv] at hx9
      subst hx9
      refine s_let (fun x9 hx9 => ?_)
      rw [show (1 : Int32) = N 1 from rfl, show (31 : Int32) = N 31 from rfl, Nat.add_sub_cancel, N_shl (by decide), Nat.shiftLeft_eq, show Gk ls cnt i' * 2 ^ 1 = 2 * Gk ls cnt i' by omega] at hx9
      subst hx9
      have hcod2 := hcod.frI F2 (by simp; omega) (by simp; omega) (by simp) (by simp)
      obtain ⟨p1, p2, p3⟩ := code_ptr hc F2.1.1
      refine s_R p1 ?_
      refine s_in rfl (by rw [kd1]; omega) (by omega) ?_
      refine s_let (fun x9 hx9 => ?_)
      rw [N_nat (by omega), hcod2.2.1 _ (by omega) (by omega)] at hx9
      subst hx9
      rw [N_sub (by omega)]
      by_cases hmat : cn ls (i' + 1) cnt ≤ cv T wh pos (i' + 1) - 2 * Gk ls cnt i'
      · refine s_pos ((N_le (by omega) (by omega)).mpr hmat) ?_
        refine s_let (fun x9 hx9 => ?_)
        rw [N_add, ← eG] at hx9
        subst hx9
        refine s_let (fun x9 hx9 => ?_)
        rw [N_add, ← offL_s (by omega)] at hx9
        subst hx9
        refine s_let (fun x9 hx9 => ?_)
        rw [N_one, N_add] at hx9
        subst hx9
        refine ih (by omega) _ _ ⟨rfl, fun j h1 h2 => ?_, hU2, F2⟩
        by_cases hj : j = i' + 1
        · subst hj; omega
        · exact hJ j h1 (by omega)
      · refine s_neg (by rw [N_le (by omega) (by omega)]; exact hmat) ?_
        obtain ⟨v, v1, v2, v3⟩ := cn_ex (ls := ls) (L := i' + 1) cnt (cv T wh pos (i' + 1) - 2 * Gk ls cnt i') (by omega)
        have hpl := posL_lt (ls := ls) v1 (by omega)
        have epl : posL ls cnt v = offL ls cnt (i' + 1) + (cv T wh pos (i' + 1) - 2 * Gk ls cnt i') := by unfold posL; rw [v2, v3]
        refine s_R p2 ?_
        refine s_let (fun x9 hx9 => ?_)
        rw [N_add, N_sub (by omega), show offL ls cnt (i' + 1) + cv T wh pos (i' + 1) - 2 * Gk ls cnt i' = posL ls cnt v by omega] at hx9
        subst hx9
        refine s_in rfl (by rw [kd2]; omega) (by omega) ?_
        refine Ok.some (Or.inl ⟨i' + 1, v, ⟨by omega, by omega, hJ, by omega, hb⟩, ⟨v1, v2, ?_⟩, ?_, hU2, F2⟩)
        · rw [v3, Nat.add_sub_cancel]
        · rw [N_nat (by omega)]; exact hcod2.2.2.1 v v1 (by omega)
    · rw [if_neg hb] at h2
      refine s_pos h2.1 (Ok.some (Or.inr (Or.inr ⟨i' + 1, ⟨by omega, by omega, hJ, by omega⟩, rfl, h2.2, F2⟩)))
