/-! BITS OF ROWS -/
def gby (f : Nat → Bool) : Nat := (f 0).toNat * 128 + (f 1).toNat * 64 + (f 2).toNat * 32 + (f 3).toNat * 16 + (f 4).toNat * 8 + (f 5).toNat * 4 + (f 6).toNat * 2 + (f 7).toNat
theorem gby_8 : ∀ b0 b1 b2 b3 b4 b5 b6 b7 : Bool, ∀ j, j < 8 → (b0.toNat * 128 + b1.toNat * 64 + b2.toNat * 32 + b3.toNat * 16 + b4.toNat * 8 + b5.toNat * 4 + b6.toNat * 2 + b7.toNat).testBit (7 - j) = (if j = 0 then b0 else if j = 1 then b1 else if j = 2 then b2 else if j = 3 then b3 else if j = 4 then b4 else if j = 5 then b5 else if j = 6 then b6 else b7) := by decide
theorem gby_lt (f : Nat → Bool) : gby f < 256 := by
  unfold gby
  have h : ∀ b : Bool, b.toNat ≤ 1 := by decide
  have := h (f 0); have := h (f 1); have := h (f 2); have := h (f 3); have := h (f 4); have := h (f 5); have := h (f 6); have := h (f 7)
  omega
theorem gby_bit (f : Nat → Bool) {j : Nat} (hj : j < 8) : (gby f).testBit (7 - j) = f j := by
  unfold gby
  rw [gby_8 _ _ _ _ _ _ _ _ j hj]
  rcases (show j = 0 ∨ j = 1 ∨ j = 2 ∨ j = 3 ∨ j = 4 ∨ j = 5 ∨ j = 6 ∨ j = 7 by omega) with rfl | rfl | rfl | rfl | rfl | rfl | rfl | rfl <;> rfl
theorem byte_ext {a b : Nat} (ha : a < 256) (hb : b < 256) (h : ∀ j, j < 8 → a.testBit (7 - j) = b.testBit (7 - j)) : a = b := by
  apply Nat.eq_of_testBit_eq
  intro i
  by_cases hi : i < 8
  · have := h (7 - i) (by omega)
    rw [show 7 - (7 - i) = i by omega] at this
    exact this
  · rw [Nat.testBit_lt_two_pow (Nat.lt_of_lt_of_le ha (Nat.pow_le_pow_right (n := 2) (i := 8) (by decide) (by omega))), Nat.testBit_lt_two_pow (Nat.lt_of_lt_of_le hb (Nat.pow_le_pow_right (n := 2) (i := 8) (by decide) (by omega)))]
/-- bit k of samples of dp bits -/
def sbit (v : Nat → Nat) (dp k : Nat) : Bool := (v (k / dp)).testBit (dp - 1 - k % dp)
/-- byte i of the first nb bits -/
def sby (v : Nat → Nat) (dp nb i : Nat) : Nat := gby (fun j => decide (8 * i + j < nb) && sbit v dp (8 * i + j))
theorem sby_lt {v : Nat → Nat} {dp nb i : Nat} : sby v dp nb i < 256 := gby_lt _
theorem sby_bit {v : Nat → Nat} {dp nb i j : Nat} (hj : j < 8) : (sby v dp nb i).testBit (7 - j) = (decide (8 * i + j < nb) && sbit v dp (8 * i + j)) := gby_bit _ hj
theorem sby_0 {v : Nat → Nat} {dp i : Nat} : sby v dp 0 i = 0 := by
  apply byte_ext sby_lt (by decide)
  intro j hj
  rw [sby_bit hj, Nat.zero_testBit]
  simp
/-- one bit more, as the reference puts it -/
theorem sby_put {v : Nat → Nat} {dp nb i : Nat} (hi : i = nb / 8) : sby v dp (nb + 1) i = sby v dp nb i ||| ((sbit v dp nb).toNat <<< (7 - nb % 8)) := by
  subst hi
  have hb : (sbit v dp nb).toNat <<< (7 - nb % 8) < 2 ^ 8 := by
    have h1 : (sbit v dp nb).toNat ≤ 1 := by cases sbit v dp nb <;> decide
    have h2 : (sbit v dp nb).toNat <<< (7 - nb % 8) ≤ 1 <<< (7 - nb % 8) := by
      rw [Nat.shiftLeft_eq, Nat.shiftLeft_eq]; exact Nat.mul_le_mul_right _ h1
    rw [Nat.one_shiftLeft] at h2
    have h3 : 2 ^ (7 - nb % 8) ≤ 2 ^ 7 := Nat.pow_le_pow_right (by decide) (by omega)
    omega
  apply byte_ext sby_lt (Nat.or_lt_two_pow (n := 8) sby_lt hb)
  intro j hj
  rw [Nat.testBit_or, sby_bit hj, sby_bit hj, Nat.testBit_shiftLeft]
  by_cases h1 : j = nb % 8
  · have h2 : 8 * (nb / 8) + j = nb := by omega
    have h3 : 7 - j - (7 - nb % 8) = 0 := by omega
    rw [h2, h3]
    simp [show 7 - nb % 8 ≤ 7 - j by omega]
    cases sbit v dp nb <;> decide
  · by_cases h2 : j < nb % 8
    · have h4 : (sbit v dp nb).toNat.testBit (7 - j - (7 - nb % 8)) = false := by
        apply Nat.testBit_lt_two_pow
        have h1 : (sbit v dp nb).toNat ≤ 1 := by cases sbit v dp nb <;> decide
        have h5 : 2 ^ 1 ≤ 2 ^ (7 - j - (7 - nb % 8)) := Nat.pow_le_pow_right (by decide) (by omega)
        omega
      rw [h4]
      simp [show 8 * (nb / 8) + j < nb by omega, show 8 * (nb / 8) + j < nb + 1 by omega]
    · simp [show ¬ 8 * (nb / 8) + j < nb by omega, show ¬ 8 * (nb / 8) + j < nb + 1 by omega, show ¬ (7 - nb % 8 ≤ 7 - j) by omega]
theorem sby_other {v : Nat → Nat} {dp nb i : Nat} (hi : i ≠ nb / 8) : sby v dp (nb + 1) i = sby v dp nb i := by
  apply byte_ext sby_lt sby_lt
  intro j hj
  rw [sby_bit hj, sby_bit hj]
  by_cases h : 8 * i + j < nb
  · simp [h, show 8 * i + j < nb + 1 by omega]
  · simp [h, show ¬ 8 * i + j < nb + 1 by omega]
/-- one sample more, as the class puts it -/
theorem sby_smp {v : Nat → Nat} {dp m i : Nat} (hd : dp = 1 ∨ dp = 2 ∨ dp = 4 ∨ dp = 8) (hv : v m < 2 ^ dp) (hi : i = m * dp / 8) : sby v dp ((m + 1) * dp) i = sby v dp (m * dp) i ||| (v m <<< (8 - dp - m * dp % 8)) := by
  have hr : m * dp % 8 + dp ≤ 8 ∧ 8 * i + m * dp % 8 = m * dp ∧ (m + 1) * dp = m * dp + dp ∧ 1 ≤ dp := by
    rcases hd with rfl | rfl | rfl | rfl <;> omega
  obtain ⟨r1, r2, r3, r4⟩ := hr
  generalize hrr : m * dp % 8 = r at *
  have hb : v m <<< (8 - dp - r) < 2 ^ 8 := by
    rw [Nat.shiftLeft_eq]
    have h1 : v m * 2 ^ (8 - dp - r) < 2 ^ dp * 2 ^ (8 - dp - r) := Nat.mul_lt_mul_of_pos_right hv (Nat.pow_pos (by decide))
    rw [← Nat.pow_add] at h1
    have h2 : 2 ^ (dp + (8 - dp - r)) ≤ 2 ^ 8 := Nat.pow_le_pow_right (by decide) (by omega)
    omega
  apply byte_ext sby_lt (Nat.or_lt_two_pow (n := 8) sby_lt hb)
  intro j hj
  rw [Nat.testBit_or, sby_bit hj, sby_bit hj, Nat.testBit_shiftLeft]
  by_cases h1 : j < r
  · have h4 : (v m).testBit (7 - j - (8 - dp - r)) = false := by
      apply Nat.testBit_lt_two_pow
      exact Nat.lt_of_lt_of_le hv (Nat.pow_le_pow_right (by decide) (by omega))
    rw [h4]
    simp [show 8 * i + j < m * dp by omega, show 8 * i + j < (m + 1) * dp by omega]
  · by_cases h2 : j < r + dp
    · have e1 : (8 * i + j) / dp = m := by
        rw [show 8 * i + j = (j - r) + m * dp by omega, Nat.add_mul_div_right _ _ (by omega), Nat.div_eq_of_lt (by omega), Nat.zero_add]
      have e2 : (8 * i + j) % dp = j - r := by
        rw [show 8 * i + j = (j - r) + m * dp by omega, Nat.add_mul_mod_self_right, Nat.mod_eq_of_lt (by omega)]
      unfold sbit
      rw [e1, e2, show 7 - j - (8 - dp - r) = dp - 1 - (j - r) by omega]
      simp [show ¬ 8 * i + j < m * dp by omega, show 8 * i + j < (m + 1) * dp by omega, show 8 - dp - r ≤ 7 - j by omega]
    · simp [show ¬ 8 * i + j < m * dp by omega, show ¬ 8 * i + j < (m + 1) * dp by omega, show ¬ (8 - dp - r ≤ 7 - j) by omega]
theorem sby_smp_other {v : Nat → Nat} {dp m i : Nat} (hd : dp = 1 ∨ dp = 2 ∨ dp = 4 ∨ dp = 8) (hi : i ≠ m * dp / 8) : sby v dp ((m + 1) * dp) i = sby v dp (m * dp) i := by
  apply byte_ext sby_lt sby_lt
  intro j hj
  rw [sby_bit hj, sby_bit hj]
  by_cases h : 8 * i + j < m * dp
  · have : 8 * i + j < (m + 1) * dp := by rw [Nat.add_mul]; omega
    simp [h, this]
  · have : ¬ 8 * i + j < (m + 1) * dp := by
      rcases hd with rfl | rfl | rfl | rfl <;> omega
    simp [h, this]
theorem sby_16a {v : Nat → Nat} {m : Nat} (hv : v m < 65536) : sby v 16 ((m + 1) * 16) (2 * m) = v m >>> 8 := by
  apply byte_ext sby_lt (by rw [Nat.shiftRight_eq_div_pow]; omega)
  intro j hj
  rw [sby_bit hj, Nat.testBit_shiftRight]
  unfold sbit
  rw [show (8 * (2 * m) + j) / 16 = m by omega, show 16 - 1 - (8 * (2 * m) + j) % 16 = 8 + (7 - j) by omega]
  simp [show 8 * (2 * m) + j < (m + 1) * 16 by omega]
theorem sby_16b {v : Nat → Nat} {m : Nat} : sby v 16 ((m + 1) * 16) (2 * m + 1) = v m % 256 := by
  apply byte_ext sby_lt (Nat.mod_lt _ (by decide))
  intro j hj
  rw [sby_bit hj, show (256 : Nat) = 2 ^ 8 from rfl, Nat.testBit_mod_two_pow]
  unfold sbit
  rw [show (8 * (2 * m + 1) + j) / 16 = m by omega, show 16 - 1 - (8 * (2 * m + 1) + j) % 16 = 7 - j by omega]
  simp [show 8 * (2 * m + 1) + j < (m + 1) * 16 by omega, show 7 - j < 8 by omega]
theorem sby_16o {v : Nat → Nat} {m i : Nat} (h1 : i ≠ 2 * m) (h2 : i ≠ 2 * m + 1) : sby v 16 ((m + 1) * 16) i = sby v 16 (m * 16) i := by
  apply byte_ext sby_lt sby_lt
  intro j hj
  rw [sby_bit hj, sby_bit hj]
  by_cases h : 8 * i + j < m * 16
  · simp [h, show 8 * i + j < (m + 1) * 16 by omega]
  · simp [h, show ¬ 8 * i + j < (m + 1) * 16 by omega]
