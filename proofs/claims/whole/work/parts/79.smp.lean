/-! SAMPLES OUT OF BYTES -/
def sv (F : Nat → Nat) (dp first m : Nat) : Nat := if dp = 16 then F (first + 2 * m) * 256 + F (first + 2 * m + 1) else (F (first + m * dp / 8) >>> (8 - dp - m * dp % 8)) % 2 ^ dp
theorem sv_lt {F : Nat → Nat} {dp first m : Nat} (hF : ∀ j, F j < 256) : sv F dp first m < 2 ^ dp := by
  unfold sv
  split
  · next h =>
    subst h
    have h1 := hF (first + 2 * m)
    have h2 := hF (first + 2 * m + 1)
    omega
  · exact Nat.mod_lt _ (Nat.pow_pos (by decide))
theorem sv_ext {F F' : Nat → Nat} {dp first m len : Nat} (hd : dpOk dp) (hm : (m + 1) * dp ≤ 8 * len) (h : ∀ k, k < len → F (first + k) = F' (first + k)) : sv F dp first m = sv F' dp first m := by
  unfold sv
  by_cases h16 : dp = 16
  · subst h16
    rw [if_pos rfl, if_pos rfl, h (2 * m) (by omega), Nat.add_assoc, h (2 * m + 1) (by omega)]
  · rw [if_neg h16, if_neg h16, h (m * dp / 8) (by rcases hd with rfl | rfl | rfl | rfl | rfl <;> omega)]
theorem sampleAt_eq {n first m dp len : Nat} {F : Nat → Nat} {s : Mm} {a0 a1 a2 : Int32} (e0 : a0 = N first) (e1 : a1 = N m) (e2 : a2 = N dp) (hp : PtC s) (hd : dpOk dp) (hF : ∀ j, F j < 256) (hm : (m + 1) * dp ≤ 8 * len) (hf : first + len ≤ 32888) (hI : ∀ k, k < len → gB s 8 (first + k) = N (F (first + k))) : F_Rows_sampleAt n 6 a0 a1 a2 s = some (N (sv F dp first m), s) := by
  subst e0 e1 e2
  apply Ok.eq
  unfold F_Rows_sampleAt sv
  by_cases h16 : dp = 16
  · subst h16
    rw [if_pos rfl]
    refine s_pos rfl ?_
    have h1 := hF (first + 2 * m)
    have h2 := hF (first + 2 * m + 1)
    refine s_R hp.Rows_flat ?_
    refine s_let (fun x9 hx9 => ?_)
    rw [show (2 : Int32) = N 2 from rfl, N_mul, N_add] at hx9
    subst hx9
    refine s_in rfl (by rw [kd_8]; omega) (by omega) ?_
    refine s_R hp.Rows_flat ?_
    refine s_let (fun x9 hx9 => ?_)
    rw [show (2 : Int32) = N 2 from rfl, N_mul, N_add, show (1 : Int32) = N 1 from rfl, N_add] at hx9
    subst hx9
    refine s_in rfl (by rw [kd_8]; omega) (by omega) (Ok.some ?_)
    have e1 := hI (2 * m) (by omega)
    have e2 := hI (2 * m + 1) (by omega)
    rw [← Nat.add_assoc] at e2
    rw [N_nat (by omega), N_nat (by omega), e1, e2, show (8 : Int32) = N 8 from rfl, show (31 : Int32) = N 31 from rfl, N_256 h2, Nat.mul_comm]
  · rw [if_neg h16]
    refine s_neg (by rw [show (16 : Int32) = N 16 from rfl]; exact N_ne (by rcases hd with rfl | rfl | rfl | rfl | rfl <;> omega) (by omega) h16) ?_
    have hdb : 1 ≤ dp ∧ dp ≤ 8 := by unfold dpOk at hd; omega
    have hmd : (m + 1) * dp = m * dp + dp := by rw [Nat.add_mul, Nat.one_mul]
    have hal : dp + m * dp % 8 ≤ 8 := by rcases hd with rfl | rfl | rfl | rfl | rfl <;> omega
    refine s_let (fun x9 hx9 => ?_)
    rw [N_mul] at hx9
    subst hx9
    generalize hmdp : m * dp = B at hmd hal ⊢
    refine s_R hp.Rows_flat ?_
    refine s_nz (by decide) ?_
    refine s_let (fun x9 hx9 => ?_)
    rw [show (8 : Int32) = N 8 from rfl, N_div (by omega) (by omega), N_add] at hx9
    subst hx9
    refine s_in rfl (by rw [kd_8]; omega) (by omega) ?_
    refine s_nz (by decide) (Ok.some ?_)
    have hFb := hF (first + B / 8)
    have hpw : 1 ≤ 2 ^ dp := Nat.pow_pos (by decide)
    rw [N_nat (by omega), hI (B / 8) (by omega), show (8 : Int32) = N 8 from rfl, show (31 : Int32) = N 31 from rfl, show (1 : Int32) = N 1 from rfl, N_div (by omega) (by omega), N_mul, N_sub (a := B) (by omega), N_sub (a := 8) (by omega), N_sub (a := 8 - dp) (by omega), N_shr (by omega) (by omega), N_shl (by omega), Nat.shiftLeft_eq, Nat.one_mul, N_sub hpw, N_and, Nat.and_two_pow_sub_one_eq_mod, show B - B / 8 * 8 = B % 8 by omega]
theorem bitstep (x j : Nat) : x % 2 ^ (j + 1) = 2 * (x / 2 % 2 ^ j) + x % 2 := by
  rw [Nat.pow_succ, Nat.mul_comm (2 ^ j) 2, Nat.mod_mul]
  omega
set_option maxHeartbeats 1000000 in
theorem sampleOf_eq {n w h lc kd dp q l i c : Nat} {F : Nat → Nat} {t : Mm} {a0 a1 a2 : Int32} (e0 : a0 = N (bs w h lc q + l)) (e1 : a1 = N i) (e2 : a2 = N c) (hn : 1000 < n) (hp : PtM t) (hh : Hd w h lc) (hk : kdOk kd dp) (hR : RowsM w h lc (ch kd * dp) t) (hrk : gS t 4084 = N kd) (hrd : gS t 4085 = N dp) (hq : q < 8) (hl : l < ln w h lc q) (hi : i < pn w q) (hc : c < ch kd) (hF : ∀ j, F j < 256) (hI : ∀ k, k < rb w (ch kd * dp) q → gB t 73 (ro w h lc (ch kd * dp) q l + 1 + k) &&& N 255 = N (F (ro w h lc (ch kd * dp) q l + 1 + k))) : F_Md_sampleOf n 63 a0 a1 a2 t = some (N (sv F dp (ro w h lc (ch kd * dp) q l + 1) (i * ch kd + c)), t) := by
  subst e0 e1 e2
  have hd := hk.dp
  have hB8 := bs_8 hh
  have hT8 := bt_8 hh (ch_mul hk).2
  have hbin := bs_in hl hq
  have hrt := ro_lt (bits := ch kd * dp) hq hl
  have hm : i * ch kd + c < pn w q * ch kd := by
    have : (i + 1) * ch kd ≤ pn w q * ch kd := Nat.mul_le_mul_right _ hi
    rw [Nat.add_mul, Nat.one_mul] at this
    omega
  have hdp1 : 1 ≤ dp ∧ dp ≤ 16 := ⟨hk.b.2.1, hk.b.2.2⟩
  have hbits := rb_bits hm hdp1.1
  have hst := (hR.2.2 q l hq hl).2.2.1
  apply Ok.eq
  unfold F_Md_sampleOf
  rw [show gS t (64 * 63 + 52) = N kd from hrk]
  refine s_c (Md_channels_eq (by have := hk.b.1; omega)) ?_
  refine s_let (fun x9 hx9 => ?_)
  rw [N_mul, N_add, hrd, N_mul] at hx9
  subst hx9
  generalize hm0 : i * ch kd + c = m at hm hbits ⊢
  generalize hro : ro w h lc (ch kd * dp) q l = o at hst hI hrt ⊢
  generalize hrb : rb w (ch kd * dp) q = len at hI hbits hrt
  have hmd : (m + 1) * dp = m * dp + dp := by rw [Nat.add_mul, Nat.one_mul]
  have hdm : m * dp ≤ 300000 := by omega
  obtain ⟨val, hval⟩ : ∃ val : Nat → Nat, val = fun j => if dp = 16 then (F (o + 1 + 2 * m) * 256 + F (o + 1 + 2 * m + 1)) >>> (16 - j) else (F (o + 1 + m * dp / 8) >>> (8 - m * dp % 8 - j)) % 2 ^ j := ⟨_, rfl⟩
  have hval0 : val 0 = 0 := by
    rw [hval]
    dsimp only
    split
    · next h16 =>
      have h1 := hF (o + 1 + 2 * m)
      have h2 := hF (o + 1 + 2 * m + 1)
      rw [Nat.shiftRight_eq_div_pow]
      omega
    · rw [Nat.pow_zero, Nat.mod_one]
  have hvale : val dp = sv F dp (o + 1) m := by
    rw [hval]
    unfold sv
    dsimp only
    by_cases h16 : dp = 16
    · rw [if_pos h16, if_pos h16, h16]
      rfl
    · rw [if_neg h16, if_neg h16, Nat.sub_right_comm]
  have hvalb : ∀ j, j ≤ 16 → val j < 65536 := by
    intro j hj
    rw [hval]
    dsimp only
    split
    · have h1 := hF (o + 1 + 2 * m)
      have h2 := hF (o + 1 + 2 * m + 1)
      rw [Nat.shiftRight_eq_div_pow]
      exact Nat.lt_of_le_of_lt (Nat.div_le_self _ _) (by omega)
    · have h1 := hF (o + 1 + m * dp / 8)
      refine Nat.lt_of_le_of_lt (Nat.mod_le _ _) ?_
      rw [Nat.shiftRight_eq_div_pow]
      exact Nat.lt_of_le_of_lt (Nat.div_le_self _ _) (by omega)
  have hstep : ∀ j, j < dp → val (j + 1) = 2 * val j + (F (o + 1 + (m * dp + j) / 8) >>> (7 - (m * dp + j) % 8)) % 2 := by
    intro j hj
    rw [hval]
    dsimp only
    by_cases h16 : dp = 16
    · subst h16
      rw [if_pos rfl, if_pos rfl]
      have h1 := hF (o + 1 + 2 * m)
      have h2 := hF (o + 1 + 2 * m + 1)
      by_cases h8 : j < 8
      · rw [show (m * 16 + j) / 8 = 2 * m by omega, show (m * 16 + j) % 8 = j by omega]
        generalize F (o + 1 + 2 * m) = A at h1 ⊢
        generalize F (o + 1 + 2 * m + 1) = B at h2 ⊢
        rcases (show j = 0 ∨ j = 1 ∨ j = 2 ∨ j = 3 ∨ j = 4 ∨ j = 5 ∨ j = 6 ∨ j = 7 by omega) with rfl | rfl | rfl | rfl | rfl | rfl | rfl | rfl <;> simp only [Nat.shiftRight_eq_div_pow, Nat.reduceSub, Nat.reduceAdd, Nat.reducePow] <;> omega
      · rw [show (m * 16 + j) / 8 = 2 * m + 1 by omega, show (m * 16 + j) % 8 = j - 8 by omega, ← Nat.add_assoc]
        generalize F (o + 1 + 2 * m) = A at h1 ⊢
        generalize F (o + 1 + 2 * m + 1) = B at h2 ⊢
        rcases (show j = 8 ∨ j = 9 ∨ j = 10 ∨ j = 11 ∨ j = 12 ∨ j = 13 ∨ j = 14 ∨ j = 15 by omega) with rfl | rfl | rfl | rfl | rfl | rfl | rfl | rfl <;> simp only [Nat.shiftRight_eq_div_pow, Nat.reduceSub, Nat.reduceAdd, Nat.reducePow] <;> omega
    · rw [if_neg h16, if_neg h16]
      have hal : dp + m * dp % 8 ≤ 8 := by rcases hd with rfl | rfl | rfl | rfl | rfl <;> omega
      rw [show (m * dp + j) / 8 = m * dp / 8 by omega, show 7 - (m * dp + j) % 8 = 8 - m * dp % 8 - (j + 1) by omega, bitstep]
      congr 2
      rw [Nat.shiftRight_eq_div_pow, Nat.shiftRight_eq_div_pow, Nat.div_div_eq_div_mul, ← Nat.pow_succ]
      congr 2
      congr 1
      omega
  rw [← hvale]
  clear hval hvale
  refine ok_for 0 dp (fun j x s' => t = s' ∧ x = (N (val j), N (m * dp + j))) ?_ (by omega) (by omega) ⟨rfl, by rw [hval0]; rfl⟩
  rintro j k9 x s' - hj ⟨rfl, rfl⟩ ih
  by_cases hje : dp = j
  · subst hje
    refine s_pos (by rw [hrd, N_add]; exact Int32.le_refl _) (Ok.some rfl)
  · refine s_neg (by rw [hrd, N_add, N_le (by omega) (by omega)]; omega) ?_
    refine s_nz (by decide) ?_
    rw [show (8 : Int32) = N 8 from rfl, N_div (by omega) (by omega)]
    have hkk : (m * dp + j) / 8 < len := by omega
    refine s_c (Md_byteOf_eq (o := o) rfl rfl hp (by omega) hst (by omega) (hI _ hkk)) ?_
    refine s_nz (by decide) ?_
    have hv1 := hvalb j (by omega)
    have hFb := hF (o + 1 + (m * dp + j) / 8)
    refine s_let (fun x9 hx9 => ?_)
    dsimp only at hx9
    rw [show (2 : Int32) = N 2 from rfl, show (7 : Int32) = N 7 from rfl, show (31 : Int32) = N 31 from rfl, show (1 : Int32) = N 1 from rfl, N_mul, N_mul, N_sub (a := m * dp + j) (by omega), N_sub (a := 7) (by omega), N_shr (by omega) (by omega), N_and, and1, N_add, show m * dp + j - (m * dp + j) / 8 * 8 = (m * dp + j) % 8 by omega, ← hstep j (by omega)] at hx9
    subst hx9
    refine s_let (fun x9 hx9 => ?_)
    dsimp only at hx9
    rw [N_one, N_add] at hx9
    subst hx9
    exact ih (by omega) _ _ ⟨rfl, by rw [Nat.add_assoc]⟩
