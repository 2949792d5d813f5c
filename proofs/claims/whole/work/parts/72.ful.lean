/-! WHETHER CODES ARE FULL -/
theorem sub_subN (a b c : Nat) : N a - N b - N c = N a - N (b + c) := by
  rw [← N_add]
  apply Int32.toBitVec_inj.1
  show (N a).toBitVec - (N b).toBitVec - (N c).toBitVec = (N a).toBitVec - ((N b).toBitVec + (N c).toBitVec)
  generalize (N a).toBitVec = x
  generalize (N b).toBitVec = y
  generalize (N c).toBitVec = z
  rw [BitVec.sub_eq_add_neg, BitVec.sub_eq_add_neg, BitVec.sub_eq_add_neg, BitVec.neg_add, BitVec.sub_eq_add_neg, BitVec.add_assoc]
theorem N_subeq {a b c : Nat} (ha : a < 4294967296) (hb : b + c < 4294967296) : N a - N b = N c ↔ a = b + c := by
  constructor
  · intro z
    have := congrArg (fun u => u + N b) z
    simp only [Int32.sub_add_cancel] at this
    rw [N_add, N_inj ha (by omega)] at this
    omega
  · intro z
    rw [z, N_sub (by omega), Nat.add_sub_cancel_left]
theorem Gk_step {ls : Nat → Nat} {cnt i : Nat} (hi : i < 15) : Gk ls cnt (i + 1) * 2 ^ (15 - (i + 1)) = Gk ls cnt i * 2 ^ (15 - i) + cn ls (i + 1) cnt * 2 ^ (15 - (i + 1)) := by
  show (2 * Gk ls cnt i + cn ls (i + 1) cnt) * _ = _
  rw [Nat.add_mul, show 15 - i = 15 - (i + 1) + 1 by omega, Nat.pow_succ, Nat.mul_comm 2 (Gk ls cnt i), Nat.mul_assoc, Nat.mul_comm 2 (2 ^ (15 - (i + 1)))]
theorem Gk_15 {ls : Nat → Nat} {cnt : Nat} (hc : cnt ≤ 320) : Gk ls cnt 15 ≤ 10485440 := by
  have := Gk_b (ls := ls) hc 15 (by decide)
  omega
theorem isFull_ok {n c cnt : Nat} {ls : Nat → Nat} {s : Mm} (hn : 1000 < n) (hc : isK c) (hp : PtC s) (h : CodC c ls cnt s) (hcnt : cnt ≤ 320) : F_Codes_isFull n c s = some (if Gk ls cnt 15 = 32768 then 1 else 0, s) := by
  apply Ok.eq
  have kd1 := kdc_1 hc
  unfold F_Codes_isFull
  refine ok_for 1 16 (fun i x s' => s = s' ∧ x = (N 32768 - N (Gk ls cnt (i - 1) * 2 ^ (15 - (i - 1))), N i)) ?_ (by omega) (by omega) ⟨rfl, by rw [show Gk ls cnt (1 - 1) = 0 from rfl, Nat.zero_mul, N_sub (by omega)]; rfl⟩
  rintro i k9 x s' hi1 hi2 ⟨rfl, rfl⟩ ih
  by_cases h16 : i = 16
  · subst h16
    refine s_pos (by rw [show (15 : Int32) = N 15 from rfl, N_lt (by omega) (by omega)]; omega) ?_
    refine s_ji ?_
    have hb := Gk_15 (ls := ls) hcnt
    have hz : N 32768 - N (Gk ls cnt (16 - 1) * 2 ^ (15 - (16 - 1))) = 0 ↔ Gk ls cnt 15 = 32768 := by
      rw [show (0 : Int32) = N 0 from rfl, show 16 - 1 = 15 from rfl, show 2 ^ (15 - 15) = 1 from rfl, Nat.mul_one, N_subeq (by omega) (by omega)]
      omega
    by_cases hG : Gk ls cnt 15 = 32768
    · rw [if_pos hG]
      exact s_pos (hz.mpr hG) (s_z (Or.inr rfl) (Ok.some rfl))
    · rw [if_neg hG]
      exact s_neg (fun z => hG (hz.mp z)) (s_z (Or.inl rfl) (Ok.some rfl))
  · obtain ⟨j, rfl⟩ : ∃ j, i = j + 1 := ⟨i - 1, by omega⟩
    refine s_neg (by rw [show (15 : Int32) = N 15 from rfl, N_lt (by omega) (by omega)]; omega) ?_
    refine s_R (hp.cod_ofLength hc) ?_
    refine s_in rfl (by rw [kd1]; omega) (by omega) ?_
    refine s_let (fun x9 hx9 => ?_)
    dsimp only at hx9
    rw [N_nat (by omega), h.2.1 _ (by omega) (by omega), show (15 : Int32) = N 15 from rfl, show (31 : Int32) = N 31 from rfl, N_sub (a := 15) (b := j + 1) (by omega), N_shl (by omega), Nat.shiftLeft_eq, Nat.add_sub_cancel, sub_subN, ← Gk_step (by omega)] at hx9
    subst hx9
    refine s_let (fun x9 hx9 => ?_)
    rw [N_one, N_add] at hx9
    subst hx9
    exact ih (by omega) _ _ ⟨rfl, rfl⟩
theorem many_ok {n base cnt l : Nat} {ls : Nat → Nat} {x y z : Int32} {t : Mm} (e1 : x = N base) (e2 : y = N cnt) (e3 : z = N l) (hn : 1000 < n) (hp : PtM t) (hb : base + cnt ≤ 320) (hl : l < 100) (hls : ∀ k, k < cnt → ls k ≤ 15) (hL : ∀ k, k < cnt → gB t 79 (base + k) = N (ls k)) : F_Md_many n 63 x y z t = some (N (cn ls l cnt), t) := by
  subst e1 e2 e3
  apply Ok.eq
  unfold F_Md_many
  refine ok_for 0 cnt (fun i x s' => t = s' ∧ x = (N (cn ls l i), N i)) ?_ (by omega) (by omega) ⟨rfl, rfl⟩
  rintro i k9 x s' - hi ⟨rfl, rfl⟩ ih
  by_cases hie : cnt = i
  · subst hie
    exact s_pos (Int32.le_refl _) (Ok.some rfl)
  · refine s_neg (by rw [N_le (by omega) (by omega)]; omega) ?_
    refine s_R hp.lengths ?_
    refine s_let (fun x9 hx9 => ?_)
    rw [N_add] at hx9
    subst hx9
    refine s_in rfl (show base + i < 320 by omega) (by omega) ?_
    rw [N_nat (by omega), hL i (by omega)]
    have h15 := hls i (by omega)
    refine s_ji ?_
    by_cases hll : ls i = l
    · refine s_pos (by rw [hll]) ?_
      refine s_let (fun x9 hx9 => ?_)
      rw [show (1 : Int32) = N 1 from rfl, N_add] at hx9
      subst hx9
      refine s_let (fun x9 hx9 => ?_)
      rw [N_one, N_add] at hx9
      subst hx9
      refine ih (by omega) _ _ ⟨rfl, ?_⟩
      show _ = (N (cn ls l i + if ls i = l then 1 else 0), _)
      rw [if_pos hll]
    · refine s_neg (N_ne (by omega) (by omega) hll) ?_
      refine s_let (fun x9 hx9 => ?_)
      rw [show (0 : Int32) = N 0 from rfl, N_add] at hx9
      subst hx9
      refine s_let (fun x9 hx9 => ?_)
      rw [N_one, N_add] at hx9
      subst hx9
      refine ih (by omega) _ _ ⟨rfl, ?_⟩
      show _ = (N (cn ls l i + if ls i = l then 1 else 0), _)
      rw [if_neg hll]
theorem left_ok {n base cnt : Nat} {ls : Nat → Nat} {x y : Int32} {t : Mm} (e1 : x = N base) (e2 : y = N cnt) (hn : 1000 < n) (hp : PtM t) (hb : base + cnt ≤ 320) (hls : ∀ k, k < cnt → ls k ≤ 15) (hL : ∀ k, k < cnt → gB t 79 (base + k) = N (ls k)) : F_Md_left n 63 x y t = some (N 32768 - N (Gk ls cnt 15), t) := by
  subst e1 e2
  apply Ok.eq
  unfold F_Md_left
  refine ok_for 1 16 (fun i x s' => t = s' ∧ x = (N 32768 - N (Gk ls cnt (i - 1) * 2 ^ (15 - (i - 1))), N i)) ?_ (by omega) (by omega) ⟨rfl, by rw [show Gk ls cnt (1 - 1) = 0 from rfl, Nat.zero_mul, N_sub (by omega)]; rfl⟩
  rintro i k9 x s' hi1 hi2 ⟨rfl, rfl⟩ ih
  by_cases h16 : i = 16
  · subst h16
    refine s_pos (show N 16 ≤ N 16 from Int32.le_refl _) (Ok.some ?_)
    rw [show 16 - 1 = 15 from rfl, show 2 ^ (15 - 15) = 1 from rfl, Nat.mul_one]
  · obtain ⟨j, rfl⟩ : ∃ j, i = j + 1 := ⟨i - 1, by omega⟩
    refine s_neg (by rw [show (16 : Int32) = N 16 from rfl, N_le (by omega) (by omega)]; omega) ?_
    refine s_c (many_ok (ls := ls) (l := j + 1) rfl rfl rfl hn hp hb (by omega) hls hL) ?_
    refine s_let (fun x9 hx9 => ?_)
    dsimp only at hx9
    rw [show (15 : Int32) = N 15 from rfl, show (31 : Int32) = N 31 from rfl, N_sub (a := 15) (b := j + 1) (by omega), N_shl (by omega), Nat.shiftLeft_eq, Nat.add_sub_cancel, sub_subN, ← Gk_step (by omega)] at hx9
    subst hx9
    refine s_let (fun x9 hx9 => ?_)
    rw [N_one, N_add] at hx9
    subst hx9
    exact ih (by omega) _ _ ⟨rfl, rfl⟩
theorem Gk_sum {ls : Nat → Nat} {n : Nat} : Gk ls n 15 = 16384 * cn ls 1 n + 8192 * cn ls 2 n + 4096 * cn ls 3 n + 2048 * cn ls 4 n + 1024 * cn ls 5 n + 512 * cn ls 6 n + 256 * cn ls 7 n + 128 * cn ls 8 n + 64 * cn ls 9 n + 32 * cn ls 10 n + 16 * cn ls 11 n + 8 * cn ls 12 n + 4 * cn ls 13 n + 2 * cn ls 14 n + cn ls 15 n := by
  simp only [Gk, Nat.reduceAdd]
  omega
theorem off_15 {ls : Nat → Nat} {n : Nat} : offL ls n 16 = cn ls 1 n + cn ls 2 n + cn ls 3 n + cn ls 4 n + cn ls 5 n + cn ls 6 n + cn ls 7 n + cn ls 8 n + cn ls 9 n + cn ls 10 n + cn ls 11 n + cn ls 12 n + cn ls 13 n + cn ls 14 n + cn ls 15 n := by
  simp [offL]
/-- one code of one bit -/
theorem one_iff {ls : Nat → Nat} {n : Nat} : (cn ls 1 n = 1 ∧ Gk ls n 15 = 16384) ↔ (offL ls n 16 = 1 ∧ cn ls 1 n = 1) := by
  rw [Gk_sum, off_15]; omega
theorem zero_iff {ls : Nat → Nat} {n : Nat} : Gk ls n 15 = 0 ↔ offL ls n 16 = 0 := by
  rw [Gk_sum, off_15]; omega
theorem CdOk_lo {ls : Nat → Nat} {n : Nat} (h : offL ls n 16 = 0 ∨ (offL ls n 16 = 1 ∧ cn ls 1 n = 1)) : CdOk ls n := by
  right
  intro l h1 h2
  rw [off_15] at h
  rcases (show l = 2 ∨ l = 3 ∨ l = 4 ∨ l = 5 ∨ l = 6 ∨ l = 7 ∨ l = 8 ∨ l = 9 ∨ l = 10 ∨ l = 11 ∨ l = 12 ∨ l = 13 ∨ l = 14 ∨ l = 15 by omega) with rfl | rfl | rfl | rfl | rfl | rfl | rfl | rfl | rfl | rfl | rfl | rfl | rfl | rfl <;> omega
theorem oneBit_ok {n c cnt : Nat} {ls : Nat → Nat} {s : Mm} (hc : isK c) (hp : PtC s) (h : CodC c ls cnt s) (hcnt : cnt ≤ 320) : F_Codes_isOneBit n c s = some (if offL ls cnt 16 = 1 ∧ cn ls 1 cnt = 1 then 1 else 0, s) := by
  obtain ⟨v, hv⟩ : ∃ v, v = (if offL ls cnt 16 = 1 ∧ cn ls 1 cnt = 1 then (1 : Int32) else 0) := ⟨_, rfl⟩
  rw [← hv]
  apply Ok.eq
  have kd1 := kdc_1 hc
  have h1 := off_sum (ls := ls) (n := cnt) 16
  have h2 := cn_le (ls := ls) (L := 1) (k := cnt)
  unfold F_Codes_isOneBit
  refine s_ji ?_
  refine s_ji ?_
  rw [h.2.2.2.1, show (1 : Int32) = N 1 from rfl]
  by_cases hA : offL ls cnt 16 = 1
  · refine s_pos (by rw [hA]) ?_
    refine s_R (hp.cod_ofLength hc) ?_
    refine s_in rfl (by rw [kd1]; omega) (by omega) ?_
    rw [N_nat (by omega), h.2.1 1 (by omega) (by omega)]
    by_cases hB : cn ls 1 cnt = 1
    · rw [if_pos ⟨hA, hB⟩] at hv
      subst hv
      exact s_pos (by rw [hB]) (s_z (Or.inr rfl) (Ok.some rfl))
    · rw [if_neg (fun z => hB z.2)] at hv
      subst hv
      exact s_neg (N_ne (by omega) (by omega) hB) (s_z (Or.inl rfl) (Ok.some rfl))
  · rw [if_neg (fun z => hA z.1)] at hv
    subst hv
    exact s_neg (N_ne (by omega) (by omega) hA) (s_z (Or.inl rfl) (Ok.some rfl))
def ordT (k : Nat) : Nat := ([16, 17, 18, 0, 8, 7, 9, 6, 10, 5, 11, 4, 12, 3, 13, 2, 14, 1, 15] : List Nat).getD k 0
theorem ordT_sc : ∀ k, k < 19 → mm_sc 109 k = N (ordT k) := by decide
theorem ordT_b : ∀ k, k < 19 → ordT k < 19 := by decide
theorem ordT_e : ∀ k, k < 19 → ordT k = if 3 ≤ k then (if k = 3 then 0 else if k % 2 = 0 then 8 + (k - 4) / 2 else 7 - (k - 5) / 2) else 16 + k := by decide
theorem orderOf_eq {n k : Nat} {x : Int32} {t : Mm} (e : x = N k) (hk : k < 19) : F_Md_orderOf n x t = some (N (ordT k), t) := by
  subst e
  apply Ok.eq
  rw [ordT_e k hk]
  unfold F_Md_orderOf
  refine s_ji ?_
  by_cases h3 : 3 ≤ k
  · rw [if_pos h3]
    refine s_pos (by rw [show (3 : Int32) = N 3 from rfl, N_le (by omega) (by omega)]; exact h3) ?_
    by_cases h33 : k = 3
    · rw [if_pos h33]
      exact s_pos (by rw [h33]; rfl) (Ok.some rfl)
    · rw [if_neg h33]
      refine s_neg (by rw [show (3 : Int32) = N 3 from rfl]; exact N_ne (by omega) (by omega) h33) ?_
      refine s_nz (by decide) ?_
      rw [show (2 : Int32) = N 2 from rfl, N_div (by omega) (by omega), N_mul, N_sub (by omega), show (0 : Int32) = N 0 from rfl]
      by_cases h2 : k % 2 = 0
      · rw [if_pos h2]
        refine s_pos (by rw [show k - k / 2 * 2 = 0 by omega]) ?_
        refine s_nz (by decide) (Ok.some ?_)
        rw [show (4 : Int32) = N 4 from rfl, show (8 : Int32) = N 8 from rfl, N_sub (by omega), N_div (by omega) (by omega), N_add]
      · rw [if_neg h2]
        refine s_neg (N_ne (by omega) (by omega) (by omega)) ?_
        refine s_nz (by decide) (Ok.some ?_)
        rw [show (5 : Int32) = N 5 from rfl, show (7 : Int32) = N 7 from rfl, N_sub (by omega), N_div (by omega) (by omega), N_sub (by omega)]
  · rw [if_neg h3]
    refine s_neg (by rw [show (3 : Int32) = N 3 from rfl, N_le (by omega) (by omega)]; exact h3) (Ok.some ?_)
    rw [show (16 : Int32) = N 16 from rfl, N_add]
