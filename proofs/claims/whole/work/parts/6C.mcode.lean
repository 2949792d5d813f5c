/-! THE REFERENCE READS A CODE -/
theorem begun_yes {n len code cnt : Nat} {ls : Nat → Nat} {x y w : Int32} {s : Mm} (e1 : x = N len) (e2 : y = N code) (e3 : w = N (Gk ls cnt len)) (hn : 1000 < n) (hX : PtX s) (hF : Full ls cnt) (hl1 : 1 ≤ len) (hl2 : len ≤ 15) (h1 : Gk ls cnt len ≤ code) (h2 : code < 2 ^ len) (hcn : ∀ l, l ≤ 15 → gB s 81 l = N (cn ls l cnt)) : F_Md_isBegun n 63 x y w s = some (1, s) := by
  subst e1 e2 e3
  apply Ok.eq
  unfold F_Md_isBegun
  refine s_let (fun x9 hx9 => ?_)
  rw [show (1 : Int32) = N 1 from rfl, N_add] at hx9
  subst hx9
  have hpow : ∀ i, len ≤ i → i ≤ 15 → code * 2 ^ (i - len) < 32768 ∧ 2 ^ (i - len) ≤ 32768 := fun i h3 h4 => by
    have a : code * 2 ^ (i - len) < 2 ^ len * 2 ^ (i - len) := Nat.mul_lt_mul_of_pos_right h2 (Nat.pow_pos (by decide))
    rw [← Nat.pow_add, show len + (i - len) = i by omega] at a
    have b : (2 : Nat) ^ i ≤ 2 ^ 15 := Nat.pow_le_pow_right (by decide) h4
    have c : (2 : Nat) ^ (i - len) ≤ 2 ^ 15 := Nat.pow_le_pow_right (by decide) (by omega)
    exact ⟨Nat.lt_of_lt_of_le a b, c⟩
  refine ok_for (len + 1) 16 (fun i x s' => s = s' ∧ x = (N (Gk ls cnt (i - 1)), N i) ∧ Gk ls cnt (i - 1) ≤ code * 2 ^ (i - 1 - len)) ?_ (by omega) (by omega) ⟨rfl, rfl, by rw [Nat.add_sub_cancel, Nat.sub_self, Nat.pow_zero, Nat.mul_one]; exact h1⟩
  rintro i k9 x s' hi1 hi2 ⟨rfl, rfl, hI⟩ ih
  by_cases h16 : i = 16
  · subst h16
    have := (hpow 15 (by omega) (by omega)).1
    rw [show 16 - 1 = 15 from rfl, hF] at hI
    omega
  · obtain ⟨j, rfl⟩ : ∃ j, i = j + 1 := ⟨i - 1, by omega⟩
    rw [Nat.add_sub_cancel] at hI ⊢
    have hp := hpow (j + 1) (by omega) (by omega)
    have e2 : (2 : Nat) ^ (j + 1 - len) = 2 ^ (j - len) * 2 := by rw [← Nat.pow_succ]; congr 1; omega
    have e8 : code * 2 ^ (j + 1 - len) = 2 * (code * 2 ^ (j - len)) := by rw [e2, ← Nat.mul_assoc]; omega
    have hG := Gk_full hF (show j + 1 ≤ 15 by omega)
    have hG2 : (2 : Nat) ^ (j + 1) ≤ 2 ^ 15 := Nat.pow_le_pow_right (by decide) (by omega)
    have eG : Gk ls cnt (j + 1) = 2 * Gk ls cnt j + cn ls (j + 1) cnt := rfl
    have hpos : 0 < 2 ^ (j + 1 - len) := Nat.pow_pos (by decide)
    refine s_neg (by rw [show (16 : Int32) = N 16 from rfl, N_le (by omega) (by omega)]; omega) ?_
    refine s_let (fun x9 hx9 => ?_)
    rw [show (2 : Int32) = N 2 from rfl, N_mul] at hx9
    subst hx9
    refine s_R hX.2.counts ?_
    refine s_in rfl (show j + 1 < 16 by omega) (by omega) ?_
    refine s_let (fun x9 hx9 => ?_)
    rw [N_nat (by omega), hcn _ (by omega)] at hx9
    subst hx9
    refine s_let (fun x9 hx9 => ?_)
    rw [N_sub (by omega), show (31 : Int32) = N 31 from rfl, N_shl (by omega), Nat.shiftLeft_eq] at hx9
    subst hx9
    refine s_let (fun x9 hx9 => ?_)
    rw [N_sub (by omega), show (31 : Int32) = N 31 from rfl, show (1 : Int32) = N 1 from rfl, N_shl (by omega), Nat.shiftLeft_eq, Nat.one_mul, N_add] at hx9
    subst hx9
    refine s_ji ?_
    have nx : ∀ g, g = Gk ls cnt (j + 1) → g ≤ code * 2 ^ (j + 1 - len) → Ok (k9 (N g, N (j + 1 + 1)) s) (fun y => y = (1, s)) := fun g hg hg2 => ih (by omega) _ _ ⟨rfl, by rw [Nat.add_sub_cancel, hg], by rw [Nat.add_sub_cancel, ← hg]; exact hg2⟩
    have cont : Gk ls cnt (j + 1) ≤ code * 2 ^ (j + 1 - len) → Ok (kf_let (N (2 * Gk ls cnt j) + N (cn ls (j + 1) cnt) : Int32) fun x13 =>
kf_let (N (j + 1) + Int32.ofInt 1) fun x14 =>
k9 (x13, x14) s) (fun y => y = (1, s)) := by
      intro hg
      refine s_let (fun x9 hx9 => ?_)
      rw [N_add] at hx9
      subst hx9
      refine s_let (fun x9 hx9 => ?_)
      rw [N_one, N_add] at hx9
      subst hx9
      exact nx _ rfl hg
    by_cases hz : cn ls (j + 1) cnt = 0
    · refine s_pos (by rw [hz]; decide) (cont (by omega))
    refine s_neg (by rw [show (0 : Int32) = N 0 from rfl, N_le (by omega) (by decide)]; omega) ?_
    refine s_neg (by rw [N_le (by omega) (by omega)]; omega) ?_
    rw [N_add]
    by_cases hle : 2 * Gk ls cnt j + cn ls (j + 1) cnt ≤ code * 2 ^ (j + 1 - len)
    · refine s_pos ((N_le (by omega) (by omega)).mpr hle) ?_
      have := cont (by omega)
      rw [N_add] at this
      exact this
    · refine s_neg (by rw [N_le (by omega) (by omega)]; exact hle) ?_
      exact s_z (Or.inr rfl) (Ok.some rfl)
theorem begun_no {n len cnt : Nat} {ls : Nat → Nat} {x y w : Int32} {s : Mm} (e1 : x = N len) (hn : 1000 < n) (hX : PtX s) (hl2 : len ≤ 15) (h0 : ∀ l, len < l → l ≤ 15 → cn ls l cnt = 0) (hcn : ∀ l, l ≤ 15 → gB s 81 l = N (cn ls l cnt)) : F_Md_isBegun n 63 x y w s = some (0, s) := by
  subst e1
  apply Ok.eq
  unfold F_Md_isBegun
  refine s_let (fun x9 hx9 => ?_)
  rw [show (1 : Int32) = N 1 from rfl, N_add] at hx9
  subst hx9
  refine ok_for (len + 1) 16 (fun i x s' => s = s' ∧ x.2 = N i) ?_ (by omega) (by omega) ⟨rfl, rfl⟩
  rintro i k9 ⟨a, x⟩ s' hi1 hi2 ⟨rfl, e⟩ ih
  dsimp only at e
  subst e
  by_cases h16 : i = 16
  · subst h16
    exact s_pos (Int32.le_refl _) (s_z (Or.inl rfl) (Ok.some rfl))
  · refine s_neg (by rw [show (16 : Int32) = N 16 from rfl, N_le (by omega) (by omega)]; omega) ?_
    refine s_let (fun x9 _ => ?_)
    refine s_R hX.2.counts ?_
    refine s_in rfl (show i < 16 by omega) (by omega) ?_
    refine s_let (fun x8 hx8 => ?_)
    rw [N_nat (by omega), hcn _ (by omega), h0 i (by omega) (by omega)] at hx8
    subst hx8
    refine s_let (fun x7 _ => ?_)
    refine s_let (fun x6 _ => ?_)
    refine s_ji ?_
    refine s_pos (by decide) ?_
    refine s_let (fun x5 _ => ?_)
    refine s_let (fun x4 hx4 => ?_)
    rw [N_one, N_add] at hx4
    subst hx4
    exact ih (by omega) _ _ ⟨rfl, rfl⟩
/-- codes that both sides let through: full ones, or none longer than one bit -/
def CdOk (ls : Nat → Nat) (cnt : Nat) : Prop := Full ls cnt ∨ ∀ l, 1 < l → l ≤ 15 → cn ls l cnt = 0
set_option maxHeartbeats 2000000 in
theorem M_code {n m ck pos cnt base : Nat} {T wh ls : Nat → Nat} {x y : Int32} {s : Mm} (e1 : x = N base) (e2 : y = N cnt) (hn : 1000 < n) (h : VM T m wh ck pos s) (hT : ∀ i, T i < 256) (hb : base + cnt ≤ 320) (hcnt : cnt ≤ 288) (hls : ∀ k, k < cnt → ls k ≤ 15) (hL : ∀ k, k < cnt → gB s 79 (base + k) = N (ls k)) (hcd : CdOk ls cnt) : Ok (F_Md_readCode n 63 x y s) (fun r => (∃ i v, DA T wh ls cnt m pos i ∧ DV T wh ls cnt pos i v ∧ r.1 = 1 ∧ gS r.2 4081 = N v ∧ VM T m wh ck (pos + i) r.2) ∨ (DB T wh ls cnt m pos ∧ r.1 = 0 ∧ gS r.2 4081 = -1 ∧ VS T m wh ck r.2) ∨ (∃ i, DC T wh ls cnt m pos i ∧ r.1 = 0 ∧ gS r.2 4081 = -2 ∧ FV 20 ck r.2)) := by
  subst e1 e2
  have hlg := lng_le (ls := ls) (n := cnt) 15
  unfold F_Md_readCode
  refine s_let (fun s0 h0 => ?_)
  have f0 : FM [4081] [] s s0 := by rw [h0]; exact (FM.rfl h.1.1).wS (by decide) _
  have g0 : gS s0 4081 = -1 := by rw [h0]; exact gS_eq rfl
  have V0 : VM T m wh ck pos s0 := ⟨h.1.fr f0 (by decide) (by decide), by rw [h0]; exact h.2.1, h.2.2.1, by rw [h0, gS_ne (by decide)]; exact h.2.2.2⟩
  clear h0
  refine (Md_count_ok (ls := ls) rfl rfl hn V0.1.1 hb hls (fun k hk => by rw [f0.2.B (by decide)]; exact hL k hk)).bind ?_
  rintro s1 ⟨z1, g1, f1⟩
  rw [mxl_lng hls] at g1
  have V1 : VM T m wh ck pos s1 := ⟨V0.1.fr f1 (by decide) (by decide), (f1.2.J (by decide)).trans V0.2.1, V0.2.2.1, (f1.2.S (by decide)).trans V0.2.2.2⟩
  have fd1 : gS s1 4081 = -1 := (f1.2.S (by decide)).trans g0
  have hL1 : ∀ k, k < cnt → gB s1 79 (base + k) = N (ls k) := fun k hk => by rw [f1.2.B (by decide), f0.2.B (by decide)]; exact hL k hk
  clear f0 f1 V0 g0 h
  refine ok_for 1 (lng ls cnt 15 + 1) (fun i x s' => x = (N (Gk ls cnt (i - 1)), N (cv T wh pos (i - 1)), N i) ∧ (∀ j, 1 ≤ j → j < i → Gk ls cnt j ≤ cv T wh pos j) ∧ VM T m wh ck (pos + (i - 1)) s' ∧ FM [4075] [] s1 s') ?_ (by omega) (by omega) ⟨rfl, fun j h1 h2 => by omega, V1, FM.rfl V1.1.1⟩
  rintro i k9 x s' hi1 hi2 ⟨rfl, hJ, hV, f⟩ ih
  have g1' : gS s' 4083 = N (lng ls cnt 15) := (f.2.S (by decide)).trans g1
  have fd' : gS s' 4081 = -1 := (f.2.S (by decide)).trans fd1
  obtain ⟨i', rfl⟩ : ∃ i', i = i' + 1 := ⟨i - 1, by omega⟩
  rw [Nat.add_sub_cancel] at hV
  have hm := hV.1.2.1
  have hpm := hV.2.2.1
  by_cases hlong : lng ls cnt 15 < i' + 1
  · refine s_pos (by rw [g1', N_lt (by omega) (by omega)]; exact hlong) ?_
    have he : i' = lng ls cnt 15 := by omega
    subst he
    exact s_z (Or.inl rfl) (Ok.some (Or.inr (Or.inl ⟨⟨fun j h1 h2 => hJ j h1 (by omega), hV.2.2.1⟩, rfl, fd', hV.1⟩)))
  · refine s_neg (by rw [g1', N_lt (by omega) (by omega)]; exact hlong) ?_
    refine (M_has (k := 1) rfl hV (by decide)).c2 ?_
    rintro r s2 h2
    by_cases hbit : pos + i' + 1 ≤ 8 * m
    · rw [if_pos hbit] at h2
      injection h2 with h3 h4
      subst h3 h4
      refine s_neg (by decide) ?_
      refine (M_bits (k := 1) rfl (by omega) hV hT (by decide) hbit).c2 ?_
      rintro r s3 ⟨h3, V3, f3⟩
      dsimp only at h3 V3 f3 ⊢
      have F3 : FM [4075] [] s1 s3 := ⟨f3.1, f.2.trans f3.2⟩
      subst h3
      rw [nb1]
      have hbl := bi_lt (T := T) (wh := wh) (i := pos + i')
      have hcvl := cv_lt (T := T) (wh := wh) (p := pos) (i' + 1)
      have hcvl' := cv_lt (T := T) (wh := wh) (p := pos) i'
      have h15 : (2 : Nat) ^ (i' + 1) ≤ 2 ^ 15 := Nat.pow_le_pow_right (by decide) (by omega)
      have hGb := Gk_b (ls := ls) (cnt := cnt) (by omega) i' (by omega)
      have hcn := cn_le (ls := ls) (L := i' + 1) (k := cnt)
      have hGc : Gk ls cnt i' ≤ cv T wh pos i' := by
        cases i' with
        | zero => exact Nat.le_refl _
        | succ k => exact hJ (k + 1) (by omega) (by omega)
      have ecv : cv T wh pos (i' + 1) = 2 * cv T wh pos i' + bi T wh (pos + i') := rfl
      have eG : Gk ls cnt (i' + 1) = 2 * Gk ls cnt i' + cn ls (i' + 1) cnt := rfl
      refine s_let (fun x9 hx9 => ?_)
      rw [show (2 : Int32) = N 2 from rfl, Nat.add_sub_cancel, N_mul, N_add, ← ecv] at hx9
      subst hx9
      refine s_let (fun x9 hx9 => ?_)
      rw [show (2 : Int32) = N 2 from rfl, Nat.add_sub_cancel, N_mul] at hx9
      subst hx9
      have z3 : ∀ l, l ≤ 15 → gB s3 81 l = N (cn ls l cnt) := fun l hl => by rw [F3.2.B (by decide)]; exact z1 l hl
      have hL3 : ∀ k, k < cnt → gB s3 79 (base + k) = N (ls k) := fun k hk => by rw [F3.2.B (by decide)]; exact hL1 k hk
      refine s_R F3.1.2.counts ?_
      refine s_in rfl (show i' + 1 < 16 by omega) (by omega) ?_
      refine s_let (fun x9 hx9 => ?_)
      rw [N_nat (by omega), z3 _ (by omega)] at hx9
      subst hx9
      refine s_ji ?_
      refine s_neg (by rw [N_lt (by omega) (by omega)]; omega) ?_
      rw [N_add, ← eG]
      by_cases hmat : Gk ls cnt (i' + 1) ≤ cv T wh pos (i' + 1)
      · refine s_pos ((N_le (by omega) (by omega)).mpr hmat) ?_
        refine s_let (fun x9 hx9 => ?_)
        subst hx9
        rcases hcd with hF | hno
        · refine s_c (begun_yes (ls := ls) rfl rfl rfl hn F3.1 hF (by omega) (by omega) hmat hcvl z3) ?_
          refine s_neg (by decide) ?_
          refine s_let (fun x9 hx9 => ?_)
          rw [N_one, N_add] at hx9
          subst hx9
          refine ih (by omega) _ _ ⟨rfl, fun j h1 h2 => ?_, V3, F3⟩
          by_cases hj : j = i' + 1
          · subst hj; exact hmat
          · exact hJ j h1 (by omega)
        · refine s_c (begun_no (ls := ls) (cnt := cnt) rfl hn F3.1 (by omega) (fun l h1 h2 => hno l (by omega) h2) z3) ?_
          refine s_pos rfl ?_
          have hlg1 : lng ls cnt 15 = i' + 1 := by
            by_cases h9 : lng ls cnt 15 ≤ 1
            · omega
            · have h8 := lng_yes (ls := ls) (n := cnt) 15 (by omega)
              have := hno _ (by omega) hlg
              omega
          refine s_z (Or.inl rfl) (Ok.some (Or.inr (Or.inl ⟨⟨fun j h1 h2 => ?_, by rw [hlg1, ← Nat.add_assoc]; exact hbit⟩, rfl, (F3.2.S (by decide)).trans fd1, V3.1⟩)))
          by_cases hj : j = i' + 1
          · subst hj; exact hmat
          · exact hJ j h1 (by omega)
      · refine s_neg (by rw [N_le (by omega) (by omega)]; exact hmat) ?_
        refine s_let (fun x9 hx9 => ?_)
        rw [N_sub (by omega)] at hx9
        subst hx9
        obtain ⟨d, hd⟩ : ∃ d, cv T wh pos (i' + 1) - 2 * Gk ls cnt i' = d := ⟨_, rfl⟩
        rw [hd]
        obtain ⟨v, v1, v2, v3⟩ := cn_ex (ls := ls) (L := i' + 1) cnt d (by omega)
        have hdl : d < 288 := by omega
        refine ok_for 0 cnt (fun t x s4 => x = (N d - N (cn ls (i' + 1) t), N t) ∧ (v < t → gS s4 4081 = N v) ∧ FM [4081] [] s3 s4) ?_ (by omega) (by omega) ⟨by rw [show cn ls (i' + 1) 0 = 0 from rfl, N_sub (Nat.zero_le _), Nat.sub_zero]; rfl, fun h => by omega, FM.rfl F3.1⟩
        rintro t k8 x s4 - ht ⟨rfl, g4, f4⟩ ih2
        by_cases hte : cnt = t
        · subst hte
          refine s_pos (Int32.le_refl _) ?_
          refine s_z (Or.inr rfl) (Ok.some (Or.inl ⟨i' + 1, v, ⟨by omega, by omega, hJ, by omega, hbit⟩, ⟨v1, v2, ?_⟩, rfl, g4 v1, V3.1.fr f4 (by decide) (by decide), (f4.2.J (by decide)).trans V3.2.1, V3.2.2.1, (f4.2.S (by decide)).trans V3.2.2.2⟩))
          rw [v3, Nat.add_sub_cancel, hd]
        · have hct := cn_le (ls := ls) (L := i' + 1) (k := t)
          have hlt15 := hls t (by omega)
          refine s_neg (by rw [N_le (by omega) (by omega)]; omega) ?_
          refine s_R f4.1.2.lengths ?_
          refine s_let (fun x9 hx9 => ?_)
          rw [N_add] at hx9
          subst hx9
          refine s_in rfl (show base + t < 320 by omega) (by omega) ?_
          refine s_ji ?_
          rw [N_nat (by omega), f4.2.B (by decide), hL3 t (by omega)]
          by_cases hlt : ls t = i' + 1
          · refine s_pos (by rw [hlt]) ?_
            have ecn : cn ls (i' + 1) (t + 1) = cn ls (i' + 1) t + 1 := by show cn ls (i' + 1) t + _ = _; rw [if_pos hlt]
            refine s_ji ?_
            have tail : ∀ w, (v < t + 1 → w = N v) → Ok (kf_let (pS s4 (64 * 63 + 49) w) fun σ34 =>
kf_let (N d - N (cn ls (i' + 1) t) + Int32.ofInt (-1)) fun x35 =>
(fun x28 σ29 =>
kf_let (N t + Int32.ofInt 1) fun x30 =>
k8 (x28, x30) σ29) x35 σ34) (fun r => (∃ i v, DA T wh ls cnt m pos i ∧ DV T wh ls cnt pos i v ∧ r.1 = 1 ∧ gS r.2 4081 = N v ∧ VM T m wh ck (pos + i) r.2) ∨ (DB T wh ls cnt m pos ∧ r.1 = 0 ∧ gS r.2 4081 = -1 ∧ VS T m wh ck r.2) ∨ (∃ i, DC T wh ls cnt m pos i ∧ r.1 = 0 ∧ gS r.2 4081 = -2 ∧ FV 20 ck r.2)) := by
              intro w hw
              refine s_let (fun s5 h5 => ?_)
              refine s_let (fun x9 hx9 => ?_)
              rw [sub_m1, ← ecn] at hx9
              subst hx9
              refine s_let (fun x9 hx9 => ?_)
              rw [N_one, N_add] at hx9
              subst hx9
              refine ih2 (by omega) _ _ ⟨rfl, fun hv => ?_, by rw [h5]; exact f4.wS (by decide) _⟩
              rw [h5, gS_eq rfl]
              exact hw hv
            by_cases hz : cn ls (i' + 1) t = d
            · have htv : t = v := DV_inj (ls := ls) (by rw [hlt, v2]) (by rw [hlt, hz, v3])
              refine s_pos (by rw [hz, N_sub (by omega), Nat.sub_self]; rfl) ?_
              exact tail _ (fun _ => by rw [htv])
            · refine s_neg ?_ ?_
              · intro z
                have z2 : N d = N (cn ls (i' + 1) t) := by
                  have := congrArg (fun u => u + N (cn ls (i' + 1) t)) z
                  simp only [Int32.sub_add_cancel] at this
                  rw [this, show (0 : Int32) = N 0 from rfl, N_add, Nat.zero_add]
                exact hz ((N_inj (by omega) (by omega)).mp z2).symm
              · refine tail _ (fun hv => g4 ?_)
                by_cases h9 : v = t
                · subst h9; rw [v3] at hz; exact absurd rfl hz
                · omega
          · refine s_neg (N_ne (by omega) (by omega) hlt) ?_
            have ecn : cn ls (i' + 1) (t + 1) = cn ls (i' + 1) t := by show cn ls (i' + 1) t + _ = _; rw [if_neg hlt, Nat.add_zero]
            refine s_let (fun x9 hx9 => ?_)
            rw [N_one, N_add] at hx9
            subst hx9
            refine ih2 (by omega) _ _ ⟨by rw [ecn], fun hv => g4 ?_, f4⟩
            by_cases h9 : v = t
            · subst h9; exact absurd v2 hlt
            · omega
    · rw [if_neg hbit] at h2
      obtain ⟨h3, h4⟩ := h2
      dsimp only at h3 h4
      subst h3
      refine s_pos rfl ?_
      refine s_let (fun s5 h5 => ?_)
      refine s_z (Or.inl rfl) (Ok.some (Or.inr (Or.inr ⟨i' + 1, ⟨by omega, by omega, hJ, by omega⟩, rfl, ?_, ?_⟩)))
      · rw [h5]; exact gS_eq rfl
      · exact ⟨by rw [h5, gS_ne (by decide)]; exact h4.1, by rw [h5, gS_ne (by decide)]; exact h4.2⟩
