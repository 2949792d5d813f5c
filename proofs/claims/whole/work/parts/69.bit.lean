/-! BITS READ -/
/-- a bit of the packed bytes, and so many of them as a number -/
def bi (T wh : Nat → Nat) (i : Nat) : Nat := (T (wh (i / 8)) >>> (i % 8)) % 2
def nb' (T wh : Nat → Nat) (p : Nat) : Nat → Nat
  | 0 => 0
  | k + 1 => nb' T wh p k ||| (bi T wh (p + k) <<< k)
theorem bi_lt {T wh : Nat → Nat} {i : Nat} : bi T wh i < 2 := Nat.mod_lt _ (by decide)
theorem nb'_lt {T wh : Nat → Nat} {p : Nat} (k : Nat) : nb' T wh p k < 2 ^ k := by
  induction k with
  | zero => exact (by decide : 0 < 2 ^ 0)
  | succ k ih =>
    have h := bi_lt (T := T) (wh := wh) (i := p + k)
    refine Nat.or_lt_two_pow (Nat.lt_of_lt_of_le ih (Nat.pow_le_pow_right (by decide) (by omega))) ?_
    rw [Nat.shiftLeft_eq, Nat.pow_succ]
    have : bi T wh (p + k) * 2 ^ k ≤ 1 * 2 ^ k := Nat.mul_le_mul_right _ (by omega)
    have := Nat.pow_pos (n := k) (show 0 < 2 by decide)
    omega
/-- the packed bytes as the class has them: bytes of the tape at places, the check behind, the bit that is next; no fault yet -/
def US (q : Nat) (T : Nat → Nat) (len m : Nat) (wh : Nat → Nat) (ck : Nat) (s : Mm) : Prop := (PtX s ∧ gR s 707 = some q) ∧ TapeC T len s ∧ m ≤ 65536 ∧ (∀ i, i < m → wh i < len) ∧ gS s 579 = N m ∧ gS s 580 = N ck ∧ ∀ i, i < m → gB s 10 i = N (wh i)
def UC (q : Nat) (T : Nat → Nat) (len m : Nat) (wh : Nat → Nat) (ck pos : Nat) (s : Mm) : Prop := US q T len m wh ck s ∧ gS s 581 = N pos ∧ pos ≤ 8 * m ∧ gS s 320 = N 0
/-- and as the reference has them -/
def VS (T : Nat → Nat) (m : Nat) (wh : Nat → Nat) (ck : Nat) (s : Mm) : Prop := PtX s ∧ m ≤ 65536 ∧ gS s 4060 = N m ∧ gS s 4061 = N ck ∧ (∀ i, i < m → gB s 72 i = N (wh i)) ∧ ∀ i, i < m → gB s 71 i &&& N 255 = N (T (wh i))
def VM (T : Nat → Nat) (m : Nat) (wh : Nat → Nat) (ck pos : Nat) (s : Mm) : Prop := VS T m wh ck s ∧ gJ s 4075 = L pos ∧ pos ≤ 8 * m ∧ gS s 4035 = N 0
def FC (c pl : Nat) (s : Mm) : Prop := gS s 320 = N c ∧ gS s 321 = N pl
def FV (c pl : Nat) (s : Mm) : Prop := gS s 4035 = N c ∧ gS s 4036 = N pl
theorem US.fr {q len m ck : Nat} {T wh : Nat → Nat} {lp la : List Nat} {s s' : Mm} (h : US q T len m wh ck s) (f : FI lp la q s s') (hp : ∀ k ∈ [579, 580, 129], ¬ k ∈ lp) (ha : ∀ a ∈ [10, 3], ¬ a ∈ la) : US q T len m wh ck s' := by
  obtain ⟨h1, h2, h3, h4, h5, h6, h7⟩ := h
  have F := f.2.2
  refine ⟨⟨f.1, f.2.1⟩, ⟨(F.S (hp _ (by decide))).trans h2.1, h2.2.1, h2.2.2.1, fun i hi => by rw [F.B (ha _ (by decide))]; exact h2.2.2.2 i hi⟩, h3, h4, (F.S (hp _ (by decide))).trans h5, (F.S (hp _ (by decide))).trans h6, fun i hi => by rw [F.B (ha _ (by decide))]; exact h7 i hi⟩
theorem VS.fr {m ck : Nat} {T wh : Nat → Nat} {lp la : List Nat} {s s' : Mm} (h : VS T m wh ck s) (f : FM lp la s s') (hp : ∀ k ∈ [4060, 4061], ¬ k ∈ lp) (ha : ∀ a ∈ [72, 71], ¬ a ∈ la) : VS T m wh ck s' := by
  obtain ⟨h1, h2, h3, h4, h5, h6⟩ := h
  have F := f.2
  exact ⟨f.1, h2, (F.S (hp _ (by decide))).trans h3, (F.S (hp _ (by decide))).trans h4, fun i hi => by rw [F.B (ha _ (by decide))]; exact h5 i hi, fun i hi => by rw [F.B (ha _ (by decide))]; exact h6 i hi⟩
theorem bit_of {x : Int32} {t j : Nat} (h : x &&& N 255 = N t) (ht : t < 256) (hj : j < 8) : (x >>> (N j &&& N 31)) &&& N 1 = N ((t >>> j) % 2) := by
  rw [sh31 (by omega)]
  apply Int32.toBitVec_inj.1
  have e : (N j).toBitVec.smod 32 = BitVec.ofNat 32 j := by
    have : j ∈ List.range 8 := List.mem_range.mpr hj
    revert j
    decide
  have hx : (x >>> N j).toBitVec = x.toBitVec.sshiftRight' (BitVec.ofNat 32 j) := by
    show x.toBitVec.sshiftRight' ((N j).toBitVec.smod 32) = _
    rw [e]
  have h2 := congrArg (fun y : Int32 => y.toBitVec.getLsbD j) h
  have hb : x.toBitVec.getLsbD j = t.testBit j := by
    have h3 : (x &&& N 255).toBitVec.getLsbD j = (N t).toBitVec.getLsbD j := h2
    rw [Int32.toBitVec_and, BitVec.getLsbD_and] at h3
    have h4 : (N 255).toBitVec.getLsbD j = true := by
      have h5 : ∀ j, j < 8 → (BitVec.ofNat 32 255).getLsbD j = true := by decide
      exact h5 j hj
    rw [h4, Bool.and_true] at h3
    rw [h3]
    show (BitVec.ofNat 32 t).getLsbD j = _
    rw [BitVec.getLsbD_ofNat]
    simp
    omega
  apply BitVec.eq_of_toNat_eq
  rw [Int32.toBitVec_and, hx]
  show ((x.toBitVec.sshiftRight' (BitVec.ofNat 32 j)) &&& 1#32).toNat = (BitVec.ofNat 32 ((t >>> j) % 2)).toNat
  have hjj : (BitVec.ofNat 32 j).toNat = j := by rw [BitVec.toNat_ofNat, Nat.mod_eq_of_lt (by omega)]
  have hlow : ((x.toBitVec.sshiftRight' (BitVec.ofNat 32 j)) &&& 1#32).toNat = (x.toBitVec.getLsbD j).toNat := by
    rw [BitVec.toNat_and]
    show (x.toBitVec.sshiftRight' (BitVec.ofNat 32 j)).toNat &&& 1 = _
    rw [Nat.and_one_is_mod]
    have e0 : ∀ y : BitVec 32, y.toNat % 2 = (y.getLsbD 0).toNat := fun y => by
      show _ = (y.toNat.testBit 0).toNat
      rw [Nat.toNat_testBit, Nat.pow_zero, Nat.div_one]
    rw [e0]
    show ((x.toBitVec.sshiftRight (BitVec.ofNat 32 j).toNat).getLsbD 0).toNat = _
    rw [hjj, BitVec.getLsbD_sshiftRight]
    simp
    rw [if_pos (show j < 32 by omega)]
  rw [hlow, hb, BitVec.toNat_ofNat, Nat.mod_eq_of_lt (by omega), Nat.shiftRight_eq_div_pow, Nat.toNat_testBit]
theorem c2_some {A X : Type} {a : A} {s : Mm} {g : A → Mm → Option X} : kf_c2 (some (a, s)) g = g a s := rfl
theorem C_num {n q len m ck pos k : Nat} {T wh : Nat → Nat} {x : Int32} {s : Mm} (e : x = N k) (hn : 100 < n) (h : UC q T len m wh ck pos s) (hk : k ≤ 16) : Ok (F_PackedBits_number n 9 x s) (fun r => (if pos + k ≤ 8 * m then r.1 = N (nb' T wh pos k) ∧ UC q T len m wh ck (pos + k) r.2 else r.1 = -1 ∧ FC 20 ck r.2) ∧ FI [320, 321, 581] [] q s r.2) := by
  subst e
  refine Ok.and ?_ (fr_PackedBits_number_9 h.1.1)
  obtain ⟨⟨⟨hX, h7⟩, hT, hm, hw, hc, hk9, hwh⟩, hp, hpm, hf⟩ := id h
  have q1 := hX.1.Packed_tape
  have q2 := hX.1.Tape_bytes
  have q3 := hX.1.Packed_where
  have q4 := hX.1.Packed_fault
  unfold F_PackedBits_number
  by_cases hh : pos + k ≤ 8 * m
  · refine Ok.mono (Q := fun r => r.1 = N (nb' T wh pos k) ∧ UC q T len m wh ck (pos + k) r.2) ?_ (fun r hr => by rw [if_pos hh]; exact hr)
    refine s_pos (by rw [hp, hc, N_add, show (8 : Int32) = N 8 from rfl, N_mul, N_le (by omega) (by omega)]; exact hh) ?_
    refine ok_for 0 k (fun j x s' => x = (N (nb' T wh pos j), N j) ∧ gS s' 581 = N (pos + j) ∧ gS s' 320 = N 0 ∧ FI [581] [] q s s') ?_ (by omega) (by omega) ⟨rfl, hp, hf, ⟨hX, h7, Fr.rfl⟩⟩
    rintro j k9 x s' - hj ⟨rfl, g1, g2, f⟩ ih
    have hU := h.1.fr f (by decide) (by decide)
    by_cases hj2 : k = j
    · subst hj2
      refine s_pos (Int32.le_refl _) (Ok.some ⟨rfl, hU, g1, hh, g2⟩)
    · refine s_neg (by rw [N_le (by omega) (by omega)]; omega) ?_
      obtain ⟨⟨hX', h7'⟩, hT', -, -, -, -, hwh'⟩ := id hU
      refine s_R hX'.1.Packed_tape ?_
      refine s_R hX'.1.Tape_bytes ?_
      refine s_R hX'.1.Packed_where ?_
      refine s_nz (by decide) ?_
      refine s_let (fun x9 hx9 => ?_)
      rw [g1, show (8 : Int32) = N 8 from rfl, N_div (by omega) (by decide)] at hx9
      subst hx9
      refine s_in rfl (show (pos + j) / 8 < 65536 by omega) (by omega) ?_
      have hwl := hw ((pos + j) / 8) (by omega)
      have hlen := hT.2.1
      refine s_let (fun x9 hx9 => ?_)
      rw [N_nat (by omega), hwh' _ (by omega)] at hx9
      subst hx9
      refine s_in rfl (show wh ((pos + j) / 8) < 65536 by omega) (by omega) ?_
      refine s_nz (by decide) ?_
      have hTl := hT.2.2.1 (wh ((pos + j) / 8))
      refine s_let (fun x9 hx9 => ?_)
      rw [N_nat (by omega), hT'.2.2.2 _ hwl, g1, show (8 : Int32) = N 8 from rfl, N_div (by omega) (by decide), N_mul, N_sub (by omega), show (31 : Int32) = N 31 from rfl, N_shr (by omega) (by omega), show (1 : Int32) = N 1 from rfl, N_and, and1, N_shl (by omega), N_or, show pos + j - (pos + j) / 8 * 8 = (pos + j) % 8 by omega] at hx9
      subst hx9
      refine s_let (fun s9 hs9 => ?_)
      have e1 : gS s9 581 = N (pos + (j + 1)) := by rw [hs9, gS_eq rfl, g1, show (1 : Int32) = N 1 from rfl, N_add, Nat.add_assoc]
      have e2 : gS s9 320 = N 0 := by rw [hs9, gS_ne (by decide)]; exact g2
      have e3 : FI [581] [] q s s9 := by rw [hs9]; exact f.wS (by decide) _
      refine s_let (fun x9 hx9 => ?_)
      rw [N_one, N_add] at hx9
      subst hx9
      exact ih (by omega) _ _ ⟨rfl, e1, e2, e3⟩
  · refine Ok.mono (Q := fun r => r.1 = -1 ∧ FC 20 ck r.2) ?_ (fun r hr => by rw [if_neg hh]; exact hr)
    refine s_neg (by rw [hp, hc, N_add, show (8 : Int32) = N 8 from rfl, N_mul, N_le (by omega) (by omega)]; exact hh) ?_
    refine s_R q4 ?_
    refine s_let (fun s1 h1 => ?_)
    refine s_R (o := 5) (by rw [h1]; exact q4) ?_
    refine s_let (fun s2 h2 => ?_)
    refine Ok.some ⟨rfl, ?_, ?_⟩
    · rw [h2, h1, gS_ne (by decide)]; exact gS_eq rfl
    · rw [h2, gS_eq rfl, h1, gS_ne (by decide)]; exact hk9
/-- the place of a bit -/
def plc (m : Nat) (wh : Nat → Nat) (ck i : Nat) : Nat := if 8 * m ≤ i then ck else wh (i / 8)
theorem C_plc {n q len m ck i : Nat} {T wh : Nat → Nat} {x : Int32} {s : Mm} (e : x = N i) (h : US q T len m wh ck s) (hi : i < 1000000) : F_PackedBits_placeOf n 9 x s = some (N (plc m wh ck i), s) := by
  subst e
  obtain ⟨⟨hX, h7⟩, hT, hm, hw, hc, hk9, hwh⟩ := id h
  apply Ok.eq
  unfold F_PackedBits_placeOf plc
  refine s_ji ?_
  by_cases hh : 8 * m ≤ i
  · rw [if_pos hh]
    refine s_pos (by rw [hc, show (8 : Int32) = N 8 from rfl, N_mul, N_le (by omega) (by omega)]; exact hh) (Ok.some (by rw [hk9]))
  · rw [if_neg hh]
    refine s_neg (by rw [hc, show (8 : Int32) = N 8 from rfl, N_mul, N_le (by omega) (by omega)]; exact hh) ?_
    refine s_R hX.1.Packed_where ?_
    refine s_nz (by decide) ?_
    refine s_let (fun x9 hx9 => ?_)
    rw [show (8 : Int32) = N 8 from rfl, N_div (by omega) (by decide)] at hx9
    subst hx9
    refine s_in rfl (show i / 8 < 65536 by omega) (by omega) (Ok.some ?_)
    rw [N_nat (by omega), hwh _ (by omega)]
theorem C_ref {n c pl : Nat} {x y : Int32} {s : Mm} (e1 : x = N c) (e2 : y = N pl) : Ok (F_Fault_refuse n 5 x y s) (fun r => r.1 = 0 ∧ FC c pl r.2) := by
  subst e1 e2
  unfold F_Fault_refuse
  refine s_let (fun s1 h1 => ?_)
  refine s_let (fun s2 h2 => ?_)
  refine s_z (Or.inl rfl) (Ok.some ⟨rfl, ?_, ?_⟩)
  · rw [h2, h1, gS_ne (by decide)]; exact gS_eq rfl
  · rw [h2]; exact gS_eq rfl
theorem M_flaw {n c pl : Nat} {x y : Int32} {s : Mm} (e1 : x = N c) (e2 : y = N pl) : Ok (F_Md_flaw n 63 x y s) (fun r => r.1 = 0 ∧ FV c pl r.2) := by
  subst e1 e2
  unfold F_Md_flaw
  refine s_let (fun s1 h1 => ?_)
  refine s_let (fun s2 h2 => ?_)
  refine s_z (Or.inl rfl) (Ok.some ⟨rfl, ?_, ?_⟩)
  · rw [h2, h1, gS_ne (by decide)]; exact gS_eq rfl
  · rw [h2]; exact gS_eq rfl
theorem M_plc {n m ck i : Nat} {T wh : Nat → Nat} {x : Int64} {s : Mm} (e : x = L i) (h : VS T m wh ck s) (hi : i < 1000000) : F_Md_placeOf n 63 x s = some (N (plc m wh ck i), s) := by
  subst e
  obtain ⟨hX, hm, hc, hk9, hwh, hpk⟩ := id h
  apply Ok.eq
  unfold F_Md_placeOf plc
  refine s_nzl (by decide) ?_
  refine s_ji ?_
  rw [hc, N_long (by omega), show (8 : Int64) = L 8 from rfl, L_div (by omega) (by decide)]
  by_cases hh : 8 * m ≤ i
  · rw [if_pos hh]
    refine s_pos ((lg_ge (by omega) (by omega)).mpr (by omega)) (Ok.some (by rw [hk9]))
  · rw [if_neg hh]
    refine s_neg (by rw [lg_ge (by omega) (by omega)]; omega) ?_
    refine s_R hX.2.placesOf ?_
    refine s_nzl (by decide) ?_
    refine s_let (fun x9 hx9 => ?_)
    rw [L_int] at hx9
    subst hx9
    refine s_in rfl (show i / 8 < 65536 by omega) (by omega) (Ok.some ?_)
    rw [N_nat (by omega), hwh _ (by omega)]
theorem M_has {n m ck pos k : Nat} {T wh : Nat → Nat} {x : Int32} {s : Mm} (e : x = N k) (h : VM T m wh ck pos s) (hk : k ≤ 32) : Ok (F_Md_hasBits n 63 x s) (fun r => if pos + k ≤ 8 * m then r = (1, s) else r.1 = 0 ∧ FV 20 ck r.2) := by
  subst e
  obtain ⟨⟨hX, hm, hc, hk9, hwh, hpk⟩, hp, hpm, hf⟩ := id h
  unfold F_Md_hasBits
  refine s_ji ?_
  refine s_ji ?_
  rw [hc, hp, N_long (by omega), N_long (by omega), L_add, show (8 : Int64) = L 8 from rfl, L_mul]
  by_cases hh : pos + k ≤ 8 * m
  · refine Ok.mono (Q := fun r => r = (1, s)) ?_ (fun r hr => by rw [if_pos hh]; exact hr)
    refine s_pos ((lg_le (by omega) (by omega)).mpr hh) ?_
    exact s_z (Or.inr rfl) (Ok.some rfl)
  · refine Ok.mono (Q := fun r => r.1 = 0 ∧ FV 20 ck r.2) ?_ (fun r hr => by rw [if_neg hh]; exact hr)
    refine s_neg (by rw [lg_le (by omega) (by omega)]; exact hh) ?_
    refine (M_flaw (c := 20) rfl hk9).c2 ?_
    rintro r s1 ⟨h1, h2⟩
    dsimp only at h1 h2
    refine s_pos h1 ?_
    exact s_z (Or.inl rfl) (Ok.some ⟨rfl, h2⟩)
theorem M_bits {n m ck pos k : Nat} {T wh : Nat → Nat} {x : Int32} {s : Mm} (e : x = N k) (hn : 100 < n) (h : VM T m wh ck pos s) (hT : ∀ i, T i < 256) (hk : k ≤ 16) (hh : pos + k ≤ 8 * m) : Ok (F_Md_bits n 63 x s) (fun r => r.1 = N (nb' T wh pos k) ∧ VM T m wh ck (pos + k) r.2 ∧ FM [4075] [] s r.2) := by
  subst e
  obtain ⟨⟨hX, hm, hc, hk9, hwh, hpk⟩, hp, hpm, hf⟩ := id h
  unfold F_Md_bits
  refine ok_for 0 k (fun j x s' => x = (N (nb' T wh pos j), N j) ∧ gJ s' 4075 = L (pos + j) ∧ gS s' 4035 = N 0 ∧ FM [4075] [] s s') ?_ (by omega) (by omega) ⟨rfl, hp, hf, ⟨hX, Fr.rfl⟩⟩
  rintro j k9 x s' - hj ⟨rfl, g1, g2, f⟩ ih
  have hU := h.1.fr f (by decide) (by decide)
  by_cases hj2 : k = j
  · subst hj2
    refine s_pos (Int32.le_refl _) (Ok.some ⟨rfl, ⟨hU, g1, hh, g2⟩, f⟩)
  · refine s_neg (by rw [N_le (by omega) (by omega)]; omega) ?_
    obtain ⟨hX', -, -, -, -, hpk'⟩ := id hU
    refine s_R hX'.2.packed ?_
    refine s_nzl (by decide) ?_
    refine s_let (fun x9 hx9 => ?_)
    rw [g1, show (8 : Int64) = L 8 from rfl, L_div (by omega) (by decide), L_int] at hx9
    subst hx9
    refine s_in rfl (show (pos + j) / 8 < 65536 by omega) (by omega) ?_
    refine s_nzl (by decide) ?_
    refine s_let (fun x9 hx9 => ?_)
    rw [N_nat (by omega), g1, show (8 : Int64) = L 8 from rfl, L_div (by omega) (by decide), L_mul, L_sub (by omega), L_int, show (31 : Int32) = N 31 from rfl, show (1 : Int32) = N 1 from rfl, show pos + j - (pos + j) / 8 * 8 = (pos + j) % 8 by omega, bit_of (hpk' _ (by omega)) (hT _) (Nat.mod_lt _ (by decide)), N_shl (by omega), N_or] at hx9
    subst hx9
    refine s_let (fun s9 hs9 => ?_)
    have e1 : gJ s9 4075 = L (pos + (j + 1)) := by rw [hs9, gJ_eq rfl, g1, show (1 : Int64) = L 1 from rfl, L_add, Nat.add_assoc]
    have e2 : gS s9 4035 = N 0 := by rw [hs9]; exact g2
    have e3 : FM [4075] [] s s9 := by rw [hs9]; exact f.wJ (by decide) _
    refine s_let (fun x9 hx9 => ?_)
    rw [N_one, N_add] at hx9
    subst hx9
    exact ih (by omega) _ _ ⟨rfl, e1, e2, e3⟩
