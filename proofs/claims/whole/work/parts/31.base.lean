/-! MATHEMATICS OF THE FUNCTIONS. Numbers: N k is the int of a natural number. -/
def N (k : Nat) : Int32 := Int32.ofNat k
theorem N_lit (n : Nat) : (OfNat.ofNat n : Int32) = N (OfNat.ofNat n) := id rfl
theorem N_ofInt (n : Nat) : Int32.ofInt (OfNat.ofNat n) = N (OfNat.ofNat n) := Int32.ofInt_eq_ofNat
theorem N_one : Int32.ofInt 1 = N 1 := by decide
theorem N_i7 : Int32.ofInt 7 = N 7 := by decide
theorem N_i2 : Int32.ofInt 2 = N 2 := by decide
theorem N_i3 : Int32.ofInt 3 = N 3 := by decide
theorem N_ofNat (n : Nat) : Int32.ofNat n = N n := id rfl
theorem N_add (a b : Nat) : N a + N b = N (a + b) := (Int32.ofNat_add a b).symm
theorem N_mul (a b : Nat) : N a * N b = N (a * b) := (Int32.ofNat_mul a b).symm
theorem N_sub {a b : Nat} (h : b ≤ a) : N a - N b = N (a - b) := (Int32.ofNat_sub a b h).symm
theorem N_toInt {a : Nat} (h : a < 2147483648) : (N a).toInt = a := Int32.toInt_ofNat_of_lt h
theorem N_lt {a b : Nat} (ha : a < 2147483648) (hb : b < 2147483648) : N a < N b ↔ a < b := Int32.ofNat_lt_iff_lt ha hb
theorem N_le {a b : Nat} (ha : a < 2147483648) (hb : b < 2147483648) : N a ≤ N b ↔ a ≤ b := Int32.ofNat_le_iff_le ha hb
theorem N_inj {a b : Nat} (ha : a < 4294967296) (hb : b < 4294967296) : N a = N b ↔ a = b := by
  constructor
  · intro h
    have := congrArg (fun x => x.toBitVec.toNat) h
    simp only [N] at this
    have e : ∀ k : Nat, k < 4294967296 → (Int32.ofNat k).toBitVec.toNat = k := fun k hk => by
      show (BitVec.ofNat 32 k).toNat = k
      rw [BitVec.toNat_ofNat]; exact Nat.mod_eq_of_lt hk
    rw [e a ha, e b hb] at this
    exact this
  · intro h; rw [h]
theorem N_nat {a : Nat} (h : a < 2147483648) : (N a).toNatClampNeg = a := Int32.toNatClampNeg_ofNat_of_lt h
theorem N_and (a b : Nat) : N a &&& N b = N (a &&& b) := by
  apply Int32.toBitVec_inj.1
  simp [N, Int32.toBitVec_and]
theorem N_or (a b : Nat) : N a ||| N b = N (a ||| b) := by
  apply Int32.toBitVec_inj.1
  simp [N, Int32.toBitVec_or]
theorem N_xor (a b : Nat) : N a ^^^ N b = N (a ^^^ b) := by
  apply Int32.toBitVec_inj.1
  simp [N, Int32.toBitVec_xor]
theorem N_div {a b : Nat} (ha : a < 2147483648) (hb : b < 2147483648) : N a / N b = N (a / b) := by
  apply Int32.toInt_inj.1
  have hq : a / b < 2147483648 := Nat.lt_of_le_of_lt (Nat.div_le_self _ _) ha
  rw [Int32.toInt_div, N_toInt ha, N_toInt hb, N_toInt hq]
  rw [← Int.ofNat_tdiv]
  generalize a / b = q at hq ⊢
  apply Int.bmod_eq_of_le <;> omega
/-- an int that isn't below 0 -/
theorem N_of {x : Int32} (h : 0 ≤ x) : ∃ k, k < 2147483648 ∧ x = N k := by
  refine ⟨x.toNatClampNeg, Int32.toNatClampNeg_lt x, ?_⟩
  have h2 : x.toInt = x.toNatClampNeg := by
    have h3 : 0 ≤ x.toInt := by
      have := Int32.le_iff_toInt_le.mp h
      simpa using this
    rw [← Int32.toNat_toInt]
    omega
  apply Int32.toInt_inj.1
  rw [N_toInt (Int32.toNatClampNeg_lt x)]
  exact h2
theorem N_nonneg {a : Nat} (h : a < 2147483648) : 0 ≤ N a := (show N 0 ≤ N a from (N_le (by decide) h).mpr (Nat.zero_le _))
theorem N_neg {a : Nat} (h : a < 2147483648) : ¬ N a < 0 := by
  rw [N_lit, N_lt h (by decide)]; exact Nat.not_lt_zero _
theorem sh31 {k : Nat} (h : k < 32) : (N k &&& N 31) = N k := by
  rw [N_and, show (31 : Nat) = 2 ^ 5 - 1 from rfl, Nat.and_two_pow_sub_one_eq_mod, Nat.mod_eq_of_lt (by omega)]
theorem N_shl {a k : Nat} (hk : k < 32) : N a <<< (N k &&& N 31) = N (a <<< k) := by
  rw [sh31 hk]
  apply Int32.toBitVec_inj.1
  have e : (N k).toBitVec.smod 32 = BitVec.ofNat 32 k := by
    have : k ∈ List.range 32 := List.mem_range.mpr hk
    revert k
    decide
  show (N a).toBitVec <<< ((N k).toBitVec.smod 32) = _
  rw [e]
  apply BitVec.eq_of_toNat_eq
  simp [N, Nat.shiftLeft_eq, Nat.mod_eq_of_lt (show k < 4294967296 by omega)]
theorem N_shr {a k : Nat} (ha : a < 2147483648) (hk : k < 32) : N a >>> (N k &&& N 31) = N (a >>> k) := by
  rw [sh31 hk]
  apply Int32.toInt_inj.1
  have e : (N k).toBitVec.smod 32 = BitVec.ofNat 32 k := by
    revert k
    decide
  have h1 : (N a >>> N k).toBitVec = (N a).toBitVec.sshiftRight' (BitVec.ofNat 32 k) := by
    show (N a).toBitVec.sshiftRight' ((N k).toBitVec.smod 32) = _
    rw [e]
  have hq : a >>> k < 2147483648 := by
    rw [Nat.shiftRight_eq_div_pow]
    exact Nat.lt_of_le_of_lt (Nat.div_le_self _ _) ha
  rw [N_toInt hq, ← Int32.toInt_toBitVec, h1]
  show ((N a).toBitVec.sshiftRight (BitVec.ofNat 32 k).toNat).toInt = _
  rw [BitVec.toInt_sshiftRight, Int32.toInt_toBitVec, N_toInt ha, BitVec.toNat_ofNat, Nat.mod_eq_of_lt (show k < 2 ^ 32 by omega)]
  rfl
/-- longs -/
def L (k : Nat) : Int64 := Int64.ofNat k
theorem L_lit (n : Nat) : (OfNat.ofNat n : Int64) = L (OfNat.ofNat n) := id rfl
theorem L_add (a b : Nat) : L a + L b = L (a + b) := (Int64.ofNat_add a b).symm
theorem L_mul (a b : Nat) : L a * L b = L (a * b) := (Int64.ofNat_mul a b).symm
theorem L_sub {a b : Nat} (h : b ≤ a) : L a - L b = L (a - b) := (Int64.ofNat_sub a b h).symm
theorem L_toInt {a : Nat} (h : a < 9223372036854775808) : (L a).toInt = a := Int64.toInt_ofNat_of_lt h
theorem L_lt {a b : Nat} (ha : a < 9223372036854775808) (hb : b < 9223372036854775808) : L a < L b ↔ a < b := Int64.ofNat_lt_iff_lt ha hb
theorem L_le {a b : Nat} (ha : a < 9223372036854775808) (hb : b < 9223372036854775808) : L a ≤ L b ↔ a ≤ b := Int64.ofNat_le_iff_le ha hb
theorem L_inj {a b : Nat} (ha : a < 9223372036854775808) (hb : b < 9223372036854775808) : L a = L b ↔ a = b := by
  constructor
  · intro h
    have := congrArg Int64.toInt h
    rw [L_toInt ha, L_toInt hb] at this
    omega
  · intro h; rw [h]
theorem L_div {a b : Nat} (ha : a < 9223372036854775808) (hb : b < 9223372036854775808) : L a / L b = L (a / b) := by
  apply Int64.toInt_inj.1
  have hq : a / b < 9223372036854775808 := Nat.lt_of_le_of_lt (Nat.div_le_self _ _) ha
  rw [Int64.toInt_div, L_toInt ha, L_toInt hb, L_toInt hq]
  rw [← Int.ofNat_tdiv]
  generalize a / b = q at hq ⊢
  apply Int.bmod_eq_of_le <;> omega
theorem L_int (a : Nat) : (L a).toInt32 = N a := by
  apply Int32.toBitVec_inj.1
  show (BitVec.ofNat 64 a).signExtend 32 = BitVec.ofNat 32 a
  rw [BitVec.signExtend_eq_setWidth_of_le _ (by decide)]
  apply BitVec.eq_of_toNat_eq
  simp
theorem N_long {a : Nat} (h : a < 2147483648) : (N a).toInt64 = L a := by
  apply Int64.toInt_inj.1
  rw [Int32.toInt_toInt64, N_toInt h, L_toInt (by omega)]
theorem lg_le {a b : Nat} (ha : a < 9223372036854775808) (hb : b < 9223372036854775808) : lg_cmp (L a) (L b) ≤ 0 ↔ a ≤ b := by
  unfold lg_cmp
  simp only [gt_iff_lt, L_lt hb ha, L_inj ha hb]
  by_cases h1 : b < a
  · rw [if_pos h1]; constructor
    · intro h; exact absurd h (by decide)
    · intro h; omega
  · rw [if_neg h1]
    constructor
    · intro _; omega
    · intro _; split <;> decide
theorem lg_lt {a b : Nat} (ha : a < 9223372036854775808) (hb : b < 9223372036854775808) : lg_cmp (L a) (L b) < 0 ↔ a < b := by
  unfold lg_cmp
  simp only [gt_iff_lt, L_lt hb ha, L_inj ha hb]
  by_cases h1 : b < a
  · rw [if_pos h1]; constructor
    · intro h; exact absurd h (by decide)
    · intro h; omega
  · rw [if_neg h1]
    by_cases h2 : a = b
    · rw [if_pos h2]; constructor
      · intro h; exact absurd h (by decide)
      · intro h; omega
    · rw [if_neg h2]; constructor
      · intro _; omega
      · intro _; decide
theorem lg_ge {a b : Nat} (ha : a < 9223372036854775808) (hb : b < 9223372036854775808) : 0 ≤ lg_cmp (L a) (L b) ↔ b ≤ a := by
  rw [← Int32.not_lt, lg_lt ha hb]; omega
theorem lg_gt {a b : Nat} (ha : a < 9223372036854775808) (hb : b < 9223372036854775808) : 0 < lg_cmp (L a) (L b) ↔ b < a := by
  rw [← Int32.not_le, lg_le ha hb]; omega
theorem lg_eq {a b : Nat} (ha : a < 9223372036854775808) (hb : b < 9223372036854775808) : lg_cmp (L a) (L b) = 0 ↔ a = b := by
  have h1 := lg_le ha hb
  have h2 := lg_ge ha hb
  constructor
  · intro h
    rw [h] at h1 h2
    have := h1.mp (by decide); have := h2.mp (by decide); omega
  · intro h
    exact Int32.le_antisymm (h1.mpr (by omega)) (h2.mpr (by omega))
theorem lg_le' {a b : Nat} (ha : a < 9223372036854775808) (hb : b < 9223372036854775808) : lg_cmp (L a) (L b) ≤ N 0 ↔ a ≤ b := lg_le ha hb
theorem lg_lt' {a b : Nat} (ha : a < 9223372036854775808) (hb : b < 9223372036854775808) : lg_cmp (L a) (L b) < N 0 ↔ a < b := lg_lt ha hb
theorem lg_ge' {a b : Nat} (ha : a < 9223372036854775808) (hb : b < 9223372036854775808) : N 0 ≤ lg_cmp (L a) (L b) ↔ b ≤ a := lg_ge ha hb
theorem lg_gt' {a b : Nat} (ha : a < 9223372036854775808) (hb : b < 9223372036854775808) : N 0 < lg_cmp (L a) (L b) ↔ b < a := lg_gt ha hb
theorem lg_eq' {a b : Nat} (ha : a < 9223372036854775808) (hb : b < 9223372036854775808) : lg_cmp (L a) (L b) = N 0 ↔ a = b := lg_eq ha hb
/-- a function of the law gives something, of a kind -/
def Ok {X : Type} (f : Option X) (Q : X → Prop) : Prop := ∃ x, f = some x ∧ Q x
theorem Ok.some {X : Type} {x : X} {Q : X → Prop} (h : Q x) : Ok (some x) Q := ⟨x, rfl, h⟩
theorem Ok.mono {X : Type} {f : Option X} {Q Q' : X → Prop} (h : Ok f Q) (hq : ∀ x, Q x → Q' x) : Ok f Q' := by
  obtain ⟨x, e, h⟩ := h; exact ⟨x, e, hq x h⟩
theorem Ok.bind {X Y : Type} {f : Option X} {g : X → Option Y} {R : X → Prop} {Q : Y → Prop} (h : Ok f R) (k : ∀ x, R x → Ok (g x) Q) : Ok (f.bind g) Q := by
  obtain ⟨x, e, h⟩ := h
  rw [e]
  exact k x h
theorem Ok.c2 {A Y : Type} {f : Option (A × Mm)} {g : A → Mm → Option Y} {R : A × Mm → Prop} {Q : Y → Prop} (h : Ok f R) (k : ∀ r σ, R (r, σ) → Ok (g r σ) Q) : Ok (kf_c2 f g) Q := by
  obtain ⟨⟨r, σ⟩, e, h⟩ := h
  unfold kf_c2
  rw [e]
  exact k r σ h
theorem ok_in {i n : Nat} {X : Type} {f : Option X} (h : i < n) (hi : i < 2147483648) : kf_in (N i) n f = f := by
  unfold kf_in
  rw [if_neg]
  rw [N_nat hi]
  intro z
  rcases z with z | z
  · exact N_neg hi z
  · omega
theorem ok_nz {i : Int32} {X : Type} {f : Option X} (h : i ≠ 0) : kf_nz i f = f := if_neg h
/-- a loop, by what stays and a bound of the turns left -/
theorem ok_l {α X : Type} {b : (α → Mm → Option X) → α → Mm → Option X} {Q : X → Prop} (Inv : Nat → α → Mm → Prop) (hb : ∀ m k a σ, Inv m a σ → (∀ m' a' σ', m' < m → Inv m' a' σ' → Ok (k a' σ') Q) → Ok (b k a σ) Q) : ∀ n m a σ, m < n → Inv m a σ → Ok (kf_l n b a σ) Q := by
  intro n
  induction n with
  | zero => intro m a σ h; omega
  | succ n ih =>
    intro m a σ h hI
    exact hb m (kf_l n b) a σ hI (fun m' a' σ' h' hI' => ih m' a' σ' (by omega) hI')
/-- reads behind writes of other kinds -/
theorem gS_pJ' {σ : Mm} {k j : Nat} {v : Int64} : gS (pJ σ k v) j = gS σ j := id rfl
theorem gS_pR' {σ : Mm} {k j : Nat} {v : Option Nat} : gS (pR σ k v) j = gS σ j := id rfl
theorem gS_pB' {σ : Mm} {a i j : Nat} {v : Int32} : gS (pB σ a i v) j = gS σ j := id rfl
theorem gS_pK' {σ : Mm} {a i j : Nat} {v : Int64} : gS (pK σ a i v) j = gS σ j := id rfl
theorem gJ_pS' {σ : Mm} {k j : Nat} {v : Int32} : gJ (pS σ k v) j = gJ σ j := id rfl
theorem gJ_pR' {σ : Mm} {k j : Nat} {v : Option Nat} : gJ (pR σ k v) j = gJ σ j := id rfl
theorem gJ_pB' {σ : Mm} {a i j : Nat} {v : Int32} : gJ (pB σ a i v) j = gJ σ j := id rfl
theorem gJ_pK' {σ : Mm} {a i j : Nat} {v : Int64} : gJ (pK σ a i v) j = gJ σ j := id rfl
theorem gR_pS' {σ : Mm} {k j : Nat} {v : Int32} : gR (pS σ k v) j = gR σ j := id rfl
theorem gR_pJ' {σ : Mm} {k j : Nat} {v : Int64} : gR (pJ σ k v) j = gR σ j := id rfl
theorem gR_pB' {σ : Mm} {a i j : Nat} {v : Int32} : gR (pB σ a i v) j = gR σ j := id rfl
theorem gR_pK' {σ : Mm} {a i j : Nat} {v : Int64} : gR (pK σ a i v) j = gR σ j := id rfl
theorem gB_pS' {σ : Mm} {k a : Nat} {v : Int32} : gB (pS σ k v) a = gB σ a := id rfl
theorem gB_pJ' {σ : Mm} {k a : Nat} {v : Int64} : gB (pJ σ k v) a = gB σ a := id rfl
theorem gB_pR' {σ : Mm} {k a : Nat} {v : Option Nat} : gB (pR σ k v) a = gB σ a := id rfl
theorem gB_pK' {σ : Mm} {a b i : Nat} {v : Int64} : gB (pK σ a i v) b = gB σ b := id rfl
theorem gK_pS' {σ : Mm} {k a : Nat} {v : Int32} : gK (pS σ k v) a = gK σ a := id rfl
theorem gK_pJ' {σ : Mm} {k a : Nat} {v : Int64} : gK (pJ σ k v) a = gK σ a := id rfl
theorem gK_pR' {σ : Mm} {k a : Nat} {v : Option Nat} : gK (pR σ k v) a = gK σ a := id rfl
theorem gK_pB' {σ : Mm} {a b i : Nat} {v : Int32} : gK (pB σ a i v) b = gK σ b := id rfl
/-- reads behind writes, with conditions -/
theorem gS_eq {σ : Mm} {k j : Nat} {v : Int32} (h : j = k) : gS (pS σ k v) j = v := if_pos h
theorem gS_ne {σ : Mm} {k j : Nat} {v : Int32} (h : ¬ j = k) : gS (pS σ k v) j = gS σ j := if_neg h
theorem gJ_eq {σ : Mm} {k j : Nat} {v : Int64} (h : j = k) : gJ (pJ σ k v) j = v := if_pos h
theorem gJ_ne {σ : Mm} {k j : Nat} {v : Int64} (h : ¬ j = k) : gJ (pJ σ k v) j = gJ σ j := if_neg h
theorem gR_eq {σ : Mm} {k j : Nat} {v : Option Nat} (h : j = k) : gR (pR σ k v) j = v := if_pos h
theorem gR_ne {σ : Mm} {k j : Nat} {v : Option Nat} (h : ¬ j = k) : gR (pR σ k v) j = gR σ j := if_neg h
theorem gB_eq {σ : Mm} {a b i : Nat} {v : Int32} (h : b = a) : gB (pB σ a i v) b = upd (gB σ a) i v := if_pos h
theorem gB_ne {σ : Mm} {a b i : Nat} {v : Int32} (h : ¬ b = a) : gB (pB σ a i v) b = gB σ b := if_neg h
theorem gK_eq {σ : Mm} {a b i : Nat} {v : Int64} (h : b = a) : gK (pK σ a i v) b = vp_updL (gK σ a) i v := if_pos h
theorem gK_ne {σ : Mm} {a b i : Nat} {v : Int64} (h : ¬ b = a) : gK (pK σ a i v) b = gK σ b := if_neg h
/-- the memory as it was, but for places and arrays -/
def Fr (P A : Nat → Prop) (σ σ' : Mm) : Prop := (∀ k, ¬ P k → gS σ' k = gS σ k ∧ gJ σ' k = gJ σ k ∧ gR σ' k = gR σ k) ∧ ∀ a, ¬ A a → gB σ' a = gB σ a ∧ gK σ' a = gK σ a
theorem Fr.rfl {P A : Nat → Prop} {σ : Mm} : Fr P A σ σ := ⟨fun _ _ => ⟨Eq.refl _, Eq.refl _, Eq.refl _⟩, fun _ _ => ⟨Eq.refl _, Eq.refl _⟩⟩
theorem Fr.trans {P A : Nat → Prop} {σ σ1 σ2 : Mm} (h1 : Fr P A σ σ1) (h2 : Fr P A σ1 σ2) : Fr P A σ σ2 :=
  ⟨fun k hk => ⟨(h2.1 k hk).1.trans (h1.1 k hk).1, (h2.1 k hk).2.1.trans (h1.1 k hk).2.1, (h2.1 k hk).2.2.trans (h1.1 k hk).2.2⟩, fun a ha => ⟨(h2.2 a ha).1.trans (h1.2 a ha).1, (h2.2 a ha).2.trans (h1.2 a ha).2⟩⟩
theorem Fr.mono {P A P' A' : Nat → Prop} {σ σ' : Mm} (h : Fr P A σ σ') (hP : ∀ k, P k → P' k) (hA : ∀ a, A a → A' a) : Fr P' A' σ σ' := ⟨fun k hk => h.1 k (fun z => hk (hP k z)), fun a ha => h.2 a (fun z => ha (hA a z))⟩
theorem Fr.S {P A : Nat → Prop} {σ σ' : Mm} (h : Fr P A σ σ') {k : Nat} (hk : ¬ P k) : gS σ' k = gS σ k := (h.1 k hk).1
theorem Fr.J {P A : Nat → Prop} {σ σ' : Mm} (h : Fr P A σ σ') {k : Nat} (hk : ¬ P k) : gJ σ' k = gJ σ k := (h.1 k hk).2.1
theorem Fr.R {P A : Nat → Prop} {σ σ' : Mm} (h : Fr P A σ σ') {k : Nat} (hk : ¬ P k) : gR σ' k = gR σ k := (h.1 k hk).2.2
theorem Fr.B {P A : Nat → Prop} {σ σ' : Mm} (h : Fr P A σ σ') {a : Nat} (ha : ¬ A a) : gB σ' a = gB σ a := (h.2 a ha).1
theorem Fr.K {P A : Nat → Prop} {σ σ' : Mm} (h : Fr P A σ σ') {a : Nat} (ha : ¬ A a) : gK σ' a = gK σ a := (h.2 a ha).2
theorem Fr.wS {P A : Nat → Prop} {σ σ' : Mm} (h : Fr P A σ σ') {k : Nat} (hk : P k) (v : Int32) : Fr P A σ (pS σ' k v) := ⟨fun j hj => ⟨(gS_ne (fun (e : j = k) => hj (by rw [e]; exact hk))).trans (h.1 j hj).1, (h.1 j hj).2⟩, h.2⟩
theorem Fr.wJ {P A : Nat → Prop} {σ σ' : Mm} (h : Fr P A σ σ') {k : Nat} (hk : P k) (v : Int64) : Fr P A σ (pJ σ' k v) := ⟨fun j hj => ⟨(h.1 j hj).1, (gJ_ne (fun (e : j = k) => hj (by rw [e]; exact hk))).trans (h.1 j hj).2.1, (h.1 j hj).2.2⟩, h.2⟩
theorem Fr.wR {P A : Nat → Prop} {σ σ' : Mm} (h : Fr P A σ σ') {k : Nat} (hk : P k) (v : Option Nat) : Fr P A σ (pR σ' k v) := ⟨fun j hj => ⟨(h.1 j hj).1, (h.1 j hj).2.1, (gR_ne (fun (e : j = k) => hj (by rw [e]; exact hk))).trans (h.1 j hj).2.2⟩, h.2⟩
theorem Fr.wB {P A : Nat → Prop} {σ σ' : Mm} (h : Fr P A σ σ') {a : Nat} (ha : A a) (i : Nat) (v : Int32) : Fr P A σ (pB σ' a i v) := ⟨h.1, fun b hb => ⟨(gB_ne (fun (e : b = a) => hb (by rw [e]; exact ha))).trans (h.2 b hb).1, (h.2 b hb).2⟩⟩
theorem Fr.wK {P A : Nat → Prop} {σ σ' : Mm} (h : Fr P A σ σ') {a : Nat} (ha : A a) (i : Nat) (v : Int64) : Fr P A σ (pK σ' a i v) := ⟨h.1, fun b hb => ⟨(h.2 b hb).1, (gK_ne (fun (e : b = a) => hb (by rw [e]; exact ha))).trans (h.2 b hb).2⟩⟩
theorem gR_nwn {σ : Mm} {o k : Nat} (h : ¬ k / 64 = o) : gR (mm_nw σ o) k = gR σ k := if_neg h
theorem gS_nwn {σ : Mm} {o k : Nat} (h : ¬ k / 64 = o) : gS (mm_nw σ o) k = gS σ k := if_neg h
theorem Fr.wN {P A : Nat → Prop} {σ σ' : Mm} (h : Fr P A σ σ') {o : Nat} (hP : ∀ k, k / 64 = o → P k) (hA : A o) : Fr P A σ (mm_nw σ' o) := by
  refine ⟨fun j hj => ?_, fun b hb => ?_⟩
  · have hn : ¬ j / 64 = o := fun e => hj (hP j e)
    exact ⟨(if_neg hn).trans (h.1 j hj).1, (if_neg hn).trans (h.1 j hj).2.1, (if_neg hn).trans (h.1 j hj).2.2⟩
  · have hn : ¬ b = o := fun e => hb (by rw [e]; exact hA)
    exact ⟨(if_neg hn).trans (h.2 b hb).1, (if_neg hn).trans (h.2 b hb).2⟩
theorem upd_eq {f : Nat → Int32} {i j : Nat} {v : Int32} (h : j = i) : upd f i v j = v := if_pos h
theorem upd_ne {f : Nat → Int32} {i j : Nat} {v : Int32} (h : ¬ j = i) : upd f i v j = f j := if_neg h
theorem kd_3 : (mm_kd 3).2.2 = 65536 := by decide +kernel
theorem kd_4 : (mm_kd 4).2.2 = 256 := by decide +kernel
theorem kd_7 : (mm_kd 7).2.2 = 32888 := by decide +kernel
theorem kd_8 : (mm_kd 8).2.2 = 32888 := by decide +kernel
theorem kd_10 : (mm_kd 10).2.2 = 65536 := by decide +kernel
theorem kd_14 : (mm_kd 14).2.2 = 16 := by decide +kernel
theorem kd_15 : (mm_kd 15).2.2 = 288 := by decide +kernel
theorem kd_16 : (mm_kd 16).2.2 = 16 := by decide +kernel
theorem kd_18 : (mm_kd 18).2.2 = 16 := by decide +kernel
theorem kd_19 : (mm_kd 19).2.2 = 288 := by decide +kernel
theorem kd_20 : (mm_kd 20).2.2 = 16 := by decide +kernel
theorem kd_22 : (mm_kd 22).2.2 = 16 := by decide +kernel
theorem kd_23 : (mm_kd 23).2.2 = 288 := by decide +kernel
theorem kd_24 : (mm_kd 24).2.2 = 16 := by decide +kernel
theorem kd_26 : (mm_kd 26).2.2 = 16 := by decide +kernel
theorem kd_27 : (mm_kd 27).2.2 = 288 := by decide +kernel
theorem kd_28 : (mm_kd 28).2.2 = 16 := by decide +kernel
theorem kd_30 : (mm_kd 30).2.2 = 16 := by decide +kernel
theorem kd_31 : (mm_kd 31).2.2 = 288 := by decide +kernel
theorem kd_32 : (mm_kd 32).2.2 = 16 := by decide +kernel
theorem kd_33 : (mm_kd 33).2.2 = 320 := by decide +kernel
theorem kd_36 : (mm_kd 36).2.2 = 4096 := by decide +kernel
theorem kd_37 : (mm_kd 37).2.2 = 32888 := by decide +kernel
theorem kd_39 : (mm_kd 39).2.2 = 16384 := by decide +kernel
theorem kd_40 : (mm_kd 40).2.2 = 768 := by decide +kernel
theorem kd_41 : (mm_kd 41).2.2 = 256 := by decide +kernel
theorem kd_43 : (mm_kd 43).2.2 = 120 := by decide +kernel
theorem kd_44 : (mm_kd 44).2.2 = 120 := by decide +kernel
theorem kd_45 : (mm_kd 45).2.2 = 120 := by decide +kernel
theorem kd_46 : (mm_kd 46).2.2 = 120 := by decide +kernel
theorem kd_47 : (mm_kd 47).2.2 = 120 := by decide +kernel
theorem kd_48 : (mm_kd 48).2.2 = 120 := by decide +kernel
theorem kd_49 : (mm_kd 49).2.2 = 120 := by decide +kernel
theorem kd_51 : (mm_kd 51).2.2 = 16384 := by decide +kernel
theorem kd_52 : (mm_kd 52).2.2 = 768 := by decide +kernel
theorem kd_53 : (mm_kd 53).2.2 = 256 := by decide +kernel
theorem kd_55 : (mm_kd 55).2.2 = 120 := by decide +kernel
theorem kd_56 : (mm_kd 56).2.2 = 120 := by decide +kernel
theorem kd_57 : (mm_kd 57).2.2 = 120 := by decide +kernel
theorem kd_58 : (mm_kd 58).2.2 = 120 := by decide +kernel
theorem kd_59 : (mm_kd 59).2.2 = 120 := by decide +kernel
theorem kd_60 : (mm_kd 60).2.2 = 120 := by decide +kernel
theorem kd_61 : (mm_kd 61).2.2 = 120 := by decide +kernel
theorem kd_62 : (mm_kd 62).2.2 = 1 := by decide +kernel
theorem kd_64 : (mm_kd 64).2.2 = 65536 := by decide +kernel
theorem kd_65 : (mm_kd 65).2.2 = 16384 := by decide +kernel
theorem kd_66 : (mm_kd 66).2.2 = 768 := by decide +kernel
theorem kd_67 : (mm_kd 67).2.2 = 256 := by decide +kernel
theorem kd_68 : (mm_kd 68).2.2 = 16384 := by decide +kernel
theorem kd_69 : (mm_kd 69).2.2 = 768 := by decide +kernel
theorem kd_70 : (mm_kd 70).2.2 = 256 := by decide +kernel
theorem kd_71 : (mm_kd 71).2.2 = 65536 := by decide +kernel
theorem kd_72 : (mm_kd 72).2.2 = 65536 := by decide +kernel
theorem kd_73 : (mm_kd 73).2.2 = 40000 := by decide +kernel
theorem kd_74 : (mm_kd 74).2.2 = 256 := by decide +kernel
theorem kd_75 : (mm_kd 75).2.2 = 256 := by decide +kernel
theorem kd_76 : (mm_kd 76).2.2 = 256 := by decide +kernel
theorem kd_77 : (mm_kd 77).2.2 = 256 := by decide +kernel
theorem kd_78 : (mm_kd 78).2.2 = 256 := by decide +kernel
theorem kd_79 : (mm_kd 79).2.2 = 320 := by decide +kernel
theorem kd_80 : (mm_kd 80).2.2 = 320 := by decide +kernel
theorem kd_81 : (mm_kd 81).2.2 = 16 := by decide +kernel
theorem kd_100 : (mm_kd 100).2.2 = 8 := by decide +kernel
theorem kd_101 : (mm_kd 101).2.2 = 8 := by decide +kernel
theorem kd_102 : (mm_kd 102).2.2 = 8 := by decide +kernel
theorem kd_103 : (mm_kd 103).2.2 = 8 := by decide +kernel
theorem kd_104 : (mm_kd 104).2.2 = 8 := by decide +kernel
theorem kd_105 : (mm_kd 105).2.2 = 29 := by decide +kernel
theorem kd_106 : (mm_kd 106).2.2 = 29 := by decide +kernel
theorem kd_107 : (mm_kd 107).2.2 = 30 := by decide +kernel
theorem kd_108 : (mm_kd 108).2.2 = 30 := by decide +kernel
theorem kd_109 : (mm_kd 109).2.2 = 19 := by decide +kernel
/-! STEPS -/
theorem s_let {α X : Type} {a : α} {g : α → Option X} {Q : X → Prop} (h : ∀ x, x = a → Ok (g x) Q) : Ok (kf_let a g) Q := h a rfl
theorem s_j {α X : Type} {j : α → Mm → Option X} {b : (α → Mm → Option X) → Option X} {Q : X → Prop} (h : ∀ k, k = j → Ok (b k) Q) : Ok (kf_j j b) Q := h j rfl
theorem s_if {X : Type} {c : Prop} [Decidable c] {a b : Option X} {Q : X → Prop} (h1 : c → Ok a Q) (h2 : ¬ c → Ok b Q) : Ok (if c then a else b) Q := by
  by_cases h : c
  · rw [if_pos h]; exact h1 h
  · rw [if_neg h]; exact h2 h
theorem s_pos {X : Type} {c : Prop} [Decidable c] {a b : Option X} {Q : X → Prop} (hc : c) (h : Ok a Q) : Ok (if c then a else b) Q := by rw [if_pos hc]; exact h
theorem s_neg {X : Type} {c : Prop} [Decidable c] {a b : Option X} {Q : X → Prop} (hc : ¬ c) (h : Ok b Q) : Ok (if c then a else b) Q := by rw [if_neg hc]; exact h
theorem s_R {X : Type} {σ : Mm} {k o : Nat} {g : Nat → Option X} {Q : X → Prop} (hr : gR σ k = some o) (h : Ok (g o) Q) : Ok (Option.bind (gR σ k) g) Q := by rw [hr]; exact h
theorem s_in {X : Type} {i : Int32} {n m : Nat} {f : Option X} {Q : X → Prop} (hi : i = N m) (hm : m < n) (hm2 : m < 2147483648) (h : Ok f Q) : Ok (kf_in i n f) Q := by rw [hi, ok_in hm hm2]; exact h
theorem s_R2 {X : Type} {σ : Mm} {k : Nat} {g : Nat → Option X} {Q : X → Prop} (h1 : (gR σ k).isSome = true) (h2 : ∀ o, gR σ k = some o → Ok (g o) Q) : Ok (Option.bind (gR σ k) g) Q := by
  obtain ⟨o, ho⟩ := Option.isSome_iff_exists.mp h1
  rw [ho]; exact h2 o ho
theorem s_in2 {X : Type} {i : Int32} {n : Nat} {f : Option X} {Q : X → Prop} (hi : ¬ (i < 0 ∨ n ≤ i.toNatClampNeg)) (h : Ok f Q) : Ok (kf_in i n f) Q := by unfold kf_in; rw [if_neg hi]; exact h
theorem s_nz {X : Type} {i : Int32} {f : Option X} {Q : X → Prop} (hi : i ≠ 0) (h : Ok f Q) : Ok (kf_nz i f) Q := by rw [ok_nz hi]; exact h
theorem s_nzl {X : Type} {i : Int64} {f : Option X} {Q : X → Prop} (hi : i ≠ 0) (h : Ok f Q) : Ok (kf_nzl i f) Q := by unfold kf_nzl; rw [if_neg hi]; exact h
theorem s_z {X : Type} {i : Int32} {f : Option X} {Q : X → Prop} (hi : i = 0 ∨ i = 1) (h : Ok f Q) : Ok (kf_z i f) Q := by unfold kf_z; rw [if_pos hi]; exact h
theorem s_h {A X : Type} {f : Option ((A ⊕ String) × Mm)} {hd : String → Mm → Option X} {g : A → Mm → Option X} {Q : X → Prop} (h : Ok f (fun x => match x.1 with
  | .inl r => Ok (g r x.2) Q
  | .inr E => Ok (hd E x.2) Q)) : Ok (kf_h f hd g) Q := by
  obtain ⟨⟨r, σ⟩, e, h⟩ := h
  unfold kf_h
  rw [e]
  cases r with
  | inl r => exact h
  | inr E => exact h
theorem s_t {A B : Type} {f : Option ((A ⊕ String) × Mm)} {g : A → Mm → Option ((B ⊕ String) × Mm)} {Q : (B ⊕ String) × Mm → Prop} (h : Ok f (fun x => match x.1 with
  | .inl r => Ok (g r x.2) Q
  | .inr E => Q (.inr E, x.2))) : Ok (kf_t f g) Q := by
  obtain ⟨⟨r, σ⟩, e, h⟩ := h
  unfold kf_t
  rw [e]
  cases r with
  | inl r => exact h
  | inr E => exact ⟨_, rfl, h⟩
theorem Ok.bind' {X Y : Type} {f : Option X} {g : X → Option Y} {Q : Y → Prop} (h : Ok f (fun x => Ok (g x) Q)) : Ok (f.bind g) Q := h.bind (fun _ h => h)
theorem Ok.c2' {A Y : Type} {f : Option (A × Mm)} {g : A → Mm → Option Y} {Q : Y → Prop} (h : Ok f (fun x => Ok (g x.1 x.2) Q)) : Ok (kf_c2 f g) Q := h.c2 (fun _ _ h => h)
/-- an int is below 0 or a natural number -/
theorem N_cases (x : Int32) : x < 0 ∨ ∃ k, k < 2147483648 ∧ x = N k := by
  by_cases h : x < 0
  · exact Or.inl h
  · exact Or.inr (N_of (Int32.not_lt.mp h))
theorem N_nlt {a : Nat} (h : a < 2147483648) : ¬ N a < N 0 := by rw [N_lt h (by decide)]; exact Nat.not_lt_zero _
/-! BUNDLES -/
theorem bG : (∀ (n m : Nat), n + m - m = n) ∧ ((¬ False) = True) ∧ ((¬ True) = False) ∧ (∀ {σ : Mm} {k j : Nat} {v : Int64}, gS (pJ σ k v) j = gS σ j) ∧ (∀ {σ : Mm} {k j : Nat} {v : Option Nat}, gS (pR σ k v) j = gS σ j) ∧ (∀ {σ : Mm} {a i j : Nat} {v : Int32}, gS (pB σ a i v) j = gS σ j) ∧ (∀ {σ : Mm} {a i j : Nat} {v : Int64}, gS (pK σ a i v) j = gS σ j) ∧ (∀ {σ : Mm} {k j : Nat} {v : Int32}, gJ (pS σ k v) j = gJ σ j) ∧ (∀ {σ : Mm} {k j : Nat} {v : Option Nat}, gJ (pR σ k v) j = gJ σ j) ∧ (∀ {σ : Mm} {a i j : Nat} {v : Int32}, gJ (pB σ a i v) j = gJ σ j) ∧ (∀ {σ : Mm} {a i j : Nat} {v : Int64}, gJ (pK σ a i v) j = gJ σ j) ∧ (∀ {σ : Mm} {k j : Nat} {v : Int32}, gR (pS σ k v) j = gR σ j) ∧ (∀ {σ : Mm} {k j : Nat} {v : Int64}, gR (pJ σ k v) j = gR σ j) ∧ (∀ {σ : Mm} {a i j : Nat} {v : Int32}, gR (pB σ a i v) j = gR σ j) ∧ (∀ {σ : Mm} {a i j : Nat} {v : Int64}, gR (pK σ a i v) j = gR σ j) ∧ (∀ {σ : Mm} {k a : Nat} {v : Int32}, gB (pS σ k v) a = gB σ a) ∧ (∀ {σ : Mm} {k a : Nat} {v : Int64}, gB (pJ σ k v) a = gB σ a) ∧ (∀ {σ : Mm} {k a : Nat} {v : Option Nat}, gB (pR σ k v) a = gB σ a) ∧ (∀ {σ : Mm} {a b i : Nat} {v : Int64}, gB (pK σ a i v) b = gB σ b) ∧ (∀ {σ : Mm} {k a : Nat} {v : Int32}, gK (pS σ k v) a = gK σ a) ∧ (∀ {σ : Mm} {k a : Nat} {v : Int64}, gK (pJ σ k v) a = gK σ a) ∧ (∀ {σ : Mm} {k a : Nat} {v : Option Nat}, gK (pR σ k v) a = gK σ a) ∧ (∀ {σ : Mm} {a b i : Nat} {v : Int32}, gK (pB σ a i v) b = gK σ b) ∧ (∀ (n : Nat), (OfNat.ofNat n : Int32) = N (OfNat.ofNat n)) ∧ (Int32.ofInt 1 = N 1) ∧ (Int32.ofInt 7 = N 7) ∧ (Int32.ofInt 2 = N 2) ∧ (Int32.ofInt 3 = N 3) ∧ (∀ (n : Nat), Int32.ofNat n = N n) ∧ (∀ (a b : Nat), N a + N b = N (a + b)) ∧ (∀ (a b : Nat), N a * N b = N (a * b)) ∧ (∀ (n : Nat), (OfNat.ofNat n : Int64) = L (OfNat.ofNat n)) ∧ (∀ (a b : Nat), L a + L b = L (a + b)) ∧ (∀ (a b : Nat), L a * L b = L (a * b)) ∧ (∀ (a : Nat), (L a).toInt32 = N a) := ⟨@Nat.add_sub_cancel, @not_false_eq_true, @not_true_eq_false, @gS_pJ', @gS_pR', @gS_pB', @gS_pK', @gJ_pS', @gJ_pR', @gJ_pB', @gJ_pK', @gR_pS', @gR_pJ', @gR_pB', @gR_pK', @gB_pS', @gB_pJ', @gB_pR', @gB_pK', @gK_pS', @gK_pJ', @gK_pR', @gK_pB', @N_lit, @N_one, @N_i7, @N_i2, @N_i3, @N_ofNat, @N_add, @N_mul, @L_lit, @L_add, @L_mul, @L_int⟩
theorem bQ : (∀ {σ : Mm} {o k : Nat} (h : ¬ k / 64 = o), gR (mm_nw σ o) k = gR σ k) ∧ (∀ {σ : Mm} {o k : Nat} (h : ¬ k / 64 = o), gS (mm_nw σ o) k = gS σ k) ∧ (∀ {σ : Mm} {k j : Nat} {v : Int32} (h : j = k), gS (pS σ k v) j = v) ∧ (∀ {σ : Mm} {k j : Nat} {v : Int32} (h : ¬ j = k), gS (pS σ k v) j = gS σ j) ∧ (∀ {σ : Mm} {a b i : Nat} {v : Int32} (h : b = a), gB (pB σ a i v) b = upd (gB σ a) i v) ∧ (∀ {σ : Mm} {a b i : Nat} {v : Int32} (h : ¬ b = a), gB (pB σ a i v) b = gB σ b) ∧ (∀ {σ : Mm} {k j : Nat} {v : Int64} (h : j = k), gJ (pJ σ k v) j = v) ∧ (∀ {σ : Mm} {k j : Nat} {v : Int64} (h : ¬ j = k), gJ (pJ σ k v) j = gJ σ j) ∧ (∀ {σ : Mm} {k j : Nat} {v : Option Nat} (h : j = k), gR (pR σ k v) j = v) ∧ (∀ {σ : Mm} {k j : Nat} {v : Option Nat} (h : ¬ j = k), gR (pR σ k v) j = gR σ j) ∧ (∀ {a b : Nat} (ha : a < 2147483648) (hb : b < 2147483648), N a < N b ↔ a < b) ∧ (∀ {a b : Nat} (ha : a < 2147483648) (hb : b < 2147483648), N a ≤ N b ↔ a ≤ b) ∧ (∀ {a b : Nat} (ha : a < 4294967296) (hb : b < 4294967296), N a = N b ↔ a = b) ∧ (∀ {a : Nat} (h : a < 2147483648), (N a).toNatClampNeg = a) ∧ (∀ {a : Nat} (h : a < 2147483648), (N a).toInt64 = L a) ∧ (∀ {a b : Nat} (h : b ≤ a), N a - N b = N (a - b)) ∧ (∀ {a b : Nat} (ha : a < 2147483648) (hb : b < 2147483648), N a / N b = N (a / b)) ∧ (∀ {a b : Nat} (ha : a < 9223372036854775808) (hb : b < 9223372036854775808), L a < L b ↔ a < b) ∧ (∀ {a b : Nat} (ha : a < 9223372036854775808) (hb : b < 9223372036854775808), L a ≤ L b ↔ a ≤ b) ∧ (∀ {a b : Nat} (ha : a < 9223372036854775808) (hb : b < 9223372036854775808), L a = L b ↔ a = b) ∧ (∀ {a b : Nat} (ha : a < 9223372036854775808) (hb : b < 9223372036854775808), lg_cmp (L a) (L b) ≤ N 0 ↔ a ≤ b) ∧ (∀ {a b : Nat} (ha : a < 9223372036854775808) (hb : b < 9223372036854775808), lg_cmp (L a) (L b) < N 0 ↔ a < b) ∧ (∀ {a b : Nat} (ha : a < 9223372036854775808) (hb : b < 9223372036854775808), N 0 ≤ lg_cmp (L a) (L b) ↔ b ≤ a) ∧ (∀ {a b : Nat} (ha : a < 9223372036854775808) (hb : b < 9223372036854775808), N 0 < lg_cmp (L a) (L b) ↔ b < a) ∧ (∀ {a b : Nat} (ha : a < 9223372036854775808) (hb : b < 9223372036854775808), lg_cmp (L a) (L b) = N 0 ↔ a = b) := ⟨@gR_nwn, @gS_nwn, @gS_eq, @gS_ne, @gB_eq, @gB_ne, @gJ_eq, @gJ_ne, @gR_eq, @gR_ne, @N_lt, @N_le, @N_inj, @N_nat, @N_long, @N_sub, @N_div, @L_lt, @L_le, @L_inj, @lg_le', @lg_lt', @lg_ge', @lg_gt', @lg_eq'⟩
theorem bU : (∀ {f : Nat → Int32} {i j : Nat} {v : Int32} (h : j = i), upd f i v j = v) ∧ (∀ {f : Nat → Int32} {i j : Nat} {v : Int32} (h : ¬ j = i), upd f i v j = f j) := ⟨@upd_eq, @upd_ne⟩
theorem bK : ((mm_kd 3).2.2 = 65536) ∧ ((mm_kd 4).2.2 = 256) ∧ ((mm_kd 7).2.2 = 32888) ∧ ((mm_kd 8).2.2 = 32888) ∧ ((mm_kd 10).2.2 = 65536) ∧ ((mm_kd 14).2.2 = 16) ∧ ((mm_kd 15).2.2 = 288) ∧ ((mm_kd 16).2.2 = 16) ∧ ((mm_kd 18).2.2 = 16) ∧ ((mm_kd 19).2.2 = 288) ∧ ((mm_kd 20).2.2 = 16) ∧ ((mm_kd 22).2.2 = 16) ∧ ((mm_kd 23).2.2 = 288) ∧ ((mm_kd 24).2.2 = 16) ∧ ((mm_kd 26).2.2 = 16) ∧ ((mm_kd 27).2.2 = 288) ∧ ((mm_kd 28).2.2 = 16) ∧ ((mm_kd 30).2.2 = 16) ∧ ((mm_kd 31).2.2 = 288) ∧ ((mm_kd 32).2.2 = 16) ∧ ((mm_kd 33).2.2 = 320) ∧ ((mm_kd 36).2.2 = 4096) ∧ ((mm_kd 37).2.2 = 32888) ∧ ((mm_kd 39).2.2 = 16384) ∧ ((mm_kd 40).2.2 = 768) ∧ ((mm_kd 41).2.2 = 256) ∧ ((mm_kd 43).2.2 = 120) ∧ ((mm_kd 44).2.2 = 120) ∧ ((mm_kd 45).2.2 = 120) ∧ ((mm_kd 46).2.2 = 120) ∧ ((mm_kd 47).2.2 = 120) ∧ ((mm_kd 48).2.2 = 120) ∧ ((mm_kd 49).2.2 = 120) ∧ ((mm_kd 51).2.2 = 16384) ∧ ((mm_kd 52).2.2 = 768) ∧ ((mm_kd 53).2.2 = 256) ∧ ((mm_kd 55).2.2 = 120) ∧ ((mm_kd 56).2.2 = 120) ∧ ((mm_kd 57).2.2 = 120) ∧ ((mm_kd 58).2.2 = 120) ∧ ((mm_kd 59).2.2 = 120) ∧ ((mm_kd 60).2.2 = 120) ∧ ((mm_kd 61).2.2 = 120) ∧ ((mm_kd 62).2.2 = 1) ∧ ((mm_kd 64).2.2 = 65536) ∧ ((mm_kd 65).2.2 = 16384) ∧ ((mm_kd 66).2.2 = 768) ∧ ((mm_kd 67).2.2 = 256) ∧ ((mm_kd 68).2.2 = 16384) ∧ ((mm_kd 69).2.2 = 768) ∧ ((mm_kd 70).2.2 = 256) ∧ ((mm_kd 71).2.2 = 65536) ∧ ((mm_kd 72).2.2 = 65536) ∧ ((mm_kd 73).2.2 = 40000) ∧ ((mm_kd 74).2.2 = 256) ∧ ((mm_kd 75).2.2 = 256) ∧ ((mm_kd 76).2.2 = 256) ∧ ((mm_kd 77).2.2 = 256) ∧ ((mm_kd 78).2.2 = 256) ∧ ((mm_kd 79).2.2 = 320) ∧ ((mm_kd 80).2.2 = 320) ∧ ((mm_kd 81).2.2 = 16) ∧ ((mm_kd 100).2.2 = 8) ∧ ((mm_kd 101).2.2 = 8) ∧ ((mm_kd 102).2.2 = 8) ∧ ((mm_kd 103).2.2 = 8) ∧ ((mm_kd 104).2.2 = 8) ∧ ((mm_kd 105).2.2 = 29) ∧ ((mm_kd 106).2.2 = 29) ∧ ((mm_kd 107).2.2 = 30) ∧ ((mm_kd 108).2.2 = 30) ∧ ((mm_kd 109).2.2 = 19) := ⟨@kd_3, @kd_4, @kd_7, @kd_8, @kd_10, @kd_14, @kd_15, @kd_16, @kd_18, @kd_19, @kd_20, @kd_22, @kd_23, @kd_24, @kd_26, @kd_27, @kd_28, @kd_30, @kd_31, @kd_32, @kd_33, @kd_36, @kd_37, @kd_39, @kd_40, @kd_41, @kd_43, @kd_44, @kd_45, @kd_46, @kd_47, @kd_48, @kd_49, @kd_51, @kd_52, @kd_53, @kd_55, @kd_56, @kd_57, @kd_58, @kd_59, @kd_60, @kd_61, @kd_62, @kd_64, @kd_65, @kd_66, @kd_67, @kd_68, @kd_69, @kd_70, @kd_71, @kd_72, @kd_73, @kd_74, @kd_75, @kd_76, @kd_77, @kd_78, @kd_79, @kd_80, @kd_81, @kd_100, @kd_101, @kd_102, @kd_103, @kd_104, @kd_105, @kd_106, @kd_107, @kd_108, @kd_109⟩
