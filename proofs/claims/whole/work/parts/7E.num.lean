/-! NUMBERS AND TYPES OF PIECES -/
def num (T : Nat → Nat) (k : Nat) : Nat := T k * 16777216 + T (k + 1) * 65536 + T (k + 2) * 256 + T (k + 3)
theorem num_lt {T : Nat → Nat} (hT : ∀ i, T i < 256) (k : Nat) : num T k < 4294967296 := by
  have h0 := hT k
  have h1 := hT (k + 1)
  have h2 := hT (k + 2)
  have h3 := hT (k + 3)
  unfold num
  omega
theorem C_pair {n len k : Nat} {T : Nat → Nat} {x : Int32} {s : Mm} (e : x = N k) (hp : PtC s) (hT : TapeC T len s) (hk : k + 1 < len) : F_Tape_pair n 2 x s = some (N (T k * 256 + T (k + 1)), s) := by
  subst e
  obtain ⟨-, h2, h3, h4⟩ := hT
  have hb := h3 (k + 1)
  apply Ok.eq
  unfold F_Tape_pair
  refine s_R hp.Tape_bytes ?_
  refine s_in rfl (by rw [kd_3]; omega) (by omega) ?_
  refine s_R hp.Tape_bytes ?_
  refine s_let (fun x9 hx9 => ?_)
  rw [show (1 : Int32) = N 1 from rfl, N_add] at hx9
  subst hx9
  refine s_in rfl (by rw [kd_3]; omega) (by omega) (Ok.some ?_)
  rw [N_nat (by omega), N_nat (by omega), h4 k (by omega), h4 (k + 1) hk, show (8 : Int32) = N 8 from rfl, show (31 : Int32) = N 31 from rfl, N_256 hb, Nat.mul_comm]
theorem C_number {n len k : Nat} {T : Nat → Nat} {x : Int32} {s : Mm} (e : x = N k) (hp : PtC s) (hT : TapeC T len s) (hk : k + 3 < len) : F_Tape_number n 2 x s = some (N (num T k), s) := by
  subst e
  have h3 := hT.2.2.1
  have hb := h3 (k + 2)
  have hb2 := h3 (k + 3)
  apply Ok.eq
  unfold F_Tape_number
  refine s_c (C_pair rfl hp hT (by omega)) ?_
  rw [show (2 : Int32) = N 2 from rfl, N_add]
  refine s_c (C_pair rfl hp hT (by omega)) (Ok.some ?_)
  rw [show (16 : Int32) = N 16 from rfl, show (31 : Int32) = N 31 from rfl, N_shl (by decide), N_or, ← Nat.shiftLeft_add_eq_or_of_lt (i := 16) (by rw [show k + 2 + 1 = k + 3 from rfl]; omega), Nat.shiftLeft_eq]
  unfold num
  rw [show k + 2 + 1 = k + 3 from rfl]
  rw [show (T k * 256 + T (k + 1)) * 2 ^ 16 + (T (k + 2) * 256 + T (k + 3)) = T k * 16777216 + T (k + 1) * 65536 + T (k + 2) * 256 + T (k + 3) by omega]
theorem L_shl24 {a : Nat} : L a <<< ((24 : Int32).toInt64 &&& 63) = L (a * 16777216) := by
  rw [show (24 : Int32).toInt64 = L 24 from N_long (by decide), show (63 : Int64) = L 63 from rfl]
  apply Int64.toBitVec_inj.1
  have e : (L 24 &&& L 63).toBitVec.smod 64 = BitVec.ofNat 64 24 := by decide
  have h1 : (L a <<< (L 24 &&& L 63)).toBitVec = (L a).toBitVec <<< (BitVec.ofNat 64 24) := by
    show (L a).toBitVec <<< ((L 24 &&& L 63).toBitVec.smod 64) = _
    rw [e]
  rw [h1]
  show BitVec.ofNat 64 a <<< BitVec.ofNat 64 24 = BitVec.ofNat 64 (a * 16777216)
  apply BitVec.eq_of_toNat_eq
  rw [BitVec.shiftLeft_eq', BitVec.toNat_shiftLeft, BitVec.toNat_ofNat, BitVec.toNat_ofNat, BitVec.toNat_ofNat, Nat.shiftLeft_eq, show 24 % 2 ^ 64 = 24 from rfl, show 2 ^ 24 = 16777216 from rfl, Nat.mod_mul_mod]
theorem M_number {n len k : Nat} {T : Nat → Nat} {x : Int32} {t : Mm} (e : x = N k) (hp : PtM t) (hT : TapeM T len t) (hl : len ≤ 65536) (h3 : ∀ i, T i < 256) (hk : k + 3 < len) : F_Md_number n 63 x t = some (L (num T k), t) := by
  subst e
  have b0 := h3 k
  have b1 := h3 (k + 1)
  have b2 := h3 (k + 2)
  have b3 := h3 (k + 3)
  apply Ok.eq
  unfold F_Md_number
  refine s_c (Md_at_eq hp hT hl rfl (by omega)) ?_
  rw [show (1 : Int32) = N 1 from rfl, N_add]
  refine s_c (Md_at_eq hp hT hl rfl (by omega)) ?_
  rw [show (2 : Int32) = N 2 from rfl, N_add]
  refine s_c (Md_at_eq hp hT hl rfl (by omega)) ?_
  rw [show (3 : Int32) = N 3 from rfl, N_add]
  refine s_c (Md_at_eq hp hT hl rfl (by omega)) (Ok.some ?_)
  rw [N_long (by omega), N_long (a := T (k + 3)) (by omega), L_shl24, show (16 : Int32) = N 16 from rfl, show (8 : Int32) = N 8 from rfl, show (31 : Int32) = N 31 from rfl, N_shl (by decide), N_shl (by decide), Nat.shiftLeft_eq, Nat.shiftLeft_eq, N_long (by omega), N_long (by omega), L_add, L_add, L_add]
  rfl
def letter (v : Nat) : Prop := (65 ≤ v ∧ v ≤ 90) ∨ (97 ≤ v ∧ v ≤ 122)
theorem C_letter {n v : Nat} {x : Int32} {s : Mm} (e : x = N v) (hv : v < 256) : ∃ b : Nat, F_Pieces_isLetter n x s = some (N b, s) ∧ ((b = 1 ∧ letter v) ∨ (b = 0 ∧ ¬ letter v)) := by
  subst e
  unfold letter
  have go : ∀ b : Nat, ((b = 1 ∧ ((65 ≤ v ∧ v ≤ 90) ∨ (97 ≤ v ∧ v ≤ 122))) ∨ (b = 0 ∧ ¬ ((65 ≤ v ∧ v ≤ 90) ∨ (97 ≤ v ∧ v ≤ 122)))) → Ok (F_Pieces_isLetter n (N v) s) (fun y => y = (N b, s)) := by
    intro b hb
    unfold F_Pieces_isLetter
    refine s_ji ?_
    refine s_ji ?_
    refine s_ji ?_
    rw [show (65 : Int32) = N 65 from rfl, show (90 : Int32) = N 90 from rfl, show (97 : Int32) = N 97 from rfl, show (122 : Int32) = N 122 from rfl]
    have yes : b = 1 → Ok (kf_z 1 (some (1, s))) (fun y => y = (N b, s)) := fun h => s_z (Or.inr rfl) (Ok.some (by rw [h]; rfl))
    have no : b = 0 → Ok (kf_z 0 (some (0, s))) (fun y => y = (N b, s)) := fun h => s_z (Or.inl rfl) (Ok.some (by rw [h]; rfl))
    have low : ∀ (hh : ¬ (65 ≤ v ∧ v ≤ 90)), Ok (kf_j (α := Unit) (fun x11 σ12 => kf_z 0 (some ((0 : Int32), σ12))) fun k10 => if N v < N 97 then k10 () s else (if N 122 < N v then k10 () s else kf_z 1 (some ((1 : Int32), s)))) (fun y => y = (N b, s)) := fun hh => by
      refine s_ji ?_
      by_cases c3 : v < 97
      · exact s_pos (by rw [N_lt (by omega) (by omega)]; exact c3) (no (by omega))
      · refine s_neg (by rw [N_lt (by omega) (by omega)]; exact c3) ?_
        by_cases c4 : 122 < v
        · exact s_pos (by rw [N_lt (by omega) (by omega)]; exact c4) (no (by omega))
        · exact s_neg (by rw [N_lt (by omega) (by omega)]; exact c4) (yes (by omega))
    by_cases c1 : v < 65
    · exact s_pos (by rw [N_lt (by omega) (by omega)]; exact c1) (low (by omega))
    · refine s_neg (by rw [N_lt (by omega) (by omega)]; exact c1) ?_
      by_cases c2 : v ≤ 90
      · exact s_pos (by rw [N_le (by omega) (by omega)]; exact c2) (yes (by omega))
      · exact s_neg (by rw [N_le (by omega) (by omega)]; exact c2) (low (by omega))
  by_cases hl : (65 ≤ v ∧ v ≤ 90) ∨ (97 ≤ v ∧ v ≤ 122)
  · exact ⟨1, Ok.eq (go 1 (Or.inl ⟨rfl, hl⟩)), Or.inl ⟨rfl, hl⟩⟩
  · exact ⟨0, Ok.eq (go 0 (Or.inr ⟨rfl, hl⟩)), Or.inr ⟨rfl, hl⟩⟩
theorem M_letter {n v : Nat} {x : Int32} {s : Mm} (e : x = N v) (hv : v < 256) : ∃ b : Nat, F_Md_isLetter n x s = some (N b, s) ∧ ((b = 1 ∧ letter v) ∨ (b = 0 ∧ ¬ letter v)) := by
  subst e
  unfold letter
  have go : ∀ b : Nat, ((b = 1 ∧ ((65 ≤ v ∧ v ≤ 90) ∨ (97 ≤ v ∧ v ≤ 122))) ∨ (b = 0 ∧ ¬ ((65 ≤ v ∧ v ≤ 90) ∨ (97 ≤ v ∧ v ≤ 122)))) → Ok (F_Md_isLetter n (N v) s) (fun y => y = (N b, s)) := by
    intro b hb
    unfold F_Md_isLetter
    refine s_ji ?_
    refine s_ji ?_
    refine s_ji ?_
    rw [show (65 : Int32) = N 65 from rfl, show (90 : Int32) = N 90 from rfl, show (97 : Int32) = N 97 from rfl, show (122 : Int32) = N 122 from rfl]
    have yes : b = 1 → Ok (kf_z 1 (some (1, s))) (fun y => y = (N b, s)) := fun h => s_z (Or.inr rfl) (Ok.some (by rw [h]; rfl))
    have no : b = 0 → Ok (kf_z 0 (some (0, s))) (fun y => y = (N b, s)) := fun h => s_z (Or.inl rfl) (Ok.some (by rw [h]; rfl))
    have low : ∀ (hh : ¬ (65 ≤ v ∧ v ≤ 90)), Ok (kf_j (α := Unit) (fun x11 σ12 => kf_z 0 (some ((0 : Int32), σ12))) fun k10 => if N v < N 97 then k10 () s else (if N 122 < N v then k10 () s else kf_z 1 (some ((1 : Int32), s)))) (fun y => y = (N b, s)) := fun hh => by
      refine s_ji ?_
      by_cases c3 : v < 97
      · exact s_pos (by rw [N_lt (by omega) (by omega)]; exact c3) (no (by omega))
      · refine s_neg (by rw [N_lt (by omega) (by omega)]; exact c3) ?_
        by_cases c4 : 122 < v
        · exact s_pos (by rw [N_lt (by omega) (by omega)]; exact c4) (no (by omega))
        · exact s_neg (by rw [N_lt (by omega) (by omega)]; exact c4) (yes (by omega))
    by_cases c1 : v < 65
    · exact s_pos (by rw [N_lt (by omega) (by omega)]; exact c1) (low (by omega))
    · refine s_neg (by rw [N_lt (by omega) (by omega)]; exact c1) ?_
      by_cases c2 : v ≤ 90
      · exact s_pos (by rw [N_le (by omega) (by omega)]; exact c2) (yes (by omega))
      · exact s_neg (by rw [N_le (by omega) (by omega)]; exact c2) (low (by omega))
  by_cases hl : (65 ≤ v ∧ v ≤ 90) ∨ (97 ≤ v ∧ v ≤ 122)
  · exact ⟨1, Ok.eq (go 1 (Or.inl ⟨rfl, hl⟩)), Or.inl ⟨rfl, hl⟩⟩
  · exact ⟨0, Ok.eq (go 0 (Or.inr ⟨rfl, hl⟩)), Or.inr ⟨rfl, hl⟩⟩
theorem num_iff {T : Nat → Nat} {k a b c d : Nat} (hT : ∀ i, T i < 256) (ha : a < 256) (hb : b < 256) (hc : c < 256) (hd : d < 256) : num T k = a * 16777216 + b * 65536 + c * 256 + d ↔ T k = a ∧ T (k + 1) = b ∧ T (k + 2) = c ∧ T (k + 3) = d := by
  have h0 := hT k
  have h1 := hT (k + 1)
  have h2 := hT (k + 2)
  have h3 := hT (k + 3)
  unfold num
  constructor
  · intro h
    refine ⟨?_, ?_, ?_, ?_⟩ <;> omega
  · rintro ⟨h4, h5, h6, h7⟩
    rw [h4, h5, h6, h7]
theorem M_type {n len k a b c d K : Nat} {T : Nat → Nat} {x x1 x2 x3 x4 : Int32} {t : Mm} (e : x = N k) (e1 : x1 = N a) (e2 : x2 = N b) (e3 : x3 = N c) (e4 : x4 = N d) (ha : a < 256) (hb : b < 256) (hc : c < 256) (hd : d < 256) (hK : K = a * 16777216 + b * 65536 + c * 256 + d) (hp : PtM t) (hT : TapeM T len t) (hl : len ≤ 65536) (h3 : ∀ i, T i < 256) (hk : k + 7 < len) : F_Md_isType n 63 x x1 x2 x3 x4 t = some (if num T (k + 4) = K then 1 else 0, t) := by
  subst e e1 e2 e3 e4 hK
  have b0 := h3 (k + 4)
  have b1 := h3 (k + 5)
  have b2 := h3 (k + 6)
  have b3 := h3 (k + 7)
  obtain ⟨v, hv⟩ : ∃ v, v = (if num T (k + 4) = a * 16777216 + b * 65536 + c * 256 + d then (1 : Int32) else 0) := ⟨_, rfl⟩
  rw [← hv]
  have hi := num_iff (T := T) (k := k + 4) h3 ha hb hc hd
  rw [show k + 4 + 1 = k + 5 from rfl, show k + 4 + 2 = k + 6 from rfl, show k + 4 + 3 = k + 7 from rfl] at hi
  apply Ok.eq
  unfold F_Md_isType
  rw [show (4 : Int32) = N 4 from rfl, show (5 : Int32) = N 5 from rfl, show (6 : Int32) = N 6 from rfl, show (7 : Int32) = N 7 from rfl, N_add, N_add, N_add, N_add]
  refine s_c (Md_at_eq hp hT hl rfl (by omega)) ?_
  refine s_ji ?_
  refine s_ji ?_
  have no : ¬ (T (k + 4) = a ∧ T (k + 5) = b ∧ T (k + 6) = c ∧ T (k + 7) = d) → Ok (kf_z 0 (some ((0 : Int32), t))) (fun y => y = (v, t)) := fun h => s_z (Or.inl rfl) (Ok.some (by rw [hv, if_neg (fun z => h (hi.mp z))]))
  by_cases c1 : T (k + 4) = a
  · refine s_pos (by rw [c1]) ?_
    refine s_c (Md_at_eq hp hT hl rfl (by omega)) ?_
    by_cases c2 : T (k + 5) = b
    · refine s_pos (by rw [c2]) ?_
      refine s_c (Md_at_eq hp hT hl rfl (by omega)) ?_
      by_cases c3 : T (k + 6) = c
      · refine s_pos (by rw [c3]) ?_
        refine s_c (Md_at_eq hp hT hl rfl (by omega)) ?_
        by_cases c4 : T (k + 7) = d
        · refine s_pos (by rw [c4]) ?_
          exact s_z (Or.inr rfl) (Ok.some (by rw [hv, if_pos (hi.mpr ⟨c1, c2, c3, c4⟩)]))
        · exact s_neg (N_ne (by omega) (by omega) c4) (no (fun z => c4 z.2.2.2))
      · exact s_neg (N_ne (by omega) (by omega) c3) (no (fun z => c3 z.2.2.1))
    · exact s_neg (N_ne (by omega) (by omega) c2) (no (fun z => c2 z.2.1))
  · exact s_neg (N_ne (by omega) (by omega) c1) (no (fun z => c1 z.1))
