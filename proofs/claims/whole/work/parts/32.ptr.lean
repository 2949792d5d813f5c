/-! POINTERS that never change -/
def cptr : List (Nat × Nat) := [(64, 2), (65, 5), (66, 11), (67, 12), (68, 6), (69, 34), (128, 3), (130, 4), (384, 7), (385, 8), (576, 2), (577, 5), (578, 10), (704, 2), (705, 5), (706, 9), (768, 9), (769, 5), (770, 6), (771, 7), (772, 13), (773, 17), (774, 21), (775, 25), (776, 29), (777, 33), (832, 14), (833, 15), (834, 16), (1088, 18), (1089, 19), (1090, 20), (1344, 22), (1345, 23), (1346, 24), (1600, 26), (1601, 27), (1602, 28), (1856, 30), (1857, 31), (1858, 32), (2176, 2), (2177, 6), (2178, 35), (2240, 2), (2241, 7), (2242, 36), (2243, 37), (2440, 39), (2441, 40), (2442, 41), (2443, 42), (2691, 43), (2692, 44), (2693, 45), (2694, 46), (2695, 47), (2696, 48), (2697, 49), (3208, 51), (3209, 52), (3210, 53), (3211, 54), (3459, 55), (3460, 56), (3461, 57), (3462, 58), (3463, 59), (3464, 60), (3465, 61)]
def PtC (σ : Mm) : Prop := ∀ q ∈ cptr, gR σ q.1 = some q.2
theorem PtC.PF_tape {σ : Mm} (h : PtC σ) : gR σ 64 = some 2 := h (64, 2) (by decide)
theorem PtC.PF_firstFault {σ : Mm} (h : PtC σ) : gR σ 65 = some 5 := h (65, 5) (by decide)
theorem PtC.PF_pieces {σ : Mm} (h : PtC σ) : gR σ 66 = some 11 := h (66, 11) (by decide)
theorem PtC.PF_unpacker {σ : Mm} (h : PtC σ) : gR σ 67 = some 12 := h (67, 12) (by decide)
theorem PtC.PF_rows {σ : Mm} (h : PtC σ) : gR σ 68 = some 6 := h (68, 6) (by decide)
theorem PtC.PF_writer {σ : Mm} (h : PtC σ) : gR σ 69 = some 34 := h (69, 34) (by decide)
theorem PtC.Tape_bytes {σ : Mm} (h : PtC σ) : gR σ 128 = some 3 := h (128, 3) (by decide)
theorem PtC.Tape_turns {σ : Mm} (h : PtC σ) : gR σ 130 = some 4 := h (130, 4) (by decide)
theorem PtC.Rows_raw {σ : Mm} (h : PtC σ) : gR σ 384 = some 7 := h (384, 7) (by decide)
theorem PtC.Rows_flat {σ : Mm} (h : PtC σ) : gR σ 385 = some 8 := h (385, 8) (by decide)
theorem PtC.Packed_tape {σ : Mm} (h : PtC σ) : gR σ 576 = some 2 := h (576, 2) (by decide)
theorem PtC.Packed_fault {σ : Mm} (h : PtC σ) : gR σ 577 = some 5 := h (577, 5) (by decide)
theorem PtC.Packed_where {σ : Mm} (h : PtC σ) : gR σ 578 = some 10 := h (578, 10) (by decide)
theorem PtC.Pieces_tape {σ : Mm} (h : PtC σ) : gR σ 704 = some 2 := h (704, 2) (by decide)
theorem PtC.Pieces_fault {σ : Mm} (h : PtC σ) : gR σ 705 = some 5 := h (705, 5) (by decide)
theorem PtC.Pieces_packed {σ : Mm} (h : PtC σ) : gR σ 706 = some 9 := h (706, 9) (by decide)
theorem PtC.Unp_packed {σ : Mm} (h : PtC σ) : gR σ 768 = some 9 := h (768, 9) (by decide)
theorem PtC.Unp_fault {σ : Mm} (h : PtC σ) : gR σ 769 = some 5 := h (769, 5) (by decide)
theorem PtC.Unp_rows {σ : Mm} (h : PtC σ) : gR σ 770 = some 6 := h (770, 6) (by decide)
theorem PtC.Unp_raw {σ : Mm} (h : PtC σ) : gR σ 771 = some 7 := h (771, 7) (by decide)
theorem PtC.Unp_fixedSigns {σ : Mm} (h : PtC σ) : gR σ 772 = some 13 := h (772, 13) (by decide)
theorem PtC.Unp_fixedDistances {σ : Mm} (h : PtC σ) : gR σ 773 = some 17 := h (773, 17) (by decide)
theorem PtC.Unp_lengthCodes {σ : Mm} (h : PtC σ) : gR σ 774 = some 21 := h (774, 21) (by decide)
theorem PtC.Unp_signs {σ : Mm} (h : PtC σ) : gR σ 775 = some 25 := h (775, 25) (by decide)
theorem PtC.Unp_distances {σ : Mm} (h : PtC σ) : gR σ 776 = some 29 := h (776, 29) (by decide)
theorem PtC.Unp_lengths {σ : Mm} (h : PtC σ) : gR σ 777 = some 33 := h (777, 33) (by decide)
theorem PtC.Codes13_ofLength {σ : Mm} (h : PtC σ) : gR σ 832 = some 14 := h (832, 14) (by decide)
theorem PtC.Codes13_meanings {σ : Mm} (h : PtC σ) : gR σ 833 = some 15 := h (833, 15) (by decide)
theorem PtC.Codes13_nextOfLength {σ : Mm} (h : PtC σ) : gR σ 834 = some 16 := h (834, 16) (by decide)
theorem PtC.Codes17_ofLength {σ : Mm} (h : PtC σ) : gR σ 1088 = some 18 := h (1088, 18) (by decide)
theorem PtC.Codes17_meanings {σ : Mm} (h : PtC σ) : gR σ 1089 = some 19 := h (1089, 19) (by decide)
theorem PtC.Codes17_nextOfLength {σ : Mm} (h : PtC σ) : gR σ 1090 = some 20 := h (1090, 20) (by decide)
theorem PtC.Codes21_ofLength {σ : Mm} (h : PtC σ) : gR σ 1344 = some 22 := h (1344, 22) (by decide)
theorem PtC.Codes21_meanings {σ : Mm} (h : PtC σ) : gR σ 1345 = some 23 := h (1345, 23) (by decide)
theorem PtC.Codes21_nextOfLength {σ : Mm} (h : PtC σ) : gR σ 1346 = some 24 := h (1346, 24) (by decide)
theorem PtC.Codes25_ofLength {σ : Mm} (h : PtC σ) : gR σ 1600 = some 26 := h (1600, 26) (by decide)
theorem PtC.Codes25_meanings {σ : Mm} (h : PtC σ) : gR σ 1601 = some 27 := h (1601, 27) (by decide)
theorem PtC.Codes25_nextOfLength {σ : Mm} (h : PtC σ) : gR σ 1602 = some 28 := h (1602, 28) (by decide)
theorem PtC.Codes29_ofLength {σ : Mm} (h : PtC σ) : gR σ 1856 = some 30 := h (1856, 30) (by decide)
theorem PtC.Codes29_meanings {σ : Mm} (h : PtC σ) : gR σ 1857 = some 31 := h (1857, 31) (by decide)
theorem PtC.Codes29_nextOfLength {σ : Mm} (h : PtC σ) : gR σ 1858 = some 32 := h (1858, 32) (by decide)
theorem PtC.Writer_tape {σ : Mm} (h : PtC σ) : gR σ 2176 = some 2 := h (2176, 2) (by decide)
theorem PtC.Writer_rows {σ : Mm} (h : PtC σ) : gR σ 2177 = some 6 := h (2177, 6) (by decide)
theorem PtC.Writer_packer {σ : Mm} (h : PtC σ) : gR σ 2178 = some 35 := h (2178, 35) (by decide)
theorem PtC.Packer_tape {σ : Mm} (h : PtC σ) : gR σ 2240 = some 2 := h (2240, 2) (by decide)
theorem PtC.Packer_raw {σ : Mm} (h : PtC σ) : gR σ 2241 = some 7 := h (2241, 7) (by decide)
theorem PtC.Packer_heads {σ : Mm} (h : PtC σ) : gR σ 2242 = some 36 := h (2242, 36) (by decide)
theorem PtC.Packer_earlier {σ : Mm} (h : PtC σ) : gR σ 2243 = some 37 := h (2243, 37) (by decide)
theorem PtC.Pic38_samples {σ : Mm} (h : PtC σ) : gR σ 2440 = some 39 := h (2440, 39) (by decide)
theorem PtC.Pic38_colours {σ : Mm} (h : PtC σ) : gR σ 2441 = some 40 := h (2441, 40) (by decide)
theorem PtC.Pic38_thins {σ : Mm} (h : PtC σ) : gR σ 2442 = some 41 := h (2442, 41) (by decide)
theorem PtC.Pic38_layout {σ : Mm} (h : PtC σ) : gR σ 2443 = some 42 := h (2443, 42) (by decide)
theorem PtC.Lay42_x {σ : Mm} (h : PtC σ) : gR σ 2691 = some 43 := h (2691, 43) (by decide)
theorem PtC.Lay42_y {σ : Mm} (h : PtC σ) : gR σ 2692 = some 44 := h (2692, 44) (by decide)
theorem PtC.Lay42_step {σ : Mm} (h : PtC σ) : gR σ 2693 = some 45 := h (2693, 45) (by decide)
theorem PtC.Lay42_points {σ : Mm} (h : PtC σ) : gR σ 2694 = some 46 := h (2694, 46) (by decide)
theorem PtC.Lay42_at {σ : Mm} (h : PtC σ) : gR σ 2695 = some 47 := h (2695, 47) (by decide)
theorem PtC.Lay42_length {σ : Mm} (h : PtC σ) : gR σ 2696 = some 48 := h (2696, 48) (by decide)
theorem PtC.Lay42_up {σ : Mm} (h : PtC σ) : gR σ 2697 = some 49 := h (2697, 49) (by decide)
theorem PtC.Pic50_samples {σ : Mm} (h : PtC σ) : gR σ 3208 = some 51 := h (3208, 51) (by decide)
theorem PtC.Pic50_colours {σ : Mm} (h : PtC σ) : gR σ 3209 = some 52 := h (3209, 52) (by decide)
theorem PtC.Pic50_thins {σ : Mm} (h : PtC σ) : gR σ 3210 = some 53 := h (3210, 53) (by decide)
theorem PtC.Pic50_layout {σ : Mm} (h : PtC σ) : gR σ 3211 = some 54 := h (3211, 54) (by decide)
theorem PtC.Lay54_x {σ : Mm} (h : PtC σ) : gR σ 3459 = some 55 := h (3459, 55) (by decide)
theorem PtC.Lay54_y {σ : Mm} (h : PtC σ) : gR σ 3460 = some 56 := h (3460, 56) (by decide)
theorem PtC.Lay54_step {σ : Mm} (h : PtC σ) : gR σ 3461 = some 57 := h (3461, 57) (by decide)
theorem PtC.Lay54_points {σ : Mm} (h : PtC σ) : gR σ 3462 = some 58 := h (3462, 58) (by decide)
theorem PtC.Lay54_at {σ : Mm} (h : PtC σ) : gR σ 3463 = some 59 := h (3463, 59) (by decide)
theorem PtC.Lay54_length {σ : Mm} (h : PtC σ) : gR σ 3464 = some 60 := h (3464, 60) (by decide)
theorem PtC.Lay54_up {σ : Mm} (h : PtC σ) : gR σ 3465 = some 61 := h (3465, 61) (by decide)
def isP (p : Nat) : Prop := p = 38 ∨ p = 50
def isK (c : Nat) : Prop := c = 13 ∨ c = 17 ∨ c = 21 ∨ c = 25 ∨ c = 29
theorem PtC.pic_samples {σ : Mm} (h : PtC σ) {p : Nat} (hp : isP p) : gR σ (64 * p + 8) = some (p + 1) := by rcases hp with rfl | rfl <;> exact h (_, _) (by decide)
theorem PtC.pic_colours {σ : Mm} (h : PtC σ) {p : Nat} (hp : isP p) : gR σ (64 * p + 9) = some (p + 2) := by rcases hp with rfl | rfl <;> exact h (_, _) (by decide)
theorem PtC.pic_thins {σ : Mm} (h : PtC σ) {p : Nat} (hp : isP p) : gR σ (64 * p + 10) = some (p + 3) := by rcases hp with rfl | rfl <;> exact h (_, _) (by decide)
theorem PtC.pic_layout {σ : Mm} (h : PtC σ) {p : Nat} (hp : isP p) : gR σ (64 * p + 11) = some (p + 4) := by rcases hp with rfl | rfl <;> exact h (_, _) (by decide)
theorem PtC.lay_x {σ : Mm} (h : PtC σ) {p : Nat} (hp : isP p) : gR σ (64 * (p + 4) + 3) = some (p + 5) := by rcases hp with rfl | rfl <;> exact h (_, _) (by decide)
theorem PtC.lay_y {σ : Mm} (h : PtC σ) {p : Nat} (hp : isP p) : gR σ (64 * (p + 4) + 4) = some (p + 6) := by rcases hp with rfl | rfl <;> exact h (_, _) (by decide)
theorem PtC.lay_step {σ : Mm} (h : PtC σ) {p : Nat} (hp : isP p) : gR σ (64 * (p + 4) + 5) = some (p + 7) := by rcases hp with rfl | rfl <;> exact h (_, _) (by decide)
theorem PtC.lay_points {σ : Mm} (h : PtC σ) {p : Nat} (hp : isP p) : gR σ (64 * (p + 4) + 6) = some (p + 8) := by rcases hp with rfl | rfl <;> exact h (_, _) (by decide)
theorem PtC.lay_at {σ : Mm} (h : PtC σ) {p : Nat} (hp : isP p) : gR σ (64 * (p + 4) + 7) = some (p + 9) := by rcases hp with rfl | rfl <;> exact h (_, _) (by decide)
theorem PtC.lay_length {σ : Mm} (h : PtC σ) {p : Nat} (hp : isP p) : gR σ (64 * (p + 4) + 8) = some (p + 10) := by rcases hp with rfl | rfl <;> exact h (_, _) (by decide)
theorem PtC.lay_up {σ : Mm} (h : PtC σ) {p : Nat} (hp : isP p) : gR σ (64 * (p + 4) + 9) = some (p + 11) := by rcases hp with rfl | rfl <;> exact h (_, _) (by decide)
theorem PtC.cod_ofLength {σ : Mm} (h : PtC σ) {c : Nat} (hc : isK c) : gR σ (64 * c + 0) = some (c + 1) := by rcases hc with rfl | rfl | rfl | rfl | rfl <;> exact h (_, _) (by decide)
theorem PtC.cod_meanings {σ : Mm} (h : PtC σ) {c : Nat} (hc : isK c) : gR σ (64 * c + 1) = some (c + 2) := by rcases hc with rfl | rfl | rfl | rfl | rfl <;> exact h (_, _) (by decide)
theorem PtC.cod_nextOfLength {σ : Mm} (h : PtC σ) {c : Nat} (hc : isK c) : gR σ (64 * c + 2) = some (c + 3) := by rcases hc with rfl | rfl | rfl | rfl | rfl <;> exact h (_, _) (by decide)
theorem kdp_1 {p : Nat} (hp : isP p) : (mm_kd (p + 1)).2.2 = 16384 := by rcases hp with rfl | rfl <;> decide +kernel
theorem kdp_2 {p : Nat} (hp : isP p) : (mm_kd (p + 2)).2.2 = 768 := by rcases hp with rfl | rfl <;> decide +kernel
theorem kdp_3 {p : Nat} (hp : isP p) : (mm_kd (p + 3)).2.2 = 256 := by rcases hp with rfl | rfl <;> decide +kernel
theorem kdp_5 {p : Nat} (hp : isP p) : (mm_kd (p + 5)).2.2 = 120 := by rcases hp with rfl | rfl <;> decide +kernel
theorem kdp_6 {p : Nat} (hp : isP p) : (mm_kd (p + 6)).2.2 = 120 := by rcases hp with rfl | rfl <;> decide +kernel
theorem kdp_7 {p : Nat} (hp : isP p) : (mm_kd (p + 7)).2.2 = 120 := by rcases hp with rfl | rfl <;> decide +kernel
theorem kdp_8 {p : Nat} (hp : isP p) : (mm_kd (p + 8)).2.2 = 120 := by rcases hp with rfl | rfl <;> decide +kernel
theorem kdp_9 {p : Nat} (hp : isP p) : (mm_kd (p + 9)).2.2 = 120 := by rcases hp with rfl | rfl <;> decide +kernel
theorem kdp_10 {p : Nat} (hp : isP p) : (mm_kd (p + 10)).2.2 = 120 := by rcases hp with rfl | rfl <;> decide +kernel
theorem kdp_11 {p : Nat} (hp : isP p) : (mm_kd (p + 11)).2.2 = 120 := by rcases hp with rfl | rfl <;> decide +kernel
theorem kdc_1 {c : Nat} (hc : isK c) : (mm_kd (c + 1)).2.2 = 16 := by rcases hc with rfl | rfl | rfl | rfl | rfl <;> decide +kernel
theorem kdc_2 {c : Nat} (hc : isK c) : (mm_kd (c + 2)).2.2 = 288 := by rcases hc with rfl | rfl | rfl | rfl | rfl <;> decide +kernel
theorem kdc_3 {c : Nat} (hc : isK c) : (mm_kd (c + 3)).2.2 = 16 := by rcases hc with rfl | rfl | rfl | rfl | rfl <;> decide +kernel
/-- places of the class's numbers; its arrays -/
def PCs (k : Nat) : Prop := k < 4032 ∧ cptr.all (fun q => q.1 != k) = true
def ACs (a : Nat) : Prop := a < 63
theorem PtC.fr {σ σ' : Mm} {P A : Nat → Prop} (h : PtC σ) (hF : Fr P A σ σ') (hP : ∀ k, P k → PCs k) : PtC σ' := by
  intro q hq
  rw [hF.R (fun z => ?_)]
  · exact h q hq
  · have := List.all_eq_true.mp (hP _ z).2 q hq
    simp at this
def mptr : List (Nat × Nat) := [(4033, 64), (4043, 65), (4044, 66), (4046, 67), (4053, 68), (4054, 69), (4056, 70), (4058, 71), (4059, 72), (4062, 73), (4065, 74), (4066, 75), (4067, 76), (4068, 77), (4069, 78), (4077, 79), (4078, 80), (4082, 81)]
def PtM (σ : Mm) : Prop := ∀ q ∈ mptr, gR σ q.1 = some q.2
theorem PtM.tape {σ : Mm} (h : PtM σ) : gR σ 4033 = some 64 := h (4033, 64) (by decide)
theorem PtM.samples {σ : Mm} (h : PtM σ) : gR σ 4043 = some 65 := h (4043, 65) (by decide)
theorem PtM.colours {σ : Mm} (h : PtM σ) : gR σ 4044 = some 66 := h (4044, 66) (by decide)
theorem PtM.thins {σ : Mm} (h : PtM σ) : gR σ 4046 = some 67 := h (4046, 67) (by decide)
theorem PtM.newSamples {σ : Mm} (h : PtM σ) : gR σ 4053 = some 68 := h (4053, 68) (by decide)
theorem PtM.newColours {σ : Mm} (h : PtM σ) : gR σ 4054 = some 69 := h (4054, 69) (by decide)
theorem PtM.newThins {σ : Mm} (h : PtM σ) : gR σ 4056 = some 70 := h (4056, 70) (by decide)
theorem PtM.packed {σ : Mm} (h : PtM σ) : gR σ 4058 = some 71 := h (4058, 71) (by decide)
theorem PtM.placesOf {σ : Mm} (h : PtM σ) : gR σ 4059 = some 72 := h (4059, 72) (by decide)
theorem PtM.raw {σ : Mm} (h : PtM σ) : gR σ 4062 = some 73 := h (4062, 73) (by decide)
theorem PtM.rowPasses {σ : Mm} (h : PtM σ) : gR σ 4065 = some 74 := h (4065, 74) (by decide)
theorem PtM.rowLines {σ : Mm} (h : PtM σ) : gR σ 4066 = some 75 := h (4066, 75) (by decide)
theorem PtM.rowStarts {σ : Mm} (h : PtM σ) : gR σ 4067 = some 76 := h (4067, 76) (by decide)
theorem PtM.rowBytes {σ : Mm} (h : PtM σ) : gR σ 4068 = some 77 := h (4068, 77) (by decide)
theorem PtM.rowPoints {σ : Mm} (h : PtM σ) : gR σ 4069 = some 78 := h (4069, 78) (by decide)
theorem PtM.lengths {σ : Mm} (h : PtM σ) : gR σ 4077 = some 79 := h (4077, 79) (by decide)
theorem PtM.steps {σ : Mm} (h : PtM σ) : gR σ 4078 = some 80 := h (4078, 80) (by decide)
theorem PtM.counts {σ : Mm} (h : PtM σ) : gR σ 4082 = some 81 := h (4082, 81) (by decide)
def PMs (k : Nat) : Prop := (4032 ≤ k ∧ k < 4096) ∧ mptr.all (fun q => q.1 != k) = true
def AMs (a : Nat) : Prop := 64 ≤ a ∧ a < 82
theorem PtM.fr {σ σ' : Mm} {P A : Nat → Prop} (h : PtM σ) (hF : Fr P A σ σ') (hP : ∀ k, P k → PMs k) : PtM σ' := by
  intro q hq
  rw [hF.R (fun z => ?_)]
  · exact h q hq
  · have := List.all_eq_true.mp (hP _ z).2 q hq
    simp at this
theorem cptr_lt : ∀ q ∈ cptr, q.1 < 4032 := by decide
theorem mptr_ge : ∀ q ∈ mptr, 4032 ≤ q.1 := by decide
theorem PtM.frC {σ σ' : Mm} {P A : Nat → Prop} (h : PtM σ) (hF : Fr P A σ σ') (hP : ∀ k, P k → k < 4032) : PtM σ' := by
  intro q hq
  rw [hF.R (fun z => ?_)]
  · exact h q hq
  · have := mptr_ge q hq
    have := hP _ z
    omega
theorem PtC.frM {σ σ' : Mm} {P A : Nat → Prop} (h : PtC σ) (hF : Fr P A σ σ') (hP : ∀ k, P k → 4032 ≤ k) : PtC σ' := by
  intro q hq
  rw [hF.R (fun z => ?_)]
  · exact h q hq
  · have := cptr_lt q hq
    have := hP _ z
    omega
