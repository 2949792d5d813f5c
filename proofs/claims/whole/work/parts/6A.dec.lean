/-! TWO RUNS BESIDE EACH OTHER -/
theorem Ok.sw {X Y : Type} {f : Option X} {g : Option Y} {Q : X → Y → Prop} (h : Ok f (fun x => Ok g (fun y => Q x y))) : Ok g (fun y => Ok f (fun x => Q x y)) := by
  obtain ⟨x, e, y, e2, h⟩ := h
  exact ⟨y, e2, x, e, h⟩
theorem ok_l2 {α β X Y : Type} {b1 : (α → Mm → Option X) → α → Mm → Option X} {b2 : (β → Mm → Option Y) → β → Mm → Option Y} {Q : X → Y → Prop} (Inv : Nat → α → Mm → β → Mm → Prop) (hb : ∀ m k1 k2 a1 s1 a2 s2, Inv m a1 s1 a2 s2 → (∀ m' a1' s1' a2' s2', m' < m → Inv m' a1' s1' a2' s2' → Ok (k1 a1' s1') (fun x => Ok (k2 a2' s2') (fun y => Q x y))) → Ok (b1 k1 a1 s1) (fun x => Ok (b2 k2 a2 s2) (fun y => Q x y))) : ∀ n1 n2 m a1 s1 a2 s2, m < n1 → m < n2 → Inv m a1 s1 a2 s2 → Ok (kf_l n1 b1 a1 s1) (fun x => Ok (kf_l n2 b2 a2 s2) (fun y => Q x y)) := by
  intro n1
  induction n1 with
  | zero => intro n2 m a1 s1 a2 s2 h; omega
  | succ n1 ih =>
    intro n2 m a1 s1 a2 s2 h1 h2 hI
    cases n2 with
    | zero => omega
    | succ n2 => exact hb m (kf_l n1 b1) (kf_l n2 b2) a1 s1 a2 s2 hI (fun m' a1' s1' a2' s2' h' hI' => ih n2 m' a1' s1' a2' s2' (by omega) (by omega) hI')
theorem ok_for2 {α β X Y : Type} {b1 : (α → Mm → Option X) → α → Mm → Option X} {b2 : (β → Mm → Option Y) → β → Mm → Option Y} {Q : X → Y → Prop} (lo hi : Nat) (Inv : Nat → α → Mm → β → Mm → Prop) (hs : ∀ i k1 k2 a1 s1 a2 s2, lo ≤ i → i ≤ hi → Inv i a1 s1 a2 s2 → (i < hi → ∀ a1' s1' a2' s2', Inv (i + 1) a1' s1' a2' s2' → Ok (k1 a1' s1') (fun x => Ok (k2 a2' s2') (fun y => Q x y))) → Ok (b1 k1 a1 s1) (fun x => Ok (b2 k2 a2 s2) (fun y => Q x y))) {n1 n2 : Nat} {a1 : α} {a2 : β} {s1 s2 : Mm} (h1 : hi - lo < n1) (h2 : hi - lo < n2) (hlh : lo ≤ hi) (h0 : Inv lo a1 s1 a2 s2) : Ok (kf_l n1 b1 a1 s1) (fun x => Ok (kf_l n2 b2 a2 s2) (fun y => Q x y)) := by
  refine ok_l2 (fun m a1 s1 a2 s2 => ∃ i, m = hi - i ∧ lo ≤ i ∧ i ≤ hi ∧ Inv i a1 s1 a2 s2) ?_ n1 n2 (hi - lo) a1 s1 a2 s2 h1 h2 ⟨lo, rfl, Nat.le_refl _, hlh, h0⟩
  rintro m k1 k2 a1 s1 a2 s2 ⟨i, rfl, c1, c2, c3⟩ ih
  exact hs i k1 k2 a1 s1 a2 s2 c1 c2 c3 (fun h4 a1' s1' a2' s2' h5 => ih (hi - (i + 1)) a1' s1' a2' s2' (by omega) ⟨i + 1, rfl, by omega, h4, h5⟩)
/-! CODES READ -/
/-- the first code behind length L -/
def Gk (ls : Nat → Nat) (cnt : Nat) : Nat → Nat
  | 0 => 0
  | l + 1 => 2 * Gk ls cnt l + cn ls (l + 1) cnt
def Full (ls : Nat → Nat) (cnt : Nat) : Prop := Gk ls cnt 15 = 32768
theorem Gk_up {ls : Nat → Nat} {cnt l k : Nat} : Gk ls cnt l * 2 ^ k ≤ Gk ls cnt (l + k) := by
  induction k with
  | zero => rw [Nat.pow_zero, Nat.mul_one]; exact Nat.le_refl _
  | succ k ih =>
    show _ ≤ 2 * Gk ls cnt (l + k) + cn ls (l + k + 1) cnt
    rw [Nat.pow_succ, ← Nat.mul_assoc]
    omega
theorem Gk_full {ls : Nat → Nat} {cnt l : Nat} (h : Full ls cnt) (hl : l ≤ 15) : Gk ls cnt l ≤ 2 ^ l := by
  have h1 := Gk_up (ls := ls) (cnt := cnt) (l := l) (k := 15 - l)
  rw [show l + (15 - l) = 15 by omega, h] at h1
  have h2 : (32768 : Nat) = 2 ^ l * 2 ^ (15 - l) := by rw [← Nat.pow_add, show l + (15 - l) = 15 by omega]
  rw [h2] at h1
  exact Nat.le_of_mul_le_mul_right h1 (Nat.pow_pos (by decide))
theorem cn_ex {ls : Nat → Nat} {L : Nat} : ∀ n j, j < cn ls L n → ∃ k, k < n ∧ ls k = L ∧ cn ls L k = j := by
  intro n
  induction n with
  | zero => intro j h; exact absurd h (Nat.not_lt_zero _)
  | succ n ih =>
    intro j h
    by_cases hj : j < cn ls L n
    · obtain ⟨k, a, b, c⟩ := ih j hj
      exact ⟨k, by omega, b, c⟩
    · unfold cn at h
      by_cases hL : ls n = L
      · rw [if_pos hL] at h
        exact ⟨n, by omega, hL, by omega⟩
      · rw [if_neg hL] at h
        omega
theorem lng_le {ls : Nat → Nat} {n : Nat} (l : Nat) : lng ls n l ≤ l := by
  induction l with
  | zero => exact Nat.le_refl _
  | succ l ih => unfold lng; split <;> omega
theorem lng_no {ls : Nat → Nat} {n : Nat} (L : Nat) : ∀ l, lng ls n L < l → l ≤ L → cn ls l n = 0 := by
  induction L with
  | zero => intro l h1 h2; unfold lng at h1; omega
  | succ L ih =>
    intro l h1 h2
    unfold lng at h1
    split at h1
    · omega
    · by_cases hl : l = L + 1
      · subst hl; omega
      · exact ih l h1 (by omega)
theorem lng_yes {ls : Nat → Nat} {n : Nat} (L : Nat) : 0 < lng ls n L → 0 < cn ls (lng ls n L) n := by
  induction L with
  | zero => intro h; exact absurd h (Nat.lt_irrefl 0)
  | succ L ih =>
    unfold lng
    split
    · next h => intro _; exact h
    · exact ih
/-- the longest among the first k -/
def mxl (ls : Nat → Nat) : Nat → Nat
  | 0 => 0
  | k + 1 => if mxl ls k < ls k then ls k else mxl ls k
theorem mxl_le {ls : Nat → Nat} : ∀ n k, k < n → ls k ≤ mxl ls n := by
  intro n
  induction n with
  | zero => intro k h; omega
  | succ n ih =>
    intro k h
    unfold mxl
    split
    · next hh =>
      by_cases hk : k = n
      · subst hk; exact Nat.le_refl _
      · exact Nat.le_trans (ih k (by omega)) (Nat.le_of_lt hh)
    · next hh =>
      by_cases hk : k = n
      · subst hk; omega
      · exact ih k (by omega)
theorem mxl_at {ls : Nat → Nat} : ∀ n, 0 < mxl ls n → ∃ k, k < n ∧ ls k = mxl ls n := by
  intro n
  induction n with
  | zero => intro h; exact absurd h (Nat.lt_irrefl 0)
  | succ n ih =>
    unfold mxl
    split
    · intro _; exact ⟨n, by omega, rfl⟩
    · intro h
      obtain ⟨k, a, b⟩ := ih h
      exact ⟨k, by omega, b⟩
theorem cn_pos {ls : Nat → Nat} {n k : Nat} (h : k < n) : 0 < cn ls (ls k) n := Nat.lt_of_le_of_lt (Nat.zero_le _) (cn_lt h)
theorem mxl_lng {ls : Nat → Nat} {n : Nat} (h : ∀ k, k < n → ls k ≤ 15) : mxl ls n = lng ls n 15 := by
  have a := lng_le (ls := ls) (n := n) 15
  apply Nat.le_antisymm
  · by_cases h0 : 0 < mxl ls n
    · obtain ⟨k, h1, h2⟩ := mxl_at n h0
      by_cases h3 : mxl ls n ≤ lng ls n 15
      · exact h3
      · have h4 := lng_no (ls := ls) (n := n) 15 (mxl ls n) (by omega) (by rw [← h2]; exact h k h1)
        have h5 := cn_pos (ls := ls) h1
        rw [h2] at h5
        omega
    · omega
  · by_cases h0 : 0 < lng ls n 15
    · have h1 := lng_yes (ls := ls) (n := n) 15 h0
      obtain ⟨k, h2, h3, _⟩ := cn_ex n 0 h1
      rw [← h3]
      exact mxl_le n k h2
    · omega
theorem cn_0 {ls : Nat → Nat} {L : Nat} : ∀ n, (∀ k, k < n → ls k ≠ L) → cn ls L n = 0 := by
  intro n
  induction n with
  | zero => intro _; rfl
  | succ n ih =>
    intro h
    show cn ls L n + _ = 0
    rw [ih (fun k hk => h k (by omega)), if_neg (h n (by omega))]
theorem Md_count_ok {n base cnt : Nat} {ls : Nat → Nat} {x y : Int32} {s : Mm} (e1 : x = N base) (e2 : y = N cnt) (hn : 1000 < n) (hX : PtX s) (hb : base + cnt ≤ 320) (hls : ∀ k, k < cnt → ls k ≤ 15) (hL : ∀ k, k < cnt → gB s 79 (base + k) = N (ls k)) : Ok (F_Md_count n 63 x y s) (fun s' => (∀ l, l ≤ 15 → gB s' 81 l = N (cn ls l cnt)) ∧ gS s' 4083 = N (mxl ls cnt) ∧ FM [4083] [81] s s') := by
  subst e1 e2
  unfold F_Md_count
  refine s_let (fun s0 h0 => ?_)
  have f0 : FM [4083] [81] s s0 := by rw [h0]; exact (FM.rfl hX).wS (by decide) _
  have g0 : gS s0 4083 = N 0 := by rw [h0]; exact gS_eq rfl
  clear h0
  refine ok_for 0 16 (fun j x s' => x = N j ∧ gS s' 4083 = N 0 ∧ (∀ l, l < j → gB s' 81 l = N 0) ∧ FM [4083] [81] s s') ?_ (by omega) (by omega) ⟨rfl, g0, fun l hl => by omega, f0⟩
  rintro j k9 x s1 - hj ⟨rfl, g1, z1, f1⟩ ih
  by_cases hj16 : j = 16
  · subst hj16
    refine s_pos (Int32.le_refl _) ?_
    refine ok_for 0 cnt (fun i x s' => x = N i ∧ gS s' 4083 = N (mxl ls i) ∧ (∀ l, l ≤ 15 → gB s' 81 l = N (cn ls l i)) ∧ FM [4083] [81] s s') ?_ (by omega) (by omega) ⟨rfl, g1, fun l hl => z1 l (by omega), f1⟩
    clear ih z1 f1 g1
    rintro i k8 x s2 - hi ⟨rfl, g2, z2, f2⟩ ih
    by_cases hie : cnt = i
    · subst hie
      exact s_pos (Int32.le_refl _) (Ok.some ⟨z2, g2, f2⟩)
    · refine s_neg (by rw [N_le (by omega) (by omega)]; omega) ?_
      have hl15 := hls i (by omega)
      have hLi : gB s2 79 (base + i) = N (ls i) := by rw [f2.2.B (by decide)]; exact hL i (by omega)
      have hmx : mxl ls i ≤ 15 := by
        by_cases h0 : 0 < mxl ls i
        · obtain ⟨k, a, b⟩ := mxl_at i h0
          rw [← b]; exact hls k (by omega)
        · omega
      refine s_R f2.1.2.counts ?_
      refine s_R f2.1.2.lengths ?_
      refine s_let (fun x9 hx9 => ?_)
      rw [N_add] at hx9
      subst hx9
      refine s_in rfl (show base + i < 320 by omega) (by omega) ?_
      refine s_let (fun x9 hx9 => ?_)
      rw [N_nat (by omega), hLi] at hx9
      subst hx9
      refine s_in rfl (show ls i < 16 by omega) (by omega) ?_
      refine s_in rfl (show ls i < 16 by omega) (by omega) ?_
      refine s_let (fun s3 h3 => ?_)
      rw [N_nat (by omega), z2 _ hl15, show (1 : Int32) = N 1 from rfl, N_add] at h3
      have f3 : FM [4083] [81] s s3 := by rw [h3]; exact f2.wB (by decide) _ _
      have z3 : ∀ l, l ≤ 15 → gB s3 81 l = N (cn ls l (i + 1)) := by
        intro l hl
        rw [h3, gB_eq rfl]
        show upd _ _ _ l = N (cn ls l i + if ls i = l then 1 else 0)
        by_cases hll : ls i = l
        · rw [upd_eq hll.symm, if_pos hll, hll]
        · rw [upd_ne (fun z => hll z.symm), if_neg hll]
          exact z2 l hl
      have g3 : gS s3 4083 = N (mxl ls i) := by rw [h3]; exact g2
      have hLi3 : gB s3 79 (base + i) = N (ls i) := by rw [f3.2.B (by decide)]; exact hL i (by omega)
      clear h3
      refine s_R f3.1.2.lengths ?_
      refine s_let (fun x9 hx9 => ?_)
      rw [N_add] at hx9
      subst hx9
      refine s_in rfl (show base + i < 320 by omega) (by omega) ?_
      rw [N_nat (by omega), hLi3]
      refine s_c (Md_max_eq g3 rfl (by omega) (by omega)) ?_
      refine s_let (fun s4 h4 => ?_)
      refine s_let (fun x9 hx9 => ?_)
      rw [N_one, N_add] at hx9
      subst hx9
      refine ih (by omega) _ _ ⟨rfl, ?_, ?_, ?_⟩
      · rw [h4]; exact gS_eq rfl
      · rw [h4]; exact z3
      · rw [h4]; exact f3.wS (by decide) _
  · refine s_neg (by rw [show (16 : Int32) = N 16 from rfl, N_le (by omega) (by omega)]; omega) ?_
    refine s_R f1.1.2.counts ?_
    refine s_in rfl (show j < 16 by omega) (by omega) ?_
    refine s_let (fun s2 h2 => ?_)
    rw [N_nat (by omega)] at h2
    refine s_let (fun x9 hx9 => ?_)
    rw [N_one, N_add] at hx9
    subst hx9
    refine ih (by omega) _ _ ⟨rfl, ?_, ?_, ?_⟩
    · rw [h2]; exact g1
    · intro l hl
      rw [h2, gB_eq rfl]
      by_cases hll : l = j
      · rw [upd_eq hll]; rfl
      · rw [upd_ne hll]; exact z1 l (by omega)
    · rw [h2]; exact f1.wB (by decide) _ _
