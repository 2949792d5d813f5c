/-! THE LONGEST COPY -/
/-- how far the bytes from q and from p agree, at most m -/
def ml (R : Nat → Nat) (q p : Nat) : Nat → Nat
  | 0 => 0
  | m + 1 => if ml R q p m = m ∧ R (q + m) = R (p + m) then m + 1 else ml R q p m
theorem ml_le {R : Nat → Nat} {q p : Nat} (m : Nat) : ml R q p m ≤ m := by
  induction m with
  | zero => exact Nat.le_refl _
  | succ m ih => unfold ml; split <;> omega
theorem ml_pre {R : Nat → Nat} {q p : Nat} (m : Nat) : ∀ j, j < ml R q p m → R (q + j) = R (p + j) := by
  induction m with
  | zero => intro j hj; unfold ml at hj; omega
  | succ m ih =>
    intro j hj
    unfold ml at hj
    split at hj
    · next h =>
      by_cases hjm : j = m
      · subst hjm; exact h.2
      · exact ih j (by omega)
    · exact ih j hj
theorem ml_s {R : Nat → Nat} {q p j : Nat} (h : ml R q p j = j) (e : R (q + j) = R (p + j)) : ml R q p (j + 1) = j + 1 := if_pos ⟨h, e⟩
theorem ml_stop {R : Nat → Nat} {q p j : Nat} (h : ml R q p j = j) (e : ¬ R (q + j) = R (p + j)) : ∀ c, j < c → ml R q p c = j := by
  intro c
  induction c with
  | zero => intro h; omega
  | succ c ih =>
    intro hc
    unfold ml
    by_cases hj : c = j
    · subst hj
      rw [if_neg (fun z => e z.2)]
      exact h
    · rw [ih (by omega), if_neg (fun z => hj z.1.symm)]
/-- the longest copy among distances up to d, the nearest of them -/
def bst (R : Nat → Nat) (p c : Nat) : Nat → Nat × Nat
  | 0 => (0, 0)
  | d + 1 => if (bst R p c d).1 < ml R (p - (d + 1)) p c then (ml R (p - (d + 1)) p c, d + 1) else bst R p c d
theorem bst_le {R : Nat → Nat} {p c : Nat} (d : Nat) : (bst R p c d).1 ≤ c := by
  induction d with
  | zero => exact Nat.zero_le _
  | succ d ih =>
    unfold bst
    split
    · exact ml_le c
    · exact ih
theorem bst_max {R : Nat → Nat} {p c : Nat} (d : Nat) : ∀ e, 1 ≤ e → e ≤ d → ml R (p - e) p c ≤ (bst R p c d).1 := by
  induction d with
  | zero => intro e h1 h2; omega
  | succ d ih =>
    intro e h1 h2
    unfold bst
    split
    · next h =>
      by_cases he : e = d + 1
      · subst he; exact Nat.le_refl _
      · exact Nat.le_trans (ih e h1 (by omega)) (Nat.le_of_lt h)
    · next h =>
      by_cases he : e = d + 1
      · subst he; omega
      · exact ih e h1 (by omega)
theorem bst_at {R : Nat → Nat} {p c : Nat} (d : Nat) : 0 < (bst R p c d).1 → 1 ≤ (bst R p c d).2 ∧ (bst R p c d).2 ≤ d ∧ ml R (p - (bst R p c d).2) p c = (bst R p c d).1 ∧ ∀ e, 1 ≤ e → e < (bst R p c d).2 → ml R (p - e) p c < (bst R p c d).1 := by
  induction d with
  | zero => intro h; exact absurd h (Nat.lt_irrefl 0)
  | succ d ih =>
    unfold bst
    split
    · next h =>
      intro _
      refine ⟨by show 1 ≤ d + 1; omega, Nat.le_refl _, rfl, fun e h1 h2 => ?_⟩
      have h2' : e < d + 1 := h2
      exact Nat.lt_of_le_of_lt (bst_max d e h1 (by omega)) h
    · next h =>
      intro h0
      obtain ⟨a, b, c', e⟩ := ih h0
      exact ⟨a, by omega, c', e⟩
theorem bst_stop {R : Nat → Nat} {p c d : Nat} (h : c ≤ (bst R p c d).1) : ∀ k, bst R p c (d + k) = bst R p c d := by
  intro k
  induction k with
  | zero => rfl
  | succ k ih =>
    show (if (bst R p c (d + k)).1 < ml R (p - (d + k + 1)) p c then _ else bst R p c (d + k)) = _
    rw [ih, if_neg]
    have := ml_le (R := R) (q := p - (d + k + 1)) (p := p) c
    omega
theorem bst_no {R : Nat → Nat} {p c d : Nat} (h : ∀ e, 1 ≤ e → e ≤ d → ml R (p - e) p c < 3) : (bst R p c d).1 < 3 := by
  by_cases h0 : 0 < (bst R p c d).1
  · obtain ⟨a, b, e, _⟩ := bst_at d h0
    rw [← e]
    exact h _ a b
  · omega
theorem bst_yes {R : Nat → Nat} {p c d l e : Nat} (hl : 0 < l) (he1 : 1 ≤ e) (he2 : e ≤ d) (hm : ml R (p - e) p c = l) (hx : ∀ f, 1 ≤ f → f ≤ d → ml R (p - f) p c ≤ l) (hn : ∀ f, 1 ≤ f → f < e → ml R (p - f) p c < l) : bst R p c d = (l, e) := by
  have h1 := bst_max (R := R) (p := p) (c := c) d e he1 he2
  obtain ⟨a, b, g, i⟩ := bst_at (R := R) (p := p) (c := c) d (by omega)
  have h2 := hx _ a b
  have h3 : (bst R p c d).1 = l := by omega
  have h4 : (bst R p c d).2 = e := by
    rcases Nat.lt_trichotomy (bst R p c d).2 e with c1 | c1 | c1
    · have := hn _ a c1; omega
    · exact c1
    · have := i e he1 c1; omega
  exact Prod.ext h3 h4
/-- hashes and chains -/
def hs (R : Nat → Nat) (q : Nat) : Nat := (((R q <<< 8) ^^^ (R (q + 1) <<< 4)) ^^^ R (q + 2)) &&& 4095
theorem hs_lt {R : Nat → Nat} {q : Nat} : hs R q < 4096 := Nat.lt_of_le_of_lt Nat.and_le_right (by decide)
theorem hs_eq {R : Nat → Nat} {q p c : Nat} (h : 3 ≤ ml R q p c) : hs R q = hs R p := by
  have h0 := ml_pre (R := R) (q := q) (p := p) c 0 (by omega)
  have h1 := ml_pre (R := R) (q := q) (p := p) c 1 (by omega)
  have h2 := ml_pre (R := R) (q := q) (p := p) c 2 (by omega)
  rw [Nat.add_zero, Nat.add_zero] at h0
  unfold hs
  rw [h0, h1, h2]
/-- one more than the last place below m with that hash -/
def pv (R : Nat → Nat) (h : Nat) : Nat → Nat
  | 0 => 0
  | m + 1 => if hs R m = h then m + 1 else pv R h m
theorem pv_le {R : Nat → Nat} {h : Nat} (m : Nat) : pv R h m ≤ m := by
  induction m with
  | zero => exact Nat.le_refl _
  | succ m ih => unfold pv; split <;> omega
theorem pv_no {R : Nat → Nat} {h : Nat} (m : Nat) : ∀ q, pv R h m ≤ q → q < m → ¬ hs R q = h := by
  induction m with
  | zero => intro q h1 h2; omega
  | succ m ih =>
    intro q h1 h2
    unfold pv at h1
    split at h1
    · omega
    · next hh =>
      by_cases hq : q = m
      · subst hq; exact hh
      · exact ih q h1 (by omega)
theorem pv_at {R : Nat → Nat} {h : Nat} (m : Nat) : 0 < pv R h m → hs R (pv R h m - 1) = h := by
  induction m with
  | zero => intro h; exact absurd h (Nat.lt_irrefl 0)
  | succ m ih =>
    unfold pv
    split
    · next hh => intro _; exact hh
    · exact ih
/-- the heads and what came earlier, for the places below p -/
def Chn (R : Nat → Nat) (tot p : Nat) (σ : Mm) : Prop := p + 2 ≤ tot → (∀ h, h < 4096 → gB σ 36 h = N (pv R h p) - N 1) ∧ ∀ q, q < p → gB σ 37 q = N (pv R (hs R q) q) - N 1
theorem hashAt_eq {n q : Nat} {R : Nat → Nat} {x : Int32} {σ : Mm} (e : x = N q) (hp : PtC σ) (hq : q + 2 < 32888) (z0 : gB σ 7 q = N (R q)) (z1 : gB σ 7 (q + 1) = N (R (q + 1))) (z2 : gB σ 7 (q + 2) = N (R (q + 2))) : F_Packer_hashAt n 35 x σ = some (N (hs R q), σ) := by
  subst e
  have q1 := hp.Packer_raw
  apply Ok.eq
  unfold F_Packer_hashAt
  refine s_R q1 ?_
  refine s_in rfl (show q < 32888 by omega) (by omega) ?_
  refine s_R q1 ?_
  refine s_let (fun x9 hx9 => ?_)
  rw [show (1 : Int32) = N 1 from rfl, N_add] at hx9
  subst hx9
  refine s_in rfl (show q + 1 < 32888 by omega) (by omega) ?_
  refine s_R q1 ?_
  refine s_let (fun x9 hx9 => ?_)
  rw [show (2 : Int32) = N 2 from rfl, N_add] at hx9
  subst hx9
  refine s_in rfl (show q + 2 < 32888 by omega) (by omega) (Ok.some ?_)
  rw [N_nat (by omega), N_nat (by omega), N_nat (by omega), z0, z1, z2, show (8 : Int32) = N 8 from rfl, show (31 : Int32) = N 31 from rfl, show (4 : Int32) = N 4 from rfl, show (4095 : Int32) = N 4095 from rfl, N_shl (by decide), N_shl (by decide), N_xor, N_xor, N_and]
  rfl
theorem N_ne {a b : Nat} (ha : a < 4294967296) (hb : b < 4294967296) (h : ¬ a = b) : ¬ N a = N b := fun z => h ((N_inj ha hb).mp z)
theorem alike_eq {n q p c tot : Nat} {R : Nat → Nat} {x y w : Int32} {σ : Mm} (e1 : x = N q) (e2 : y = N p) (e3 : w = N c) (hn : 65536 < n) (hp : PtC σ) (hq : q < p) (hc : p + c ≤ tot) (ht : tot ≤ 32888) (hR : ∀ i, R i < 256) (z : ∀ i, i < tot → gB σ 7 i = N (R i)) : F_Packer_alike n 35 x y w σ = some (N (ml R q p c), σ) := by
  subst e1 e2 e3
  have q1 := hp.Packer_raw
  apply Ok.eq
  unfold F_Packer_alike
  refine ok_for 0 c (fun j x s => σ = s ∧ x = N j ∧ ml R q p j = j) ?_ (by omega) (by omega) ⟨rfl, rfl, rfl⟩
  rintro j k9 x s - hj ⟨rfl, rfl, hm⟩ ih
  refine s_ji ?_
  by_cases hj2 : c = j
  · subst hj2
    refine s_pos (Int32.le_refl _) (Ok.some ?_)
    rw [hm]
  · refine s_neg (by rw [N_le (by omega) (by omega)]; omega) ?_
    refine s_R q1 ?_
    refine s_let (fun x9 hx9 => ?_)
    rw [N_add] at hx9
    subst hx9
    refine s_in rfl (show q + j < 32888 by omega) (by omega) ?_
    refine s_R q1 ?_
    refine s_let (fun x9 hx9 => ?_)
    rw [N_add] at hx9
    subst hx9
    refine s_in rfl (show p + j < 32888 by omega) (by omega) ?_
    have h1 := hR (q + j)
    have h2 := hR (p + j)
    rw [N_nat (by omega), N_nat (by omega), z _ (by omega), z _ (by omega)]
    by_cases he : R (q + j) = R (p + j)
    · refine s_pos (by rw [he]) ?_
      refine s_let (fun x9 hx9 => ?_)
      rw [N_one, N_add] at hx9
      subst hx9
      exact ih (by omega) _ _ ⟨rfl, rfl, ml_s hm he⟩
    · refine s_neg (N_ne (by omega) (by omega) he) (Ok.some ?_)
      rw [ml_stop hm he c (by omega)]
theorem rem_ok {n p tot : Nat} {R : Nat → Nat} {x : Int32} {σ : Mm} (e : x = N p) (hp : PtC σ) (ht : tot ≤ 32888) (hpt : p < tot) (gt : gS σ 2244 = N tot) (z : ∀ i, i < tot → gB σ 7 i = N (R i)) (hc : Chn R tot p σ) : Ok (F_Packer_remember n 35 x σ) (fun s => Chn R tot (p + 1) s ∧ Fr PN (fun a => a = 36 ∨ a = 37) σ s) := by
  subst e
  have q1 := hp.Packer_heads
  have q2 := hp.Packer_earlier
  unfold F_Packer_remember
  refine s_ji ?_
  by_cases h3 : tot < p + 3
  · refine s_pos (by rw [gt, show (3 : Int32) = N 3 from rfl, N_add, N_lt (by omega) (by omega)]; exact h3) (Ok.some ⟨fun h => by omega, Fr.rfl⟩)
  · refine s_neg (by rw [gt, show (3 : Int32) = N 3 from rfl, N_add, N_lt (by omega) (by omega)]; exact h3) ?_
    obtain ⟨c1, c2⟩ := hc (by omega)
    have hh := hs_lt (R := R) (q := p)
    refine s_c (hashAt_eq (R := R) rfl hp (by omega) (z _ (by omega)) (z _ (by omega)) (z _ (by omega))) ?_
    refine s_R q2 ?_
    refine s_R q1 ?_
    refine s_in rfl (show hs R p < 4096 from hh) (by omega) ?_
    refine s_in rfl (show p < 32888 by omega) (by omega) ?_
    refine s_let (fun x9 hx9 => ?_)
    subst hx9
    refine s_R (show gR σ 2242 = some 36 from q1) ?_
    refine s_in rfl (show hs R p < 4096 from hh) (by omega) ?_
    refine s_let (fun x9 hx9 => ?_)
    subst hx9
    refine Ok.some ⟨fun _ => ⟨fun h hh' => ?_, fun q hq => ?_⟩, ?_⟩
    · rw [gB_eq rfl, N_nat (a := hs R p) (by omega)]
      show upd _ _ _ h = N (if hs R p = h then p + 1 else pv R h p) - N 1
      by_cases he : hs R p = h
      · rw [upd_eq he.symm, if_pos he, N_sub (by omega), Nat.add_sub_cancel]
      · rw [upd_ne (fun z => he z.symm), if_neg he, gB_ne (by decide)]
        exact c1 h hh'
    · rw [gB_ne (by decide), gB_eq rfl, N_nat (a := hs R p) (by omega), N_nat (a := p) (by omega)]
      by_cases he : q = p
      · subst he
        rw [upd_eq rfl]
        exact c1 _ hh
      · rw [upd_ne he]
        exact c2 q (by omega)
    · exact Fr.wB (Fr.wB Fr.rfl (Or.inr rfl) _ _) (Or.inl rfl) _ _
