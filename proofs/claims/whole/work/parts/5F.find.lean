/-! THE CLASS FINDS THE LONGEST COPY -/
abbrev PBd (k : Nat) : Prop := k = 2247 ∨ k = 2248
theorem PBd_C (k : Nat) (h : PBd k) : cptr.all (fun q => q.1 != k) = true := by unfold PBd at h; rcases h with h | h <;> subst h <;> decide
def BS (R : Nat → Nat) (tot p : Nat) : Nat × Nat := bst R p (min 258 (tot - p)) (min p 32768)
theorem cand_lt {c1 lo : Nat} (h1 : c1 < 100000) (h2 : lo < 100000) : N c1 - N 1 < N lo ↔ c1 ≤ lo := by
  cases c1 with
  | zero =>
    have h := N_sub_neg (a := 0) (b := 1) (by decide) (by decide)
    exact ⟨fun _ => Nat.zero_le _, fun _ => Int32.lt_of_lt_of_le h (N_nonneg (by omega))⟩
  | succ c =>
    rw [N_sub (by omega), Nat.add_sub_cancel, N_lt (by omega) (by omega)]
    omega
def Nst (R : Nat → Nat) (p c dm l : Nat) (d : Int32) : Prop := 3 ≤ l → ∃ D, d = N D ∧ 1 ≤ D ∧ D ≤ dm ∧ ml R (p - D) p c = l ∧ ∀ f, 1 ≤ f → f < D → ml R (p - f) p c < l
set_option maxHeartbeats 4000000 in
theorem find_ok {n p tot : Nat} {R : Nat → Nat} {x : Int32} {σ : Mm} (e : x = N p) (hn : 65536 < n) (hp : PtC σ) (ht : tot ≤ 32888) (hpt : p < tot) (hR : ∀ i, R i < 256) (gt : gS σ 2244 = N tot) (z : ∀ i, i < tot → gB σ 7 i = N (R i)) (hch : Chn R tot p σ) : Ok (F_Packer_findCopy n 35 x σ) (fun s => (∃ l, gS s 2247 = N l ∧ l ≤ 258 ∧ (3 ≤ (BS R tot p).1 → l = (BS R tot p).1 ∧ gS s 2248 = N (BS R tot p).2) ∧ ((BS R tot p).1 < 3 → l < 3)) ∧ Fr PBd PN σ s) := by
  subst e
  unfold BS
  obtain ⟨c, hc⟩ : ∃ c, min 258 (tot - p) = c := ⟨_, rfl⟩
  obtain ⟨dm, hdm⟩ : ∃ dm, min p 32768 = dm := ⟨_, rfl⟩
  rw [hc, hdm]
  unfold F_Packer_findCopy
  refine s_let (fun x9 hx9 => ?_)
  have f0 : Fr PBd PN σ x9 := by subst hx9; exact Fr.wS Fr.rfl (Or.inl rfl) _
  have l0 : gS x9 2247 = N 0 := by subst hx9; exact gS_eq rfl
  clear hx9
  have k0 : ∀ {s : Mm}, Fr PBd PN σ s → PtC s ∧ gS s 2244 = N tot ∧ (∀ i, i < tot → gB s 7 i = N (R i)) ∧ Chn R tot p s := fun f => ⟨hp.fr' f PBd_C, (f.S (by decide)).trans gt, fun i hi => by rw [f.B id]; exact z i hi, fun h => by rw [f.B id, f.B id]; exact hch h⟩
  obtain ⟨x1, x2, x3, x4⟩ := k0 f0
  refine s_let (fun x8 hx8 => ?_)
  have ec : x8 = N c := by
    rw [hx8, x2, N_sub (by omega), show (258 : Int32) = N 258 from rfl]
    by_cases h : tot - p < 258
    · rw [if_pos ((N_lt (by omega) (by omega)).mpr h)]; congr 1; omega
    · rw [if_neg (by rw [N_lt (by omega) (by omega)]; exact h)]; congr 1; omega
  clear hx8
  subst ec
  by_cases h3 : 3 ≤ c
  · refine s_pos (by rw [show (3 : Int32) = N 3 from rfl, N_le (by omega) (by omega)]; exact h3) ?_
    obtain ⟨c1, c2⟩ := hch (by omega)
    refine s_R x1.Packer_heads ?_
    refine s_c (hashAt_eq (R := R) rfl x1 (by omega) (x3 _ (by omega)) (x3 _ (by omega)) (x3 _ (by omega))) ?_
    have hh := hs_lt (R := R) (q := p)
    refine s_in rfl (show hs R p < 4096 from hh) (by omega) ?_
    refine s_let (fun x7 hx7 => ?_)
    rw [N_nat (by omega), f0.B id, c1 _ hh] at hx7
    subst hx7
    refine s_let (fun x7 hx7 => ?_)
    have el : x7 = N (p - dm) := by
      rw [hx7, show (32768 : Int32) = N 32768 from rfl, show (0 : Int32) = N 0 from rfl]
      by_cases h : 32768 < p
      · rw [N_sub (by omega), if_pos ((N_lt (by omega) (by omega)).mpr (by omega)), show p - 32768 = p - dm by omega]
      · rw [if_neg]
        · congr 1; omega
        · by_cases h2 : p = 32768
          · rw [h2, N_sub (by omega), N_lt (by decide) (by omega)]; omega
          · have := N_sub_neg (a := p) (b := 32768) (by omega) (by decide)
            exact fun z => absurd (Int32.lt_trans this z) (Int32.lt_irrefl)
    clear hx7
    subst el
    have hpv := pv_le (R := R) (h := hs R p) p
    refine ok_for 0 p (fun k x s => ∃ a l d, x = (N a - N 1, N k) ∧ a + k ≤ p ∧ (0 < a → hs R (a - 1) = hs R p) ∧ gS s 2247 = N l ∧ gS s 2248 = d ∧ l ≤ c ∧ (∀ e, 1 ≤ e → e ≤ dm → e + a ≤ p → 3 ≤ ml R (p - e) p c → ml R (p - e) p c ≤ l) ∧ Nst R p c dm l d ∧ Fr PBd PN σ s) ?_ (by omega) (by omega) ⟨pv R (hs R p) p, 0, _, rfl, by omega, pv_at p, l0, rfl, by omega, ?_, fun h => by omega, f0⟩
    · clear l0 f0 x1 x2 x3 x4
      rintro k k9 x s - hk ⟨a, l, d, rfl, hak, hha, g1, g2, hlc, J1, J2, f1⟩ ih
      obtain ⟨x1, x2, x3, x4⟩ := k0 f1
      have fin : (∀ e, 1 ≤ e → e ≤ dm → 3 ≤ ml R (p - e) p c → ml R (p - e) p c ≤ l) → Ok (some s) (fun s => (∃ l, gS s 2247 = N l ∧ l ≤ 258 ∧ (3 ≤ (bst R p c dm).1 → l = (bst R p c dm).1 ∧ gS s 2248 = N (bst R p c dm).2) ∧ ((bst R p c dm).1 < 3 → l < 3)) ∧ Fr PBd PN σ s) := by
        intro hJ
        refine Ok.some ⟨⟨l, g1, by omega, ?_⟩, f1⟩
        by_cases hl3 : 3 ≤ l
        · obtain ⟨D, hD, d1, d2, d3, d4⟩ := J2 hl3
          have hb := bst_yes (R := R) (p := p) (c := c) (d := dm) (by omega) d1 d2 d3 (fun f h1 h2 => by
            by_cases h9 : 3 ≤ ml R (p - f) p c
            · exact hJ f h1 h2 h9
            · omega) d4
          rw [hb]
          exact ⟨fun _ => ⟨rfl, g2.trans hD⟩, fun h => h⟩
        · have hb := bst_no (R := R) (p := p) (c := c) (d := dm) (fun f h1 h2 => by
            by_cases h9 : 3 ≤ ml R (p - f) p c
            · have := hJ f h1 h2 h9; omega
            · omega)
          exact ⟨fun h => by omega, fun _ => by omega⟩
      refine s_ji ?_
      by_cases hkp : p = k
      · subst hkp
        refine s_pos (Int32.le_refl _) (fin (fun e h1 h2 => J1 e h1 h2 (by omega)))
      refine s_neg (by rw [N_le (by omega) (by omega)]; omega) ?_
      by_cases hlo : a ≤ p - dm
      · refine s_pos ((cand_lt (by omega) (by omega)).mpr hlo) (fin (fun e h1 h2 => J1 e h1 h2 (by omega)))
      refine s_neg (by rw [cand_lt (by omega) (by omega)]; exact hlo) ?_
      by_cases hcl : c ≤ l
      · refine s_pos (by rw [g1, N_le (by omega) (by omega)]; exact hcl) (fin (fun e h1 h2 _ => Nat.le_trans (ml_le c) hcl))
      refine s_neg (by rw [g1, N_le (by omega) (by omega)]; exact hcl) ?_
      clear fin
      obtain ⟨q, rfl⟩ : ∃ q, a = q + 1 := ⟨a - 1, by omega⟩
      have hq0 : N (q + 1) - N 1 = N q := by rw [N_sub (by omega), Nat.add_sub_cancel]
      have hhq : hs R q = hs R p := hha (by omega)
      have hpq : p - (p - q) = q := by omega
      have r1 := hR (q + l)
      have r2 := hR (p + l)
      have nxt : ∀ (s' : Mm) (l' : Nat) (d' : Int32), gS s' 2247 = N l' → gS s' 2248 = d' → l' ≤ c → l ≤ l' → ml R q p c ≤ l' → Nst R p c dm l' d' → Fr PBd PN σ s' → Ok (k9 (N (pv R (hs R p) q) - N 1, N (k + 1)) s') (fun s => (∃ l, gS s 2247 = N l ∧ l ≤ 258 ∧ (3 ≤ (bst R p c dm).1 → l = (bst R p c dm).1 ∧ gS s 2248 = N (bst R p c dm).2) ∧ ((bst R p c dm).1 < 3 → l < 3)) ∧ Fr PBd PN σ s) := by
        intro s' l' d' h1 h2 h3' h4 h5 h6 h7
        have hpq' := pv_le (R := R) (h := hs R p) q
        refine ih (by omega) _ _ ⟨pv R (hs R p) q, l', d', rfl, by omega, pv_at q, h1, h2, h3', ?_, h6, h7⟩
        intro e e1 e2 e3 e4
        by_cases h8 : e + (q + 1) ≤ p
        · exact Nat.le_trans (J1 e e1 e2 h8 e4) h4
        · by_cases h9 : p - e = q
          · rw [h9]; exact h5
          · exact absurd (hs_eq e4) (pv_no q (p - e) (by omega) (by omega))
      have tail : ∀ (s' : Mm) (l' : Nat) (d' : Int32), gS s' 2247 = N l' → gS s' 2248 = d' → l' ≤ c → l ≤ l' → ml R q p c ≤ l' → Nst R p c dm l' d' → Fr PBd PN σ s' → Ok (Option.bind (gR s' (64 * 35 + 3)) fun o21 =>
kf_in (N q) (mm_kd o21).2.2 <|
kf_let (gB s' o21 (N q).toNatClampNeg : Int32) fun x22 =>
kf_let (N k + Int32.ofInt 1) fun x23 =>
k9 (x22, x23) s') (fun s => (∃ l, gS s 2247 = N l ∧ l ≤ 258 ∧ (3 ≤ (bst R p c dm).1 → l = (bst R p c dm).1 ∧ gS s 2248 = N (bst R p c dm).2) ∧ ((bst R p c dm).1 < 3 → l < 3)) ∧ Fr PBd PN σ s) := by
        intro s' l' d' h1 h2 h3' h4 h5 h6 h7
        obtain ⟨y1, y2, y3, y4⟩ := k0 h7
        refine s_R (y1.Packer_earlier) ?_
        refine s_in rfl (show q < 32888 by omega) (by omega) ?_
        refine s_let (fun x9 hx9 => ?_)
        rw [N_nat (by omega), (y4 (by omega)).2 q (by omega), hhq] at hx9
        subst hx9
        refine s_let (fun x9 hx9 => ?_)
        rw [N_one, N_add] at hx9
        subst hx9
        exact nxt s' l' d' h1 h2 h3' h4 h5 h6 h7
      clear nxt ih
      dsimp only
      rw [hq0]
      refine s_R x1.Packer_raw ?_
      refine s_let (fun x9 hx9 => ?_)
      rw [g1, N_add] at hx9
      subst hx9
      refine s_in rfl (show q + l < 32888 by omega) (by omega) ?_
      refine s_R x1.Packer_raw ?_
      refine s_let (fun x9 hx9 => ?_)
      rw [g1, N_add] at hx9
      subst hx9
      refine s_in rfl (show p + l < 32888 by omega) (by omega) ?_
      refine s_ji ?_
      rw [N_nat (by omega), N_nat (by omega), x3 _ (by omega), x3 _ (by omega)]
      by_cases he : R (q + l) = R (p + l)
      · refine s_pos (by rw [he]) ?_
        refine s_c (alike_eq (R := R) (tot := tot) rfl rfl rfl hn x1 (by omega) (by omega) ht hR x3) ?_
        have hml := ml_le (R := R) (q := q) (p := p) c
        by_cases hle : ml R q p c ≤ l
        · refine s_pos (by rw [g1, N_le (by omega) (by omega)]; exact hle) ?_
          exact tail s l d g1 g2 hlc (Nat.le_refl _) hle J2 f1
        · refine s_neg (by rw [g1, N_le (by omega) (by omega)]; exact hle) ?_
          refine s_let (fun s8 hs8 => ?_)
          refine s_let (fun s7 hs7 => ?_)
          subst hs8
          have e1 : gS s7 2247 = N (ml R q p c) := by rw [hs7, gS_ne (by decide)]; exact gS_eq rfl
          have e2 : gS s7 2248 = N (p - q) := by rw [hs7, gS_eq rfl, N_sub (by omega)]
          have e3 : Fr PBd PN σ s7 := by rw [hs7]; exact Fr.wS (Fr.wS f1 (Or.inl rfl) _) (Or.inr rfl) _
          refine tail s7 (ml R q p c) _ e1 e2 hml (by omega) (Nat.le_refl _) (fun h9 => ⟨p - q, rfl, by omega, by omega, by rw [hpq], fun f h1 h2 => ?_⟩) e3
          by_cases h8 : 3 ≤ ml R (p - f) p c
          · have := J1 f h1 (by omega) (by omega) h8
            omega
          · omega
      · refine s_neg (N_ne (by omega) (by omega) he) ?_
        refine tail s l d g1 g2 hlc (Nat.le_refl _) ?_ J2 f1
        by_cases h8 : ml R q p c ≤ l
        · exact h8
        · exact absurd (ml_pre c l (by omega)) he
    · intro e e1 e2 e3 e4
      exact absurd (hs_eq e4) (pv_no p (p - e) (by omega) (by omega))
  · refine s_neg (by rw [show (3 : Int32) = N 3 from rfl, N_le (by omega) (by omega)]; exact h3) (Ok.some ⟨⟨0, l0, by omega, fun h => ?_, fun _ => by omega⟩, f0⟩)
    have := bst_le (R := R) (p := p) (c := c) dm
    omega
