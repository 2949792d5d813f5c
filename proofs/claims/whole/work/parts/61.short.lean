/-! SHORT PACKING -/
def shR (R : Nat → Nat) (tot : Nat) : Nat → Nat → ((Nat → Nat) × Nat) × Nat × Nat → ((Nat → Nat) × Nat) × Nat × Nat
  | 0, _, B => B
  | f + 1, p, B => if tot ≤ p then B else if 3 ≤ (BS R tot p).1 then shR R tot f (p + (BS R tot p).1) (cpB B (BS R tot p).1 (BS R tot p).2) else shR R tot f (p + 1) (sg B (R p))
def pd (B : ((Nat → Nat) × Nat) × Nat × Nat) : ((Nat → Nat) × Nat) × Nat × Nat := nmB B 0 ((8 - B.2.2) % 8)
def srB (S : (Nat → Nat) × Nat) (R : Nat → Nat) (tot : Nat) : ((Nat → Nat) × Nat) × Nat × Nat := shR R tot tot 0 (nmB (S, 0, 0) 3 3)
def srt (S : (Nat → Nat) × Nat) (R : Nat → Nat) (tot : Nat) : (Nat → Nat) × Nat := (pd (sg (srB S R tot) 256)).1
theorem BS_b {R : Nat → Nat} {tot p : Nat} (h : 3 ≤ (BS R tot p).1) : (BS R tot p).1 ≤ 258 ∧ (BS R tot p).1 ≤ tot - p ∧ 1 ≤ (BS R tot p).2 ∧ (BS R tot p).2 ≤ p ∧ (BS R tot p).2 ≤ 32768 := by
  unfold BS at *
  have a := bst_le (R := R) (p := p) (c := min 258 (tot - p)) (min p 32768)
  obtain ⟨b, c, _, _⟩ := bst_at (R := R) (p := p) (c := min 258 (tot - p)) (min p 32768) (by omega)
  omega
theorem shR_ok {R : Nat → Nat} {tot b0 : Nat} : ∀ f p B, p ≤ tot → Bok B → bl B ≤ b0 + 11 * p → Bok (shR R tot f p B) ∧ bl (shR R tot f p B) ≤ b0 + 11 * tot := by
  intro f
  induction f with
  | zero => intro p B hp hB hb; exact ⟨hB, by show bl B ≤ _; omega⟩
  | succ f ih =>
    intro p B hp hB hb
    unfold shR
    split
    · exact ⟨hB, by omega⟩
    · split
      · next h3 =>
        have := BS_b h3
        have c := cpB_ok (l := (BS R tot p).1) (d := (BS R tot p).2) hB
        exact ih _ _ (by omega) c.1 (by omega)
      · have c := sg_ok (s := R p) hB
        exact ih _ _ (by omega) c.1 (by omega)
theorem shR_key {R : Nat → Nat} {tot : Nat} : ∀ f g p B, tot - p ≤ f → tot - p ≤ g → shR R tot f p B = shR R tot g p B := by
  intro f
  induction f with
  | zero =>
    intro g p B h1 h2
    cases g with
    | zero => rfl
    | succ g => unfold shR; rw [if_pos (by omega)]
  | succ f ihf =>
    intro g p B h1 h2
    cases g with
    | zero => unfold shR; rw [if_pos (by omega)]
    | succ g =>
      unfold shR
      split
      · rfl
      · split
        · exact ihf g _ _ (by omega) (by omega)
        · exact ihf g _ _ (by omega) (by omega)
theorem shR_b {R : Nat → Nat} {tot : Nat} : ∀ f p B, Bok B → Sb B.1 → Sb (shR R tot f p B).1 := by
  intro f
  induction f with
  | zero => intro p B hB hb; exact hb
  | succ f ih =>
    intro p B hB hb
    unfold shR
    split
    · exact hb
    · split
      · exact ih _ _ (cpB_ok hB).1 (cpB_b hB hb)
      · exact ih _ _ (sg_ok hB).1 (cdB_b hB hb)
theorem pd_ok {B : ((Nat → Nat) × Nat) × Nat × Nat} (h : Bok B) : Bok (pd B) ∧ bl (pd B) ≤ bl B + 7 := by
  have := nmB_ok (v := 0) (m := (8 - B.2.2) % 8) h
  refine ⟨this.1, ?_⟩
  show bl (nmB _ _ _) ≤ _
  omega
theorem srB_ok {S : (Nat → Nat) × Nat} {R : Nat → Nat} {tot : Nat} : Bok (srB S R tot) ∧ bl (srB S R tot) ≤ 8 * S.2 + 3 + 11 * tot := by
  have h0 : Bok ((S, 0, 0) : ((Nat → Nat) × Nat) × Nat × Nat) := ⟨(by decide : 0 < 8), (by decide : 0 < 2 ^ 0)⟩
  have h1 := nmB_ok (v := 3) (m := 3) h0
  exact shR_ok (b0 := 8 * S.2 + 3) tot 0 _ (Nat.zero_le _) h1.1 (by rw [h1.2]; show 8 * S.2 + 0 + 3 ≤ _; omega)
theorem srt_2 {S : (Nat → Nat) × Nat} {R : Nat → Nat} {tot : Nat} : 8 * (srt S R tot).2 ≤ 8 * S.2 + 19 + 11 * tot := by
  have a := srB_ok (S := S) (R := R) (tot := tot)
  have b := sg_ok (s := 256) a.1
  have c := pd_ok b.1
  unfold srt
  have : 8 * (pd (sg (srB S R tot) 256)).1.2 ≤ bl (pd (sg (srB S R tot) 256)) := by unfold bl; omega
  omega
theorem srt_b {S : (Nat → Nat) × Nat} {R : Nat → Nat} {tot : Nat} (h : Sb S) : Sb (srt S R tot) := by
  have h0 : Bok ((S, 0, 0) : ((Nat → Nat) × Nat) × Nat × Nat) := ⟨(by decide : 0 < 8), (by decide : 0 < 2 ^ 0)⟩
  have h1 := nmB_ok (v := 3) (m := 3) h0
  have a := srB_ok (S := S) (R := R) (tot := tot)
  have b := sg_ok (s := 256) a.1
  exact nmB_b b.1 (cdB_b a.1 (shR_b _ _ _ h1.1 (nmB_b h0 h)))
abbrev PSh (k : Nat) : Prop := PCb k ∨ PBd k ∨ k = 2244
abbrev ASh (a : Nat) : Prop := AT a ∨ a = 36 ∨ a = 37
theorem PSh_C (k : Nat) (h : PSh k) : cptr.all (fun q => q.1 != k) = true := by
  rcases h with h | h | h
  · exact PCb_C k h
  · exact PBd_C k h
  · subst h; decide
theorem BC.fr {P A : Nat → Prop} {B : ((Nat → Nat) × Nat) × Nat × Nat} {σ s : Mm} (h : BC B σ) (f : Fr P A σ s) (h1 : ¬ P 129) (h2 : ¬ P 2245) (h3 : ¬ P 2246) (h4 : ¬ A 3) : BC B s := ⟨⟨(f.S h1).trans h.1.1, h.1.2.1, h.1.2.2.1, fun i hi => by rw [f.B h4]; exact h.1.2.2.2 i hi⟩, (f.S h2).trans h.2.1, (f.S h3).trans h.2.2⟩
theorem N_mi1 : (-1 : Int32) = N 4294967295 := by decide
theorem nm33 {B : ((Nat → Nat) × Nat) × Nat × Nat} : nmB (nmB B 1 1) 1 2 = nmB B 3 3 := rfl
set_option maxHeartbeats 4000000 in
theorem packShort_ok {n tot : Nat} {R : Nat → Nat} {S : (Nat → Nat) × Nat} {σ : Mm} {x : Int32} (e : x = N tot) (hn : 65536 < n) (hp : PtC σ) (hst : Stat σ) (ht : tot ≤ 32888) (hR : ∀ i, R i < 256) (hS : TapeC S.1 S.2 σ) (z : ∀ i, i < tot → gB σ 7 i = N (R i)) (hl : 8 * S.2 + 11 * tot + 400 < 524288) : Ok (F_Packer_packShort n 35 x σ) (fun s => TapeC (srt S R tot).1 (srt S R tot).2 s ∧ Fr PSh ASh σ s) := by
  subst e
  have q0 : ∀ {s : Mm}, Fr PSh ASh σ s → PtC s ∧ Stat s ∧ ∀ i, i < tot → gB s 7 i = N (R i) := fun f => ⟨hp.fr' f PSh_C, fun a ha => by rw [f.B (by unfold ASh AT; omega)]; exact hst a ha, fun i hi => by rw [f.B (by decide)]; exact z i hi⟩
  have u1 : ∀ {s s' : Mm}, Fr PCb AT s s' → Fr PSh ASh s s' := fun f => f.mono (fun _ h => Or.inl h) (fun _ h => Or.inl h)
  have u2 : ∀ {s s' : Mm}, Fr PBd PN s s' → Fr PSh ASh s s' := fun f => f.mono (fun _ h => Or.inr (Or.inl h)) (fun _ h => h.elim)
  have u3 : ∀ {s s' : Mm}, Fr PN (fun a => a = 36 ∨ a = 37) s s' → Fr PSh ASh s s' := fun f => f.mono PN.e (fun _ h => Or.inr h)
  unfold F_Packer_packShort
  refine s_let (fun s1 h1 => ?_)
  refine s_let (fun s2 h2 => ?_)
  refine s_let (fun s3 h3 => ?_)
  have f3 : Fr PSh ASh σ s3 := by
    rw [h3, h2, h1]
    exact Fr.wS (Fr.wS (Fr.wS Fr.rfl (Or.inr (Or.inr rfl)) _) (Or.inl (Or.inr (Or.inl rfl))) _) (Or.inl (Or.inr (Or.inr rfl))) _
  have gt3 : gS s3 2244 = N tot := by rw [h3, h2, h1, gS_ne (by decide), gS_ne (by decide)]; exact gS_eq rfl
  have b3 : BC (S, 0, 0) s3 := by
    refine ⟨⟨?_, hS.2.1, hS.2.2.1, ?_⟩, ?_, ?_⟩
    · rw [h3, h2, h1, gS_ne (by decide), gS_ne (by decide), gS_ne (by decide)]; exact hS.1
    · intro i hi
      rw [h3, h2, h1]
      exact hS.2.2.2 i hi
    · rw [h3, h2, gS_ne (by decide)]; exact gS_eq rfl
    · rw [h3]; exact gS_eq rfl
  clear h1 h2 h3 s1 s2
  obtain ⟨x1, x2, x3⟩ := q0 f3
  refine s_R x1.Packer_heads ?_
  rw [N_mi1]
  refine (Arr_fill_ok (a := 36) (len := 4096) rfl (by omega) (by decide)).bind ?_
  rintro s4 ⟨y1, fa⟩
  have fa' : Fr PN (fun a => a = 36 ∨ a = 37) s3 s4 := fa.mono PN.e (fun _ h => Or.inl h)
  have f4 := f3.trans (u3 fa')
  have b4 : BC (S, 0, 0) s4 := b3.fr fa' id id id (by decide)
  have gt4 : gS s4 2244 = N tot := (fa.S id).trans gt3
  clear x1 x2 x3
  obtain ⟨x1, x2, x3⟩ := q0 f4
  have h0 : Bok ((S, 0, 0) : ((Nat → Nat) × Nat) × Nat × Nat) := ⟨(by decide : 0 < 8), (by decide : 0 < 2 ^ 0)⟩
  have o1 := nmB_ok (v := 1) (m := 1) h0
  have o2 := nmB_ok (v := 1) (m := 2) o1.1
  have bl0 : bl ((S, 0, 0) : ((Nat → Nat) × Nat) × Nat × Nat) = 8 * S.2 := rfl
  have lb1 : (nmB ((S, 0, 0) : ((Nat → Nat) × Nat) × Nat × Nat) 1 1).1.2 + 10 < 65536 := by have h9 := o1.2; rw [bl0] at h9; unfold bl at h9; omega
  refine (nm_C (v := 1) (m := 1) rfl rfl (by omega) x1 b4 h0 (by decide) (by decide) (by show S.2 + 10 < _; omega)).bind ?_
  rintro s5 ⟨b5, f5⟩
  have f5' := f4.trans (u1 f5)
  refine (nm_C (v := 1) (m := 2) rfl rfl (by omega) (q0 f5').1 b5 o1.1 (by decide) (by decide) lb1).bind ?_
  rintro s6 ⟨b6, f6⟩
  have f6' := f5'.trans (u1 f6)
  rw [nm33] at b6 o2
  have gt6 : gS s6 2244 = N tot := by rw [f6.S (by decide), f5.S (by decide)]; exact gt4
  have c6 : Chn R tot 0 s6 := fun _ => ⟨fun h hh => by
    rw [f6.B (by decide), f5.B (by decide), y1 h hh]
    show N 4294967295 = N 0 - N 1
    decide, fun q hq => by omega⟩
  have bl6 : bl (nmB ((S, 0, 0) : ((Nat → Nat) × Nat) × Nat × Nat) 3 3) ≤ 8 * S.2 + 3 + 11 * 0 := by rw [o2.2, o1.2, bl0]; omega
  clear b3 b4 b5 f3 f4 f5 f5' f6 x1 x2 x3 y1 fa fa' gt3 gt4 lb1 o1
  refine ok_l (fun m x s => ∃ p k B, m = tot - p ∧ p ≤ tot ∧ k ≤ p ∧ x = (N p, N k) ∧ BC B s ∧ Bok B ∧ bl B ≤ 8 * S.2 + 3 + 11 * p ∧ Chn R tot p s ∧ (∀ f, tot - p ≤ f → shR R tot f p B = srB S R tot) ∧ gS s 2244 = N tot ∧ Fr PSh ASh σ s) ?_ n (tot - 0) (0, 0) s6 (by omega) ⟨0, 0, _, rfl, by omega, by omega, rfl, b6, o2.1, bl6, c6, ?_, gt6, f6'⟩
  · clear b6 bl6 c6 gt6 f6' o2 h0
    rintro m k9 x s ⟨p, k, B, rfl, hpt, hkp, rfl, hb, hB, hbl, hch, hsh, gt, f⟩ ih
    obtain ⟨x1, x2, x3⟩ := q0 f
    have hlen : B.1.2 + 30 < 65536 := by unfold bl at hbl; omega
    refine s_ji ?_
    by_cases hpe : tot ≤ p
    · have hpp : p = tot := by omega
      subst hpp
      have hBe : B = srB S R p := by
        have := hsh 0 (by omega)
        exact this
      have fin : Ok (Option.bind (F_Packer_addSign n 35 256 s) fun σ14 =>
kf_j (α := Unit) (fun x16 σ17 =>
some σ17) fun k15 =>
if (gS σ14 (64 * 35 + 6)) ≤ 0 then (
k15 () σ14) else (
Option.bind (F_Packer_addBits n 35 0 ((8 : Int32) - (gS σ14 (64 * 35 + 6))) σ14) fun σ18 =>
k15 () σ18)) (fun s => TapeC (srt S R p).1 (srt S R p).2 s ∧ Fr PSh ASh σ s) := by
        have o3 := sg_ok (s := 256) hB
        refine (C_sign (s := 256) rfl (by omega) x1 hb hB (by decide) (by omega)).bind ?_
        rintro s7 ⟨b7, f7⟩
        have f7' := f.trans (u1 f7)
        refine s_ji ?_
        have h8 := o3.1.1
        have g8 : gS s7 2246 = N (sg B 256).2.2 := b7.2.2
        have lb7 : (sg B 256).1.2 + 10 < 65536 := by have := o3.2; unfold bl at *; omega
        by_cases hz : (sg B 256).2.2 = 0
        · refine s_pos (by rw [g8, hz]; decide) (Ok.some ⟨?_, f7'⟩)
          have : srt S R p = (sg B 256).1 := by
            unfold srt pd
            rw [← hBe, hz]
            rfl
          rw [this]
          exact b7.1
        · refine s_neg (by rw [g8, show (0 : Int32) = N 0 from rfl, N_le (by omega) (by decide)]; omega) ?_
          refine (nm_C (v := 0) (m := 8 - (sg B 256).2.2) rfl (by rw [g8, show (8 : Int32) = N 8 from rfl, N_sub (by omega)]) (by omega) (q0 f7').1 b7 o3.1 (Nat.pow_pos (by decide)) (by omega) lb7).bind ?_
          rintro s8 ⟨b8, f8⟩
          refine Ok.some ⟨?_, f7'.trans (u1 f8)⟩
          have : srt S R p = (nmB (sg B 256) 0 (8 - (sg B 256).2.2)).1 := by
            unfold srt pd
            rw [← hBe, Nat.mod_eq_of_lt (by omega)]
          rw [this]
          exact b8.1
      by_cases hke : p ≤ k
      · refine s_pos (by rw [gt, N_le (by omega) (by omega)]; exact hke) fin
      · refine s_neg (by rw [gt, N_le (by omega) (by omega)]; exact hke) ?_
        refine s_pos (by rw [gt]; exact Int32.le_refl _) fin
    · refine s_neg (by rw [gt, N_le (by omega) (by omega)]; omega) ?_
      refine s_neg (by rw [gt, N_le (by omega) (by omega)]; omega) ?_
      refine (find_ok (tot := tot) (R := R) rfl hn x1 ht (by omega) hR gt x3 hch).bind ?_
      rintro s7 ⟨⟨l, g1, g2, g3, g4⟩, f7⟩
      have f7' := f.trans (u2 f7)
      have hb7 := hb.fr f7 (by decide) (by decide) (by decide) id
      have gt7 : gS s7 2244 = N tot := (f7.S (by decide)).trans gt
      have ch7 : Chn R tot p s7 := fun h => by rw [f7.B id, f7.B id]; exact hch h
      obtain ⟨y1, y2, y3⟩ := q0 f7'
      refine s_ji ?_
      have stepped : ∀ (len : Nat) (B' : ((Nat → Nat) × Nat) × Nat × Nat) (s8 : Mm), 1 ≤ len → p + len ≤ tot → BC B' s8 → Bok B' → bl B' ≤ 8 * S.2 + 3 + 11 * (p + len) → (∀ f, tot - (p + len) ≤ f → shR R tot f (p + len) B' = srB S R tot) → gS s8 2244 = N tot → Chn R tot p s8 → Fr PSh ASh σ s8 → Ok (kf_l (α := Int32 × Int32) n (fun k23 x24 σ25 =>
if N len ≤ x24.2 then (
kf_let (N k + Int32.ofInt 1) fun x26 =>
k9 (x24.1, x26) σ25) else (
Option.bind (F_Packer_remember n 35 x24.1 σ25) fun σ27 =>
kf_let (x24.1 + Int32.ofInt 1) fun x28 =>
kf_let (x24.2 + Int32.ofInt 1) fun x29 =>
k23 (x28, x29) σ27)) (N p, 0) s8) (fun s => TapeC (srt S R tot).1 (srt S R tot).2 s ∧ Fr PSh ASh σ s) := by
        intro len B' s8 hl1 hl2 hb8 hB8 hbl8 hsh8 gt8 ch8 f8
        refine ok_for 0 len (fun i x s => x = (N (p + i), N i) ∧ BC B' s ∧ gS s 2244 = N tot ∧ Chn R tot (p + i) s ∧ Fr PSh ASh σ s) ?_ (by omega) (by omega) ⟨rfl, hb8, gt8, ch8, f8⟩
        rintro i k8 x s9 - hi ⟨rfl, w1, w2, w3, w4⟩ ih2
        by_cases hie : len = i
        · subst hie
          refine s_pos (Int32.le_refl _) ?_
          refine s_let (fun x9 hx9 => ?_)
          rw [N_one, N_add] at hx9
          subst hx9
          exact ih (tot - (p + len)) _ _ (by omega) ⟨p + len, k + 1, B', rfl, hl2, by omega, rfl, w1, hB8, hbl8, w3, hsh8, w2, w4⟩
        · refine s_neg (by rw [N_le (by omega) (by omega)]; omega) ?_
          refine (rem_ok (R := R) (tot := tot) rfl (q0 w4).1 ht (by omega) w2 (q0 w4).2.2 w3).bind ?_
          rintro s10 ⟨v1, v2⟩
          refine s_let (fun x9 hx9 => ?_)
          rw [N_one, N_add] at hx9
          subst hx9
          refine s_let (fun x9 hx9 => ?_)
          rw [N_one, N_add] at hx9
          subst hx9
          exact ih2 (by omega) _ _ ⟨rfl, w1.fr v2 id id id (by decide), (v2.S id).trans w2, v1, w4.trans (u3 v2)⟩
      by_cases h3 : 3 ≤ (BS R tot p).1
      · obtain ⟨e1, e2⟩ := g3 h3
        subst e1
        have hbb := BS_b h3
        refine s_neg (by rw [g1, show (3 : Int32) = N 3 from rfl, N_lt (by omega) (by omega)]; omega) ?_
        refine s_let (fun x9 hx9 => ?_)
        rw [g1] at hx9
        subst hx9
        have oc := cpB_ok (l := (BS R tot p).1) (d := (BS R tot p).2) hB
        refine (C_copy (by omega) y1 y2 hb7 hB g1 e2 h3 hbb.1 hbb.2.2.1 hbb.2.2.2.2 (by omega)).bind ?_
        rintro s8 ⟨b8, f8⟩
        refine stepped _ _ s8 (by omega) (by omega) b8 oc.1 (by omega) ?_ ((f8.S (by decide)).trans gt7) (fun h => by rw [f8.B (by decide), f8.B (by decide)]; exact ch7 h) (f7'.trans (u1 f8))
        intro f hf
        have := hsh (f + 258 + 1) (by omega)
        unfold shR at this
        rw [if_neg hpe, if_pos h3] at this
        rw [← this]
        exact shR_key _ _ _ _ hf (by omega)
      · have hl3 := g4 (by omega)
        refine s_pos (by rw [g1, show (3 : Int32) = N 3 from rfl, N_lt (by omega) (by omega)]; omega) ?_
        refine s_R y1.Packer_raw ?_
        refine s_in rfl (show p < 32888 by omega) (by omega) ?_
        have oc := sg_ok (s := R p) hB
        have hrp := hR p
        refine (C_sign (s := R p) (by rw [N_nat (by omega)]; exact y3 p (by omega)) (by omega) y1 hb7 hB (by omega) (by omega)).bind ?_
        rintro s8 ⟨b8, f8⟩
        refine stepped 1 _ s8 (by omega) (by omega) b8 oc.1 (by omega) ?_ ((f8.S (by decide)).trans gt7) (fun h => by rw [f8.B (by decide), f8.B (by decide)]; exact ch7 h) (f7'.trans (u1 f8))
        intro f hf
        have := hsh (f + 1) (by omega)
        unfold shR at this
        rw [if_neg hpe, if_neg h3] at this
        exact this
  · intro f hf
    exact shR_key f tot 0 _ hf (by omega)
