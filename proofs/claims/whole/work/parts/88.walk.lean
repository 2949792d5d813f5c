/-! THE WALK OVER THE PIECES, BOTH SIDES -/
theorem ok_l2e {α β X Y : Type} {b1 : (α → Mm → Option X) → α → Mm → Option X} {b2 : (β → Mm → Option Y) → β → Mm → Option Y} {Q : X → Y → Prop} (Inv : Nat → α → Mm → β → Mm → Prop) (Fin' : α → Mm → Y → Prop)
  (hb : ∀ m k1 k2 a1 s1 a2 s2, Inv m a1 s1 a2 s2 → (∀ m' a1' s1' a2' s2', m' < m → Inv m' a1' s1' a2' s2' → Ok (k1 a1' s1') (fun x => Ok (k2 a2' s2') (fun y => Q x y))) → (0 < m → ∀ a1' s1' y, Fin' a1' s1' y → Ok (k1 a1' s1') (fun x => Q x y)) → Ok (b1 k1 a1 s1) (fun x => Ok (b2 k2 a2 s2) (fun y => Q x y)))
  (hf : ∀ k1 a1 s1 y, Fin' a1 s1 y → Ok (b1 k1 a1 s1) (fun x => Q x y)) : ∀ n1 n2 m a1 s1 a2 s2, m < n1 → m < n2 → Inv m a1 s1 a2 s2 → Ok (kf_l n1 b1 a1 s1) (fun x => Ok (kf_l n2 b2 a2 s2) (fun y => Q x y)) := by
  intro n1
  induction n1 with
  | zero => intro n2 m a1 s1 a2 s2 h; omega
  | succ n1 ih =>
    intro n2 m a1 s1 a2 s2 h1 h2 hI
    cases n2 with
    | zero => omega
    | succ n2 =>
      refine hb m (kf_l n1 b1) (kf_l n2 b2) a1 s1 a2 s2 hI (fun m' a1' s1' a2' s2' h' hI' => ih n2 m' a1' s1' a2' s2' (by omega) (by omega) hI') (fun hm a1' s1' y hF => ?_)
      cases n1 with
      | zero => omega
      | succ n1 => exact hf (kf_l n1 b1) a1' s1' y hF
def mkT (k : Nat) : Nat := ([137, 80, 78, 71, 13, 10, 26, 10] : List Nat).getD k 0
theorem mkT_sc : ∀ k, k < 8 → mm_sc 100 k = N (mkT k) := by decide
theorem mkT_b : ∀ k, k < 8 → mkT k < 256 := by decide
theorem due_ok {X : Type} {k35 : Int32 → Mm → Option X} {k : Nat} {t : Mm} {Q : X → Prop} (hk : k < 8) (h : Ok (k35 (N (mkT k)) t) Q) : Ok (if N k = 0 then (
k35 137 t) else (
if N k = 1 then (
k35 80 t) else (
if N k = 2 then (
k35 78 t) else (
if N k = 3 then (
k35 71 t) else (
if N k = 4 then (
k35 13 t) else (
if N k = 5 then (
k35 10 t) else (
if N k = 6 then (
k35 26 t) else (
k35 10 t)))))))) Q := by
  rcases (show k = 0 ∨ k = 1 ∨ k = 2 ∨ k = 3 ∨ k = 4 ∨ k = 5 ∨ k = 6 ∨ k = 7 by omega) with rfl | rfl | rfl | rfl | rfl | rfl | rfl | rfl
  · exact s_pos rfl h
  · exact s_neg (by decide) (s_pos rfl h)
  · exact s_neg (by decide) (s_neg (by decide) (s_pos rfl h))
  · exact s_neg (by decide) (s_neg (by decide) (s_neg (by decide) (s_pos rfl h)))
  · exact s_neg (by decide) (s_neg (by decide) (s_neg (by decide) (s_neg (by decide) (s_pos rfl h))))
  · exact s_neg (by decide) (s_neg (by decide) (s_neg (by decide) (s_neg (by decide) (s_neg (by decide) (s_pos rfl h)))))
  · exact s_neg (by decide) (s_neg (by decide) (s_neg (by decide) (s_neg (by decide) (s_neg (by decide) (s_neg (by decide) (s_pos rfl h))))))
  · exact s_neg (by decide) (s_neg (by decide) (s_neg (by decide) (s_neg (by decide) (s_neg (by decide) (s_neg (by decide) (s_neg (by decide) h))))))
def RW (q : Nat) (T : Nat → Nat) (len : Nat) (x y : Int32 × Mm) : Prop := (x.1 = 1 ∧ y.1 = 1 ∧ ∃ (m : Nat) (wh : Nat → Nat) (ck bf hc ht hd pc : Nat), WC q T len m wh ck bf hc ht hd x.2 ∧ WM T len m wh ck hc ht pc y.2 ∧ 0 < pc ∧ PicB q hc ht x.2 y.2) ∨ (x.1 = 0 ∧ y.1 = 0 ∧ ∃ cd pl, FC cd pl x.2 ∧ FV cd pl y.2)
theorem letter_pos {T : Nat → Nat} {len at' : Nat} (hT : ∀ i, T i < 256) (h : WholeOk T len at') : 1 ≤ num T (at' + 4) := by
  have h1 := h.2.2.1 4 (by omega) (by omega)
  unfold letter at h1
  unfold num
  omega
set_option maxHeartbeats 2000000 in
theorem L_walk {n q len : Nat} {T : Nat → Nat} {s t : Mm} (hn : 600000 < n) (hq : isP q) (hX : PtX s) (hT : TapeC T len s) (hTu : Turns s) (hst : Stat s) (h13 : CodC 13 fixL 288 s) (h17 : CodC 17 (fun _ => 5) 32 s) (hf0 : gS s 320 = N 0) (hXM : PtX t) (hTM : TapeM T len t) (mf0 : gS t 4035 = N 0) : Ok (F_Pieces_walk n 11 q s) (fun x => Ok (F_Md_readFile n 63 t) (fun y => RW q T len x y)) := by
  have hl := hT.2.1
  have h3 := hT.2.2.1
  unfold F_Pieces_walk
  refine s_let (fun s1 e1 => ?_)
  refine s_let (fun s2 e2 => ?_)
  refine s_z (Or.inl rfl) ?_
  refine s_let (fun s3 e3 => ?_)
  refine s_z (Or.inl rfl) ?_
  refine s_let (fun s4 e4 => ?_)
  refine s_z (Or.inl rfl) ?_
  refine s_let (fun s5 e5 => ?_)
  have F5 : Fr (fun k => k ∈ [707, 708, 709, 710, 711]) PN s s5 := by
    rw [e5, e4, e3, e2, e1]
    exact Fr.wS (Fr.wS (Fr.wS (Fr.wS (Fr.wR Fr.rfl (by decide) _) (by decide) _) (by decide) _) (by decide) _) (by decide) _
  have c5 : PtC s5 := hX.1.fr' F5 (fun k hk => by simp at hk; rcases hk with rfl | rfl | rfl | rfl | rfl <;> decide)
  refine s_R c5.Pieces_packed ?_
  unfold F_PackedBits_clear
  refine Ok.bind' ?_
  refine s_let (fun s6 e6 => ?_)
  refine s_let (fun s7 e7 => ?_)
  refine s_let (fun s8 e8 => ?_)
  refine Ok.some ?_
  have F8 : Fr (fun k => k ∈ [707, 708, 709, 710, 711, 579, 580, 581]) PN s s8 := by
    rw [e8, e7, e6]
    exact Fr.wS (Fr.wS (Fr.wS (F5.mono (by intro k hk; revert k; decide) (fun _ h => h)) (by decide) _) (by decide) _) (by decide) _
  have X8 : PtX s8 := ⟨hX.1.fr' F8 (fun k hk => by simp at hk; rcases hk with rfl | rfl | rfl | rfl | rfl | rfl | rfl | rfl <;> decide), hX.2.frC F8 (fun k hk => by simp at hk; omega)⟩
  have r7 : gR s8 707 = some q := by rw [e8, e7, e6, e5, e4, e3, e2, e1]; exact gR_eq rfl
  have v708 : gS s8 708 = N 0 := by rw [e8, gS_ne (by decide), e7, gS_ne (by decide), e6, gS_ne (by decide), e5, gS_ne (by decide), e4, gS_ne (by decide), e3, gS_ne (by decide), e2]; exact gS_eq rfl
  have v709 : gS s8 709 = N 0 := by rw [e8, gS_ne (by decide), e7, gS_ne (by decide), e6, gS_ne (by decide), e5, gS_ne (by decide), e4, gS_ne (by decide), e3]; exact gS_eq rfl
  have v710 : gS s8 710 = N 0 := by rw [e8, gS_ne (by decide), e7, gS_ne (by decide), e6, gS_ne (by decide), e5, gS_ne (by decide), e4]; exact gS_eq rfl
  have v711 : gS s8 711 = N 0 := by rw [e8, gS_ne (by decide), e7, gS_ne (by decide), e6, gS_ne (by decide), e5]; exact gS_eq rfl
  have v579 : gS s8 579 = N 0 := by rw [e8, gS_ne (by decide), e7, gS_ne (by decide), e6]; exact gS_eq rfl
  have v580 : gS s8 580 = N 0 := by rw [e8, gS_ne (by decide), e7]; exact gS_eq rfl
  have v581 : gS s8 581 = N 0 := by rw [e8]; exact gS_eq rfl
  have T8 : TapeC T len s8 := ⟨(F8.S (by decide)).trans hT.1, hT.2.1, hT.2.2.1, fun i hi => by rw [F8.B id]; exact hT.2.2.2 i hi⟩
  have W8 : WC q T len 0 z0 0 0 0 0 0 s8 := ⟨⟨⟨X8, r7⟩, T8, by omega, fun i hi => by omega, v579, v580, fun i hi => by omega⟩, v581, (F8.S (by decide)).trans hf0, v708, v709, v710, v711, fun i hi => by rw [F8.B id]; exact hTu i hi, hst.fr F8 (fun a h => h.elim), h13.fr F8 (by decide) (by decide) id id, h17.fr F8 (by decide) (by decide) id id⟩
  clear e1 e2 e3 e4 e5 e6 e7 e8 F5 F8 c5 v708 v709 v710 v711 v579 v580 v581 hX hT hTu hst h13 h17 hf0
  have hp := X8.1
  have S8 := W8.2.2.2.2.2.2.2.2.1
  unfold F_Md_readFile
  refine ok_for2 0 8 (fun j x s' y t' => x = N j ∧ y = N j ∧ s' = s8 ∧ t' = t ∧ j ≤ len) ?_ (by omega) (by omega) (by omega) ⟨rfl, rfl, rfl, rfl, by omega⟩
  rintro j k1 k2 x s' y t' - hj ⟨rfl, rfl, rfl, rfl, hjl⟩ ih
  rw [kd_100, N_ofNat, show (8 : Int32) = N 8 from rfl]
  by_cases hje : j = 8
  · subst hje
    clear ih
    refine s_pos (Int32.le_refl _) ?_
    refine s_let (fun x9 hx9 => ?_)
    subst hx9
    refine Ok.sw ?_
    refine s_pos (Int32.le_refl _) ?_
    refine s_z (Or.inl rfl) ?_
    refine s_let (fun t1 d1 => ?_)
    refine s_z (Or.inl rfl) ?_
    refine s_let (fun t2 d2 => ?_)
    refine s_let (fun t3 d3 => ?_)
    refine s_let (fun t4 d4 => ?_)
    refine s_let (fun t5 d5 => ?_)
    refine s_let (fun t6 d6 => ?_)
    have f6 : FM [4072, 4073, 4074, 4055, 4057, 4060] [] t' t6 := by
      rw [d6, d5, d4, d3, d2, d1]
      exact (((((((FM.rfl hXM).wS (by decide) _).wS (by decide) _).wS (by decide) _).wS (by decide) _).wS (by decide) _).wS (by decide) _)
    have u1 : gS t6 4072 = N 0 := by rw [d6, gS_ne (by decide), d5, gS_ne (by decide), d4, gS_ne (by decide), d3, gS_ne (by decide), d2, gS_ne (by decide), d1]; exact gS_eq rfl
    have u2 : gS t6 4073 = N 0 := by rw [d6, gS_ne (by decide), d5, gS_ne (by decide), d4, gS_ne (by decide), d3, gS_ne (by decide), d2]; exact gS_eq rfl
    have u3 : gS t6 4074 = N 0 := by rw [d6, gS_ne (by decide), d5, gS_ne (by decide), d4, gS_ne (by decide), d3]; exact gS_eq rfl
    have u4 : gS t6 4055 = N 0 := by rw [d6, gS_ne (by decide), d5, gS_ne (by decide), d4]; exact gS_eq rfl
    have u5 : gS t6 4057 = N 0 := by rw [d6, gS_ne (by decide), d5]; exact gS_eq rfl
    have u6 : gS t6 4060 = N 0 := by rw [d6]; exact gS_eq rfl
    have M6 : WM T len 0 z0 0 0 0 0 t6 := ⟨f6.1, hTM.frL f6 (by decide) (by decide), u6, fun i hi => by omega, fun i hi => by omega, fun z => absurd rfl z, (f6.2.S (by decide)).trans mf0, u1, u2, u3⟩
    clear d1 d2 d3 d4 d5 d6 f6 hTM hXM mf0
    refine Ok.sw ?_
    refine ok_l2e (fun mm a1 s1 a2 t1 => ∃ (at' k m : Nat) (wh : Nat → Nat) (ck bf hc ht pc : Nat), mm = len + 1 - at' ∧ a1 = (N at', N k) ∧ a2 = N at' ∧ 12 * k + 8 ≤ at' ∧ at' ≤ len ∧ bf ≠ 1229278788 ∧ LI q T len at' m wh ck bf hc ht pc s1 t1) (fun a1 s1 y => ∃ (at' k m : Nat) (wh : Nat → Nat) (ck hc ht hd : Nat), a1 = (N at', N k) ∧ k < 65536 ∧ at' ≤ len ∧ WC q T len m wh ck 1229278788 hc ht hd s1 ∧ ((at' = len ∧ y.1 = 1 ∧ ∃ pc, WM T len m wh ck hc ht pc y.2 ∧ 0 < pc ∧ PicB q hc ht s1 y.2) ∨ (at' < len ∧ y.1 = 0 ∧ FV 11 at' y.2))) ?_ ?_ n n (len + 1 - 8) _ _ _ _ (by omega) (by omega) ⟨8, 0, 0, z0, 0, 0, 0, 0, 0, rfl, rfl, rfl, by omega, by omega, by omega, W8, M6, by omega, by omega, by omega, by omega, by omega, by omega, by omega, fun _ => ⟨u4, u5, rfl, rfl, rfl⟩, fun z => absurd rfl z⟩
    · clear W8 M6 u1 u2 u3 u4 u5 u6 T8 X8 r7 hp S8
      rintro mm k1 k2 a1 s a2 t ⟨at', k, m, wh, ck, bf, hc, ht, pc, rfl, rfl, rfl, hk, hat, hne, hLI⟩ ih ihF
      obtain ⟨hC, hM, -⟩ := id hLI
      have hbb := hLI.2.2.2.2.2.1
      have hX := hC.1.1
      have hp := hX.1.1
      have hT := hC.1.2.1
      refine s_ji ?_
      refine s_neg (by rw [show (65536 : Int32) = N 65536 from rfl, N_le (by omega) (by omega)]; omega) ?_
      rw [show gS s (64 * 11 + 4) = N bf from hC.2.2.2.1]
      refine s_neg (N_ne (b := 1229278788) (by omega) (by omega) hne) ?_
      refine Ok.c22 (L_whole rfl rfl hn hX hT hC.2.2.2.2.2.2.2.1 hM.1.2 hM.2.1 hat) ?_
      rintro ⟨a, s1⟩ ⟨b, t1⟩ hr
      rcases hr with ⟨hW, ea, eb⟩ | ⟨ea, eb, cd, pl, q1, q2⟩
      · injection ea with ea1 ea2
        injection eb with eb1 eb2
        subst ea1 ea2 eb1 eb2
        dsimp only
        refine s_ji ?_
        refine s_neg (by decide) ?_
        refine Ok.sw ?_
        refine s_ji ?_
        refine s_neg (by decide) ?_
        refine Ok.sw ?_
        have hlp := letter_pos h3 hW
        have hty := num_lt h3 (at' + 4)
        obtain ⟨w1, w2, w3, w4⟩ := hW
        refine L_fit (gk0 := fun σ => kf_z 0 (some (0, σ))) hn hq hLI ⟨w1, w2, w3, w4⟩ ?_ ?_
        · intro m' wh' ck' hc' ht' pc' s2 t2 hP
          obtain ⟨hC2, hM2, c1, c2, c3, c4, c5, c6, hB⟩ := hP
          have hX2 := hC2.1.1
          have hp2 := hX2.1.1
          have hT2 := hC2.1.2.1
          refine s_neg (by decide) ?_
          refine s_R hp2.Pieces_tape ?_
          refine s_c (C_number (k := at' + 4) (show N at' + 4 = N (at' + 4) by rw [show (4 : Int32) = N 4 from rfl, N_add]) hp2 hT2 (by omega)) ?_
          refine s_let (fun s3 e3 => ?_)
          have F3 : Fr (fun k => k = 708) PN s2 s3 := by rw [e3]; exact Fr.wS (P := fun k => k = 708) (A := PN) Fr.rfl (show 64 * 11 + 4 = 708 from rfl) _
          have X3 : PtX s3 := ⟨hp2.fr' F3 (fun k hk => by subst hk; decide), hX2.1.2.frC F3 (fun k hk => by omega)⟩
          have hC3 : WC q T len m' wh' ck' (num T (at' + 4)) hc' ht' (if pc' = 0 then 0 else 1) s3 := hC2.upd F3 X3 ((F3.R (by decide)).trans hX2.2) (by decide) (fun a _ => id) (fun a h => h.elim) (by rw [e3]; exact gS_eq rfl) ((F3.S (by decide)).trans hC2.2.2.2.2.1) ((F3.S (by decide)).trans hC2.2.2.2.2.2.1) ((F3.S (by decide)).trans hC2.2.2.2.2.2.2.1)
          have hB3 : PicB q hc' ht' s3 t2 := by
            obtain ⟨w, h, kd, dp, lc, cc, tc, co, th, b1, b2, b3, b4, b5⟩ := hB
            exact ⟨w, h, kd, dp, lc, cc, tc, co, th, b1, b2.fr F3 (fun k hk z => by unfold UPc PLay at hk; rcases hq with rfl | rfl <;> omega) (fun a _ => id), b3, b4, b5⟩
          clear e3
          refine s_R X3.1.Pieces_tape ?_
          refine s_c (C_number (k := at') rfl X3.1 hC3.1.2.1 (by omega)) ?_
          refine s_let (fun x9 hx9 => ?_)
          rw [show (12 : Int32) = N 12 from rfl, N_add, N_add] at hx9
          subst hx9
          refine s_let (fun x9 hx9 => ?_)
          rw [N_one, N_add] at hx9
          subst hx9
          refine Ok.sw ?_
          refine s_c (tyE hM2.1.2 hM2.2.1 hl h3 (by omega)) ?_
          refine s_c (M_number rfl hM2.1.2 hM2.2.1 hl h3 (by omega)) ?_
          refine s_let (fun x9 hx9 => ?_)
          rw [L_int, show (12 : Int32) = N 12 from rfl, N_add, N_add] at hx9
          subst hx9
          by_cases cE : num T (at' + 4) = 1229278788
          · rw [if_pos cE]
            rw [cE] at hC3
            refine s_neg (by decide) ?_
            refine s_ji ?_
            refine s_ji ?_
            rw [show gS t2 (64 * 63 + 2) = N len from hM2.2.1.1]
            by_cases cl : at' + (12 + num T at') = len
            · refine s_pos (by rw [cl]) ?_
              refine s_z (Or.inr rfl) (Ok.some ?_)
              exact ihF (by omega) _ _ _ ⟨at' + (12 + num T at'), k + 1, m', wh', ck', hc', ht', _, rfl, by omega, by omega, hC3, Or.inl ⟨cl, rfl, pc', hM2, c5 cE, hB3⟩⟩
            · refine s_neg (N_ne (by omega) (by omega) cl) ?_
              refine (M_flaw (c := 11) rfl rfl).c2 ?_
              rintro r t8 ⟨e8, g8⟩
              dsimp only at e8 g8 ⊢
              refine s_pos e8 (s_z (Or.inl rfl) (Ok.some ?_))
              exact ihF (by omega) _ _ _ ⟨at' + (12 + num T at'), k + 1, m', wh', ck', hc', ht', _, rfl, by omega, by omega, hC3, Or.inr ⟨by omega, rfl, g8⟩⟩
          · rw [if_neg cE]
            refine s_pos rfl ?_
            refine Ok.sw ?_
            refine ih (len + 1 - (at' + (12 + num T at'))) _ _ _ _ (by omega) ⟨at' + (12 + num T at'), k + 1, m', wh', ck', num T (at' + 4), hc', ht', pc', rfl, rfl, rfl, by omega, by omega, cE, hC3, hM2, c1, c2, c3, hty, ?_, c4, by omega, ?_, fun _ => hB3⟩
            · constructor
              · intro z; omega
              · intro z; omega
            · intro z; omega
        · intro cd pl s' t' q1 q2
          refine s_pos rfl (s_z (Or.inl rfl) (Ok.some ?_))
          exact s_z (Or.inl rfl) (Ok.some (Or.inr ⟨rfl, rfl, _, _, q1, q2⟩))
      · dsimp only at ea eb q1 q2 ⊢
        subst ea eb
        refine s_ji ?_
        refine s_pos rfl (s_z (Or.inl rfl) (Ok.some ?_))
        refine s_ji ?_
        refine s_pos rfl (s_z (Or.inl rfl) (Ok.some ?_))
        exact Or.inr ⟨rfl, rfl, _, _, q1, q2⟩
    · clear W8 M6 u1 u2 u3 u4 u5 u6 T8 X8 r7 hp S8
      rintro k1 a1 s y ⟨at', k, m, wh, ck, hc, ht, hd, rfl, hk, hat, hC, hy⟩
      have hp := hC.1.1.1.1
      refine s_ji ?_
      refine s_neg (by rw [show (65536 : Int32) = N 65536 from rfl, N_le (by omega) (by omega)]; omega) ?_
      refine s_pos (by rw [show gS s (64 * 11 + 4) = N 1229278788 from hC.2.2.2.1]; rfl) ?_
      refine s_R hp.Pieces_tape ?_
      refine s_ji ?_
      refine s_ji ?_
      rw [show gS s (64 * 2 + 1) = N len from hC.1.2.1.1]
      rcases hy with ⟨e1, e2, pc, y1, y2, y3⟩ | ⟨e1, e2, y1⟩
      · refine s_pos (by rw [e1]; exact Int32.le_refl _) ?_
        exact s_z (Or.inr rfl) (Ok.some (Or.inl ⟨rfl, e2, m, wh, ck, _, hc, ht, hd, pc, hC, y1, y2, y3⟩))
      · refine s_neg (by rw [N_le (by omega) (by omega)]; omega) ?_
        refine s_R hp.Pieces_fault ?_
        refine (C_ref (c := 11) rfl rfl).c2 ?_
        rintro r s8 ⟨e8, h8⟩
        dsimp only at e8 h8 ⊢
        refine s_pos e8 ?_
        exact s_z (Or.inl rfl) (Ok.some (Or.inr ⟨rfl, e2, _, _, h8, y1⟩))
  · refine s_neg (by rw [N_le (by omega) (by omega)]; omega) ?_
    have hmb := mkT_b j (by omega)
    have htb := h3 j
    refine s_R hp.Pieces_tape ?_
    refine s_ji ?_
    rw [show gS s' (64 * 2 + 1) = N len from T8.1]
    have BADC : ∀ {QQ : Int32 × Mm → Prop}, (∀ s1, FC 1 j s1 → QQ (0, s1)) → Ok (Option.bind (gR s' (64 * 11 + 1)) fun o48 => kf_c2 (F_Fault_refuse n o48 1 (N j) s') fun x49 σ50 => kf_z x49 (some (x49, σ50))) QQ := fun h => by
      refine s_R hp.Pieces_fault ?_
      refine (C_ref (c := 1) rfl rfl).c2 ?_
      rintro r s9 ⟨e9, h9⟩
      dsimp only at e9 h9 ⊢
      subst e9
      exact s_z (Or.inl rfl) (Ok.some (h _ h9))
    have BADM : ∀ {QQ : Int32 × Mm → Prop}, (∀ s1, FV 1 j s1 → QQ (0, s1)) → Ok (kf_c2 (F_Md_flaw n 63 1 (N j) t') fun x41 σ42 => kf_z x41 (some (x41, σ42))) QQ := fun h => by
      refine (M_flaw (c := 1) rfl rfl).c2 ?_
      rintro r s9 ⟨e9, h9⟩
      dsimp only at e9 h9 ⊢
      subst e9
      exact s_z (Or.inl rfl) (Ok.some (h _ h9))
    refine Ok.sw ?_
    refine s_neg (by rw [N_le (by omega) (by omega)]; omega) ?_
    refine s_j (fun k35 hk35 => ?_)
    refine due_ok (by omega) ?_
    subst hk35
    dsimp only
    refine s_ji ?_
    rw [show gS t' (64 * 63 + 2) = N len from hTM.1]
    by_cases cl : len ≤ j
    · refine s_pos (by rw [N_le (by omega) (by omega)]; exact cl) ?_
      refine BADM (fun t1 g1 => ?_)
      refine s_pos (by rw [N_le (by omega) (by omega)]; exact cl) ?_
      refine BADC (fun s1 h1 => ?_)
      exact Or.inr ⟨rfl, rfl, _, _, h1, g1⟩
    · refine s_neg (by rw [N_le (by omega) (by omega)]; exact cl) ?_
      refine s_c (Md_at_eq hXM.2 hTM hl rfl (by omega)) ?_
      refine Ok.sw ?_
      refine s_neg (by rw [N_le (by omega) (by omega)]; exact cl) ?_
      refine s_R hp.Pieces_tape ?_
      refine s_R hp.Tape_bytes ?_
      refine s_in rfl (by rw [kd_3]; omega) (by omega) ?_
      refine s_in rfl (by omega) (by omega) ?_
      rw [N_nat (by omega), T8.2.2.2 _ (by omega), S8 100 (by decide), mkT_sc j (by omega)]
      by_cases ce : T j = mkT j
      · refine s_pos (by rw [ce]) ?_
        refine s_let (fun x9 hx9 => ?_)
        rw [N_one, N_add] at hx9
        subst hx9
        refine Ok.sw ?_
        refine s_pos (by rw [ce]) ?_
        refine s_let (fun x9 hx9 => ?_)
        rw [N_one, N_add] at hx9
        subst hx9
        refine Ok.sw ?_
        exact ih (by omega) _ _ _ _ ⟨rfl, rfl, rfl, rfl, by omega⟩
      · refine s_neg (N_ne (by omega) (by omega) ce) ?_
        refine BADC (fun s1 h1 => ?_)
        refine s_neg (N_ne (by omega) (by omega) ce) ?_
        refine BADM (fun t1 g1 => ?_)
        exact Or.inr ⟨rfl, rfl, _, _, h1, g1⟩
