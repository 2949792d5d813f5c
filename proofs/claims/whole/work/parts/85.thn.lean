/-! THIN NUMBERS OF A FILE, BOTH SIDES -/
theorem addT {n q c : Nat} {x : Int32} {s : Mm} (hq : isP q) (hp : PtC s) (gc : gS s (64 * q + 7) = N c) (hc : c < 256) : F_Picture_addThin n q x s = some (pS (pB s (q + 3) c x) (64 * q + 7) (N (c + 1))) := by
  apply Ok.eq
  unfold F_Picture_addThin
  refine s_ji ?_
  rw [gc]
  refine s_neg (by rw [show (256 : Int32) = N 256 from rfl, N_le (by omega) (by omega)]; omega) ?_
  refine s_R (hp.pic_thins hq) ?_
  refine s_in rfl (by rw [kdp_3 hq]; omega) (by omega) ?_
  rw [N_nat (by omega)]
  refine s_let (fun s1 e1 => ?_)
  have c1 : gS s1 (64 * q + 7) = N c := by rw [e1]; exact gc
  refine s_let (fun s2 e2 => ?_)
  rw [c1, show (1 : Int32) = N 1 from rfl, N_add, e1] at e2
  exact Ok.some e2
abbrev PTh (q k : Nat) : Prop := k = 710 ∨ k = 64 * q + 7
abbrev ATh (q a : Nat) : Prop := a = q + 3
theorem PTh_C {q : Nat} (hq : isP q) (k : Nat) (h : PTh q k) : cptr.all (fun z => z.1 != k) = true := by
  unfold PTh at h
  rcases hq with rfl | rfl <;> rcases h with rfl | rfl <;> decide
def RT (q kd cc : Nat) (s t : Mm) (a b : Int32 × Mm) : Prop := (∃ (tc : Nat) (th : Nat → Nat), tc ≤ 256 ∧ (kd = 3 → tc ≤ cc) ∧ (∀ i, th i < 65536) ∧ a.1 = 1 ∧ b.1 = 1 ∧ gS a.2 710 = N 1 ∧ gS a.2 (64 * q + 7) = N tc ∧ (∀ i, i < tc → gB a.2 (q + 3) i = N (th i)) ∧ Fr (PTh q) (ATh q) s a.2 ∧ gS b.2 4073 = N 1 ∧ gS b.2 4057 = N tc ∧ (∀ i, i < tc → gB b.2 70 i = N (th i)) ∧ FM [4073, 4057] [70] t b.2) ∨ (a.1 = 0 ∧ b.1 = 0 ∧ ∃ cd pl, FC cd pl a.2 ∧ FV cd pl b.2)
set_option maxHeartbeats 2000000 in
theorem L_thins {n q len at' ln kd dp cc : Nat} {T : Nat → Nat} {s t : Mm} {x y z u : Int32} (ex : x = N at') (ey : y = N ln) (ez : z = N at') (eu : u = N ln) (hn : 600000 < n) (hq : isP q) (hX : PtX s ∧ gR s 707 = some q) (hT : TapeC T len s) (gk : gS s (64 * q + 2) = N kd) (gd : gS s (64 * q + 3) = N dp) (g5 : gS s (64 * q + 5) = N (ch kd)) (g6 : gS s (64 * q + 6) = N cc) (g7 : gS s (64 * q + 7) = N 0) (hk : kdOk kd dp) (hkk : kd = 0 ∨ kd = 2 ∨ kd = 3) (hcc : cc ≤ 256) (hfit : at' + 12 + ln ≤ len) (hXM : PtX t) (hTM : TapeM T len t) (mk : gS t 4050 = N kd) (md : gS t 4051 = N dp) (mc : gS t 4055 = N cc) : Ok (F_Pieces_takeThins n 11 x y s) (fun a => Ok (F_Md_readThins n 63 z u t) (fun b => RT q kd cc s t a b)) := by
  subst ex ey ez eu
  have hl := hT.2.1
  have h3 := hT.2.2.1
  have hp := hX.1.1
  have hb := hk.b
  have hq2 : 38 ≤ q ∧ q ≤ 50 := by rcases hq with rfl | rfl <;> decide
  unfold F_Pieces_takeThins F_Md_readThins
  refine s_z (Or.inr rfl) ?_
  refine s_let (fun s1 e1 => ?_)
  have f1 : Fr (PTh q) (ATh q) s s1 := by rw [e1]; exact Fr.wS Fr.rfl (Or.inl rfl) _
  have a1 : gS s1 710 = N 1 := by rw [e1]; exact gS_eq rfl
  have c1 : gS s1 (64 * q + 7) = N 0 := by rw [e1, gS_ne (by omega)]; exact g7
  clear e1
  have FS : ∀ {s' : Mm} {k : Nat}, Fr (PTh q) (ATh q) s s' → k ≠ 710 → k ≠ 64 * q + 7 → gS s' k = gS s k := fun f h1 h2 => f.S (fun z => z.elim h1 h2)
  have F7 : ∀ {s' : Mm}, Fr (PTh q) (ATh q) s s' → gR s' 707 = some q := fun f => (f.R (fun z => by unfold PTh at z; omega)).trans hX.2
  have FP : ∀ {s' : Mm}, Fr (PTh q) (ATh q) s s' → PtC s' := fun f => hp.fr' f (PTh_C hq)
  have FT : ∀ {s' : Mm}, Fr (PTh q) (ATh q) s s' → TapeC T len s' := fun f => ⟨(FS f (by decide) (by omega)).trans hT.1, hT.2.1, hT.2.2.1, fun i hi => by rw [f.B (fun z => by unfold ATh at z; omega)]; exact hT.2.2.2 i hi⟩
  refine s_let (fun x9 hx9 => ?_)
  rw [show (8 : Int32) = N 8 from rfl, N_add] at hx9
  subst hx9
  refine s_R (F7 f1) ?_
  rw [FS f1 (by omega) (by omega), gk]
  have BADC : ∀ {CLS : Int32 × Mm → Prop}, (∀ s', FC 8 at' s' → CLS (0, s')) → Ok (Option.bind (gR s1 (64 * 11 + 1)) fun o27 => kf_c2 (F_Fault_refuse n o27 8 (N at') s1) fun x28 σ29 => kf_z x28 (some (x28, σ29))) CLS := fun h => by
    refine s_R (FP f1).Pieces_fault ?_
    refine (C_ref (c := 8) rfl rfl).c2 ?_
    rintro r s8 ⟨e8, h8⟩
    dsimp only at e8 h8 ⊢
    subst e8
    exact s_z (Or.inl rfl) (Ok.some (h _ h8))
  have BADM : ∀ {s' : Mm}, FC 8 at' s' → Ok (kf_c2 (F_Md_flaw n 63 8 (N at') t) fun x34 σ35 => kf_z x34 (some (x34, σ35))) (fun b => RT q kd cc s t (0, s') b) := fun h => by
    refine (M_flaw (c := 8) rfl rfl).c2 ?_
    rintro r t8 ⟨e8, g8⟩
    dsimp only at e8 g8 ⊢
    subst e8
    exact s_z (Or.inl rfl) (Ok.some (Or.inr ⟨rfl, rfl, _, _, h, g8⟩))
  refine Ok.sw ?_
  refine s_j (fun k1 hk1 => ?_)
  obtain ⟨rg, hrg⟩ : ∃ rg : Nat, (rg = 1 ∧ ((kd = 3 ∧ 1 ≤ ln ∧ ln ≤ cc) ∨ (kd ≠ 3 ∧ ln = 2 * ch kd))) ∨ (rg = 0 ∧ ¬ ((kd = 3 ∧ 1 ≤ ln ∧ ln ≤ cc) ∨ (kd ≠ 3 ∧ ln = 2 * ch kd))) := by
    by_cases c : (kd = 3 ∧ 1 ≤ ln ∧ ln ≤ cc) ∨ (kd ≠ 3 ∧ ln = 2 * ch kd)
    · exact ⟨1, Or.inl ⟨rfl, c⟩⟩
    · exact ⟨0, Or.inr ⟨rfl, c⟩⟩
  have ch0 : ch 0 = 1 := rfl
  have ch2 : ch 2 = 3 := rfl
  have st : ∀ (QQ : Int32 × Mm → Prop), Ok (k1 (N rg) t) QQ → Ok (if (gS t (64 * 63 + 18)) = 0 then (
if N ln = 2 then (
k1 1 t) else (
k1 0 t)) else (
if (gS t (64 * 63 + 18)) = 2 then (
if N ln = 6 then (
k1 1 t) else (
k1 0 t)) else (
kf_j (α := Unit) (fun x37 σ38 =>
k1 0 σ38) fun k36 =>
if N ln ≤ 0 then (
k36 () t) else (
if (gS t (64 * 63 + 23)) < N ln then (
k36 () t) else (
k1 1 t))))) QQ := fun QQ h => by
    rw [show gS t (64 * 63 + 18) = N kd from mk, show gS t (64 * 63 + 23) = N cc from mc]
    rcases hkk with c | c | c
    · subst c
      rw [ch0] at hrg
      refine s_pos rfl ?_
      by_cases c2 : ln = 2
      · rw [show rg = 1 by omega] at h
        exact s_pos (by rw [c2]; rfl) h
      · rw [show rg = 0 by omega] at h
        exact s_neg (N_ne (b := 2) (by omega) (by omega) c2) h
    · subst c
      rw [ch2] at hrg
      refine s_neg (by decide) ?_
      refine s_pos rfl ?_
      by_cases c2 : ln = 6
      · rw [show rg = 1 by omega] at h
        exact s_pos (by rw [c2]; rfl) h
      · rw [show rg = 0 by omega] at h
        exact s_neg (N_ne (b := 6) (by omega) (by omega) c2) h
    · subst c
      refine s_neg (by decide) ?_
      refine s_neg (by decide) ?_
      refine s_ji ?_
      by_cases c2 : ln ≤ 0
      · rw [show rg = 0 by omega] at h
        exact s_pos (by rw [show (0 : Int32) = N 0 from rfl, N_le (by omega) (by omega)]; exact c2) h
      · refine s_neg (by rw [show (0 : Int32) = N 0 from rfl, N_le (by omega) (by omega)]; exact c2) ?_
        by_cases c3 : cc < ln
        · rw [show rg = 0 by omega] at h
          exact s_pos (by rw [N_lt (by omega) (by omega)]; exact c3) h
        · rw [show rg = 1 by omega] at h
          exact s_neg (by rw [N_lt (by omega) (by omega)]; exact c3) h
  refine st _ ?_
  subst hk1
  dsimp only
  clear st
  rcases hrg with ⟨e, hg⟩ | ⟨e, hg⟩
  case inr =>
    subst e
    refine s_pos rfl ?_
    refine Ok.sw ?_
    by_cases c3 : kd = 3
    · refine s_pos (by rw [c3]; rfl) ?_
      refine s_ji ?_
      by_cases c4 : ln < 1
      · refine s_pos (by rw [show (1 : Int32) = N 1 from rfl, N_lt (by omega) (by omega)]; exact c4) ?_
        exact BADC (fun s' hs' => BADM hs')
      · refine s_neg (by rw [show (1 : Int32) = N 1 from rfl, N_lt (by omega) (by omega)]; exact c4) ?_
        refine s_R (F7 f1) ?_
        rw [FS f1 (by omega) (by omega), g6]
        refine s_neg (by rw [N_le (by omega) (by omega)]; omega) ?_
        exact BADC (fun s' hs' => BADM hs')
    · refine s_neg (N_ne (b := 3) (by omega) (by omega) c3) ?_
      refine s_R (F7 f1) ?_
      rw [FS f1 (by omega) (by omega), g5, show (2 : Int32) = N 2 from rfl, N_mul]
      have hchb := ch_b kd
      refine s_neg (N_ne (by omega) (by omega) (by omega)) ?_
      exact BADC (fun s' hs' => BADM hs')
  case inl =>
  subst e
  refine s_neg (by decide) ?_
  refine s_z (Or.inr rfl) ?_
  refine s_let (fun t1 e1 => ?_)
  have m1 : FM [4073, 4057] [70] t t1 := by rw [e1]; exact (FM.rfl hXM).wS (by decide) _
  have ma1 : gS t1 4073 = N 1 := by rw [e1]; exact gS_eq rfl
  clear e1
  have mk1 : ∀ {t' : Mm}, FM [4073, 4057] [70] t t' → gS t' (64 * 63 + 18) = N kd := fun f => (f.2.S (by decide)).trans mk
  have md1 : ∀ {t' : Mm}, FM [4073, 4057] [70] t t' → gS t' (64 * 63 + 19) = N dp := fun f => (f.2.S (by decide)).trans md
  have T1 : ∀ {t' : Mm}, FM [4073, 4057] [70] t t' → TapeM T len t' := fun f => hTM.frL f (by decide) (by decide)
  refine s_ji ?_
  rw [mk1 m1]
  by_cases c3 : kd = 3
  · -- a number a colour
    have hl2 : 1 ≤ ln ∧ ln ≤ cc := by omega
    refine s_pos (by rw [c3]; rfl) ?_
    refine s_let (fun t2 e2 => ?_)
    have m2 : FM [4073, 4057] [70] t t2 := by rw [e2]; exact m1.wS (by decide) _
    have ma2 : gS t2 4073 = N 1 := by rw [e2, gS_ne (by decide)]; exact ma1
    have mb2 : gS t2 4057 = N ln := by rw [e2]; exact gS_eq rfl
    clear e2
    refine Ok.sw ?_
    refine s_pos (by rw [c3]; rfl) ?_
    refine s_ji ?_
    refine s_neg (by rw [show (1 : Int32) = N 1 from rfl, N_lt (by omega) (by omega)]; omega) ?_
    refine s_R (F7 f1) ?_
    rw [FS f1 (by omega) (by omega), g6]
    refine s_pos (by rw [N_le (by omega) (by omega)]; omega) ?_
    refine ok_for2 0 ln (fun j x s' y t' => x = N j ∧ y = N j ∧ gS s' 710 = N 1 ∧ gS s' (64 * q + 7) = N j ∧ (∀ i, i < j → gB s' (q + 3) i = N (T (at' + 8 + i))) ∧ Fr (PTh q) (ATh q) s s' ∧ gS t' 4073 = N 1 ∧ gS t' 4057 = N ln ∧ (∀ i, i < j → gB t' 70 i = N (T (at' + 8 + i))) ∧ FM [4073, 4057] [70] t t') ?_ (by omega) (by omega) (by omega) ⟨rfl, rfl, a1, c1, fun i hi => by omega, f1, ma2, mb2, fun i hi => by omega, m2⟩
    rintro j k2 k3 x s3 y t3 - hj ⟨rfl, rfl, a3, b3, z3, f3, ma3, mb3, mz3, m3⟩ ih
    by_cases hje : ln = j
    · subst hje
      refine s_pos (Int32.le_refl _) (s_z (Or.inr rfl) (Ok.some ?_))
      refine s_pos (by rw [show gS t3 (64 * 63 + 25) = N ln from mb3]; exact Int32.le_refl _) (s_z (Or.inr rfl) (Ok.some ?_))
      exact Or.inl ⟨ln, fun i => T (at' + 8 + i), by omega, fun _ => by omega, fun i => Nat.lt_trans (h3 (at' + 8 + i)) (by decide), rfl, rfl, a3, b3, z3, f3, ma3, mb3, mz3, m3⟩
    · refine s_neg (by rw [N_le (by omega) (by omega)]; omega) ?_
      refine s_R (F7 f3) ?_
      refine s_R (FP f3).Pieces_tape ?_
      refine s_R (FP f3).Tape_bytes ?_
      refine s_let (fun x9 hx9 => ?_)
      rw [N_add] at hx9
      subst hx9
      refine s_in rfl (by rw [kd_3]; omega) (by omega) ?_
      rw [N_nat (by omega), (FT f3).2.2.2 _ (by omega), addT hq (FP f3) b3 (by omega)]
      show Ok (kf_let (N j + Int32.ofInt 1) fun x39 => k2 x39 _) _
      refine s_let (fun x9 hx9 => ?_)
      rw [N_one, N_add] at hx9
      subst hx9
      refine Ok.sw ?_
      refine s_neg (by rw [show gS t3 (64 * 63 + 25) = N ln from mb3, N_le (by omega) (by omega)]; omega) ?_
      refine s_ji ?_
      rw [mk1 m3]
      refine s_pos (by rw [c3]; rfl) ?_
      refine s_let (fun x9 hx9 => ?_)
      dsimp only at hx9
      rw [show (8 : Int32) = N 8 from rfl, N_add, N_add] at hx9
      subst hx9
      refine s_R m3.1.2.newThins ?_
      refine s_ji ?_
      rw [mk1 m3]
      refine s_pos (by rw [c3]; rfl) ?_
      refine s_c (Md_at_eq m3.1.2 (T1 m3) hl rfl (by omega)) ?_
      dsimp only
      refine s_in rfl (by rw [kd_70]; omega) (by omega) ?_
      rw [N_nat (by omega)]
      refine s_let (fun t4 e4 => ?_)
      have m4 : FM [4073, 4057] [70] t t4 := by rw [e4]; exact m3.wB (by decide) _ _
      refine s_ji ?_
      rw [mk1 m4]
      refine s_pos (by rw [c3]; rfl) ?_
      refine s_let (fun x9 hx9 => ?_)
      rw [N_one, N_add] at hx9
      subst hx9
      refine Ok.sw ?_
      refine ih (by omega) _ _ _ _ ⟨rfl, rfl, (gS_ne (by omega)).trans a3, gS_eq rfl, fun i hi => ?_, Fr.wS (Fr.wB f3 rfl _ _) (Or.inr rfl) _, by rw [e4]; exact ma3, by rw [e4]; exact mb3, fun i hi => ?_, m4⟩
      · show gB (pB s3 (q + 3) j (N (T (at' + 8 + j)))) (q + 3) i = _
        rw [gB_eq rfl]
        by_cases hij : i = j
        · rw [upd_eq hij, hij]
        · rw [upd_ne hij]; exact z3 i (by omega)
      · rw [e4, gB_eq rfl]
        by_cases hij : i = j
        · rw [upd_eq hij, hij]
        · rw [upd_ne hij]; exact mz3 i (by omega)
  · -- a number a channel
    have hl2 : ln = 2 * ch kd := by omega
    have hchb := ch_b kd
    refine s_neg (N_ne (b := 3) (by omega) (by omega) c3) ?_
    refine s_nz (by decide) ?_
    refine s_let (fun t2 e2 => ?_)
    rw [show (2 : Int32) = N 2 from rfl, N_div (by omega) (by omega), show ln / 2 = ch kd by omega] at e2
    have m2 : FM [4073, 4057] [70] t t2 := by rw [e2]; exact m1.wS (by decide) _
    have ma2 : gS t2 4073 = N 1 := by rw [e2, gS_ne (by decide)]; exact ma1
    have mb2 : gS t2 4057 = N (ch kd) := by rw [e2]; exact gS_eq rfl
    clear e2
    refine Ok.sw ?_
    refine s_neg (N_ne (b := 3) (by omega) (by omega) c3) ?_
    refine s_R (F7 f1) ?_
    rw [FS f1 (by omega) (by omega), g5, show (2 : Int32) = N 2 from rfl, N_mul]
    refine s_pos (by rw [hl2]) ?_
    obtain ⟨pv, hpv⟩ : ∃ pv : Nat → Nat, pv = fun i => T (at' + 8 + 2 * i) * 256 + T (at' + 8 + 2 * i + 1) := ⟨_, rfl⟩
    have hpvb : ∀ i, pv i < 65536 := fun i => by rw [hpv]; have := h3 (at' + 8 + 2 * i); have := h3 (at' + 8 + 2 * i + 1); dsimp only; omega
    have hpw := pw_le hk
    refine ok_for2 0 (ch kd) (fun j x s' y t' => x = N (at' + 8 + 2 * j) ∧ y = N j ∧ gS s' 710 = N 1 ∧ gS s' (64 * q + 7) = N j ∧ (∀ i, i < j → gB s' (q + 3) i = N (pv i)) ∧ Fr (PTh q) (ATh q) s s' ∧ gS t' 4073 = N 1 ∧ gS t' 4057 = N (ch kd) ∧ (∀ i, i < j → gB t' 70 i = N (pv i)) ∧ FM [4073, 4057] [70] t t') ?_ (by omega) (by omega) (by omega) ⟨rfl, rfl, a1, c1, fun i hi => by omega, f1, ma2, mb2, fun i hi => by omega, m2⟩
    rintro j k2 k3 x s3 y t3 - hj ⟨rfl, rfl, a3, b3, z3, f3, ma3, mb3, mz3, m3⟩ ih
    rw [N_add]
    by_cases hje : ch kd = j
    · refine s_pos (by rw [N_le (by omega) (by omega)]; omega) (s_z (Or.inr rfl) (Ok.some ?_))
      refine s_pos (by rw [show gS t3 (64 * 63 + 25) = N (ch kd) from mb3, N_le (by omega) (by omega)]; omega) (s_z (Or.inr rfl) (Ok.some ?_))
      rw [← hje] at b3 z3 mz3
      exact Or.inl ⟨ch kd, pv, by omega, fun z => absurd z c3, hpvb, rfl, rfl, a3, b3, z3, f3, ma3, mb3, mz3, m3⟩
    · refine s_neg (by rw [N_le (by omega) (by omega)]; omega) ?_
      have epv : pv j = T (at' + 8 + 2 * j) * 256 + T (at' + 8 + 2 * j + 1) := by rw [hpv]
      have hbj := hpvb j
      have pr := C_pair (n := n) (k := at' + 8 + 2 * j) rfl (FP f3) (FT f3) (by omega)
      rw [← epv] at pr
      refine s_R (FP f3).Pieces_tape ?_
      refine s_c pr ?_
      refine s_R (F7 f3) ?_
      rw [FS f3 (by omega) (by omega), gd, show (1 : Int32) = N 1 from rfl, show (31 : Int32) = N 31 from rfl, N_shl (by omega), Nat.shiftLeft_eq, Nat.one_mul]
      refine Ok.sw ?_
      refine s_neg (by rw [show gS t3 (64 * 63 + 25) = N (ch kd) from mb3, N_le (by omega) (by omega)]; omega) ?_
      refine s_ji ?_
      rw [mk1 m3]
      refine s_neg (N_ne (b := 3) (by omega) (by omega) c3) ?_
      refine s_let (fun x9 hx9 => ?_)
      dsimp only at hx9
      (try rw [show (2 : Int32) = N 2 from rfl] at hx9)
      rw [show (8 : Int32) = N 8 from rfl, N_mul, N_add, N_add] at hx9
      subst hx9
      refine s_R m3.1.2.newThins ?_
      refine s_ji ?_
      rw [mk1 m3]
      refine s_neg (N_ne (b := 3) (by omega) (by omega) c3) ?_
      refine s_c (Md_at_eq m3.1.2 (T1 m3) hl rfl (by omega)) ?_
      refine s_c (Md_at_eq m3.1.2 (T1 m3) hl (show N (at' + 8 + 2 * j) + 1 = N (at' + 8 + 2 * j + 1) by rw [show (1 : Int32) = N 1 from rfl, N_add]) (by omega)) ?_
      dsimp only
      rw [show (256 : Int32) = N 256 from rfl, N_mul, N_add, show 256 * T (at' + 8 + 2 * j) + T (at' + 8 + 2 * j + 1) = pv j by rw [epv, Nat.mul_comm]]
      refine s_in rfl (by rw [kd_70]; omega) (by omega) ?_
      rw [N_nat (by omega)]
      refine s_let (fun t4 e4 => ?_)
      have m4 : FM [4073, 4057] [70] t t4 := by rw [e4]; exact m3.wB (by decide) _ _
      have v4 : gB t4 70 j = N (pv j) := by rw [e4, gB_eq rfl]; exact upd_eq rfl
      refine s_ji ?_
      rw [mk1 m4]
      refine s_neg (N_ne (b := 3) (by omega) (by omega) c3) ?_
      refine s_R m4.1.2.newThins ?_
      refine s_in rfl (by rw [kd_70]; omega) (by omega) ?_
      rw [v4, md1 m4]
      (try rw [show (1 : Int32) = N 1 from rfl])
      (try rw [show (31 : Int32) = N 31 from rfl])
      rw [N_shl (by omega), Nat.shiftLeft_eq, Nat.one_mul]
      by_cases hlt : pv j < 2 ^ dp
      · refine s_pos (by rw [N_lt (by omega) (by omega)]; exact hlt) ?_
        refine s_let (fun x9 hx9 => ?_)
        rw [N_one, N_add] at hx9
        subst hx9
        refine Ok.sw ?_
        refine s_pos (by rw [N_lt (by omega) (by omega)]; exact hlt) ?_
        refine s_R (F7 f3) ?_
        refine s_R (FP f3).Pieces_tape ?_
        refine s_c pr ?_
        rw [addT hq (FP f3) b3 (by omega)]
        show Ok (kf_let (N (at' + 8 + 2 * j) + Int32.ofInt 2) fun x39 => k2 x39 _) _
        refine s_let (fun x9 hx9 => ?_)
        rw [N_i2, N_add] at hx9
        subst hx9
        refine ih (by omega) _ _ _ _ ⟨rfl, rfl, (gS_ne (by omega)).trans a3, gS_eq rfl, fun i hi => ?_, Fr.wS (Fr.wB f3 rfl _ _) (Or.inr rfl) _, by rw [e4]; exact ma3, by rw [e4]; exact mb3, fun i hi => ?_, m4⟩
        · show gB (pB s3 (q + 3) j (N (pv j))) (q + 3) i = _
          rw [gB_eq rfl]
          by_cases hij : i = j
          · rw [upd_eq hij, hij]
          · rw [upd_ne hij]; exact z3 i (by omega)
        · rw [e4, gB_eq rfl]
          by_cases hij : i = j
          · rw [upd_eq hij, hij]
          · rw [upd_ne hij]; exact mz3 i (by omega)
      · refine s_neg (by rw [N_lt (by omega) (by omega)]; exact hlt) ?_
        refine (M_flaw (c := 10) rfl rfl).c2 ?_
        rintro r t8 ⟨e8, g8⟩
        dsimp only at e8 g8 ⊢
        subst e8
        refine s_z (Or.inl rfl) (Ok.some ?_)
        refine s_neg (by rw [N_lt (by omega) (by omega)]; exact hlt) ?_
        refine s_R (FP f3).Pieces_fault ?_
        refine (C_ref (c := 10) rfl rfl).c2 ?_
        rintro r s8 ⟨e8, h8⟩
        dsimp only at e8 h8 ⊢
        subst e8
        exact s_z (Or.inl rfl) (Ok.some (Or.inr ⟨rfl, rfl, _, _, h8, g8⟩))
