/-! THE HEADER, BOTH SIDES -/
set_option maxHeartbeats 2000000 in
theorem L_header {n q len at' : Nat} {T : Nat → Nat} {s t : Mm} {x y z : Int32} (ex : x = N at') (ey : y = N 13) (ez : z = N (at' + 8)) (hn : 600000 < n) (hq : isP q) (hX : PtX s ∧ gR s 707 = some q) (hT : TapeC T len s) (hst : Stat s) (hXM : PtX t) (hTM : TapeM T len t) (hat : at' + 25 ≤ len) : Ok (F_Pieces_takeHeader n 11 x y s) (fun a => Ok (F_Md_readHeader n 63 z t) (fun b => (∃ w h kd dp lc, Hd w h lc ∧ kdOk kd dp ∧ a.1 = 1 ∧ b.1 = 1 ∧ PicC q w h kd dp lc 0 0 z0 z0 z0 a.2 ∧ Fr (UPc q) (UAc q) s a.2 ∧ gS b.2 4048 = N w ∧ gS b.2 4049 = N h ∧ gS b.2 4050 = N kd ∧ gS b.2 4051 = N dp ∧ gS b.2 4052 = N lc ∧ FM [4048, 4049, 4050, 4051, 4052] [] t b.2) ∨ (a.1 = 0 ∧ b.1 = 0 ∧ ∃ cd pl, FC cd pl a.2 ∧ FV cd pl b.2))) := by
  subst ex ey ez
  have hp := hX.1.1
  have hl := hT.2.1
  have h3 := hT.2.2.1
  have hm := hXM.2
  have q1 := hp.Pieces_tape
  have q2 := hp.Pieces_fault
  have q3 := hp.Tape_bytes
  obtain ⟨o, ho⟩ : ∃ o, o = at' + 8 := ⟨_, rfl⟩
  have W := num_lt h3 o
  have H := num_lt h3 (o + 4)
  have b8 := h3 (o + 8)
  have b9 := h3 (o + 9)
  have b10 := h3 (o + 10)
  have b11 := h3 (o + 11)
  have b12 := h3 (o + 12)
  rw [← ho]
  have hol : o + 17 ≤ len := by omega
  clear hat
  have eo : ∀ v : Nat, ∀ {w : Int32}, w = N v → N o + w = N (o + v) := fun v w e => by rw [e, N_add]
  have nA := C_number (n := n) (k := o) rfl hp hT (by omega)
  have nB := C_number (n := n) (k := o + 4) (x := N o + 4) (eo 4 rfl) hp hT (by omega)
  have mA := fun (t' : Mm) (hp' : PtM t') (hT' : TapeM T len t') => M_number (n := n) (k := o) (t := t') rfl hp' hT' hl h3 (by omega)
  have mB := fun (t' : Mm) (hp' : PtM t') (hT' : TapeM T len t') => M_number (n := n) (k := o + 4) (t := t') (x := N o + 4) (eo 4 rfl) hp' hT' hl h3 (by omega)
  unfold F_Pieces_takeHeader
  refine s_pos rfl ?_
  refine s_let (fun x9 hx9 => ?_)
  rw [show (8 : Int32) = N 8 from rfl, N_add, ← ho] at hx9
  subst hx9
  -- the class
  have bad : ∀ (v : Nat) (t' : Mm), v < 20 → FV 9 (o + v) t' → F_Pieces_wrongInHeader n 11 (N o) s = some (N v, s) → Ok (kf_c2 (F_Pieces_wrongInHeader n 11 (N o) s) fun x2 σ3 =>
if x2 = (-1) then (
Option.bind (gR σ3 (64 * 11 + 3)) fun o4 =>
Option.bind (gR σ3 (64 * 11 + 0)) fun o5 =>
kf_c2 (F_Tape_number n o5 (N o) σ3) fun x6 σ7 =>
Option.bind (gR σ7 (64 * 11 + 0)) fun o8 =>
kf_c2 (F_Tape_number n o8 (N o + 4) σ7) fun x9 σ10 =>
Option.bind (gR σ10 (64 * 11 + 0)) fun o11 =>
Option.bind (gR σ10 (64 * o11 + 0)) fun o12 =>
kf_let (N o + 9 : Int32) fun x13 =>
kf_in x13 (mm_kd o12).2.2 <|
Option.bind (gR σ10 (64 * 11 + 0)) fun o14 =>
Option.bind (gR σ10 (64 * o14 + 0)) fun o15 =>
kf_let (N o + 8 : Int32) fun x16 =>
kf_in x16 (mm_kd o15).2.2 <|
Option.bind (gR σ10 (64 * 11 + 0)) fun o17 =>
Option.bind (gR σ10 (64 * o17 + 0)) fun o18 =>
kf_let (N o + 12 : Int32) fun x19 =>
kf_in x19 (mm_kd o18).2.2 <|
kf_j (α := Int32 × Int32 × Int32 × Int32 × Int32) (fun x21 σ22 =>
Option.bind (F_Picture_begin n o4 x21.1 x21.2.1 x21.2.2.1 x21.2.2.2.1 x21.2.2.2.2 σ22) fun σ23 =>
kf_z 1 (some (1, σ23))) fun k20 =>
if (gB σ10 o18 x19.toNatClampNeg) = 1 then (
k20 (x6, x9, gB σ10 o12 x13.toNatClampNeg, gB σ10 o15 x16.toNatClampNeg, 1) σ10) else (
k20 (x6, x9, gB σ10 o12 x13.toNatClampNeg, gB σ10 o15 x16.toNatClampNeg, 0) σ10)) else (
Option.bind (gR σ3 (64 * 11 + 1)) fun o24 =>
kf_c2 (F_Fault_refuse n o24 9 (N o + x2) σ3) fun x25 σ26 =>
kf_z x25 (some (x25, σ26)))) (fun a => ∃ cd pl, a.1 = 0 ∧ FC cd pl a.2 ∧ FV cd pl t') := fun v t' hv hf hw => by
    refine s_c hw ?_
    refine s_neg (N_m1' (by omega)) ?_
    refine s_R q2 ?_
    refine (C_ref (c := 9) rfl (N_add o v)).c2 ?_
    rintro r s8 ⟨e8, h8⟩
    dsimp only at e8 h8 ⊢
    subst e8
    exact s_z (Or.inl rfl) (Ok.some ⟨_, _, rfl, h8, hf⟩)
  have badX : ∀ {CLS : Option (Int32 × Mm)} {t' : Mm}, Ok CLS (fun a => ∃ cd pl, a.1 = 0 ∧ FC cd pl a.2 ∧ FV cd pl t') → Ok CLS (fun a => (∃ w h kd dp lc, Hd w h lc ∧ kdOk kd dp ∧ a.1 = 1 ∧ ((0 : Int32), t').1 = 1 ∧ PicC q w h kd dp lc 0 0 z0 z0 z0 a.2 ∧ Fr (UPc q) (UAc q) s a.2 ∧ gS ((0 : Int32), t').2 4048 = N w ∧ gS ((0 : Int32), t').2 4049 = N h ∧ gS ((0 : Int32), t').2 4050 = N kd ∧ gS ((0 : Int32), t').2 4051 = N dp ∧ gS ((0 : Int32), t').2 4052 = N lc ∧ FM [4048, 4049, 4050, 4051, 4052] [] t ((0 : Int32), t').2) ∨ (a.1 = 0 ∧ ((0 : Int32), t').1 = 0 ∧ ∃ cd pl, FC cd pl a.2 ∧ FV cd pl ((0 : Int32), t').2)) := fun h => h.mono (fun a ⟨cd, pl, h1, h2, h3⟩ => Or.inr ⟨h1, rfl, cd, pl, h2, h3⟩)
  -- steps of wrongInHeader
  unfold F_Md_readHeader
  refine Ok.sw ?_
  refine s_c (mA t hm hTM) ?_
  refine s_ji ?_
  rw [show (1 : Int64) = L 1 from rfl, show (64 : Int64) = L 64 from rfl]
  have fl0 : ∀ {t' : Mm}, Ok (kf_c2 (F_Md_flaw n 63 9 (N o) t') fun x6 σ7 => kf_z x6 (some (x6, σ7))) (fun b => b.1 = 0 ∧ FV 9 o b.2) := fun {t'} => by
    refine (M_flaw (c := 9) rfl rfl).c2 ?_
    rintro r t8 ⟨e8, g8⟩
    dsimp only at e8 g8 ⊢
    subst e8
    exact s_z (Or.inl rfl) (Ok.some ⟨rfl, g8⟩)
  have flv : ∀ {t' : Mm} {v : Nat} {y : Int32}, y = N (o + v) → Ok (kf_c2 (F_Md_flaw n 63 9 y t') fun x6 σ7 => kf_z x6 (some (x6, σ7))) (fun b => b.1 = 0 ∧ FV 9 (o + v) b.2) := fun {t' v y} e => by
    refine (M_flaw (c := 9) rfl e).c2 ?_
    rintro r t8 ⟨e8, g8⟩
    dsimp only at e8 g8 ⊢
    subst e8
    exact s_z (Or.inl rfl) (Ok.some ⟨rfl, g8⟩)
  by_cases cW : 1 ≤ num T o ∧ num T o ≤ 64
  case neg =>
    have wr : F_Pieces_wrongInHeader n 11 (N o) s = some (N 0, s) := by
      apply Ok.eq
      unfold F_Pieces_wrongInHeader
      refine s_R q1 ?_
      refine s_c nA ?_
      refine s_c (isSize_n W cW) ?_
      exact s_pos rfl (Ok.some rfl)
    by_cases c1 : num T o < 1
    · refine s_pos ((lg_lt (by omega) (by omega)).mpr c1) ?_
      refine fl0.mono ?_
      rintro ⟨b, t8⟩ ⟨e8, g8⟩
      dsimp only at e8 g8
      subst e8
      exact badX (bad 0 t8 (by omega) g8 wr)
    · refine s_neg (by rw [lg_lt (by omega) (by omega)]; exact c1) ?_
      refine s_c (mA t hm hTM) ?_
      refine s_neg (by rw [lg_le (by omega) (by omega)]; omega) ?_
      refine fl0.mono ?_
      rintro ⟨b, t8⟩ ⟨e8, g8⟩
      dsimp only at e8 g8
      subst e8
      exact badX (bad 0 t8 (by omega) g8 wr)
  case pos =>
  refine s_neg (by rw [lg_lt (by omega) (by omega)]; omega) ?_
  refine s_c (mA t hm hTM) ?_
  refine s_pos ((lg_le (by omega) (by omega)).mpr (by omega)) ?_
  refine s_c (mB t hm hTM) ?_
  refine s_ji ?_
  by_cases cH : 1 ≤ num T (o + 4) ∧ num T (o + 4) ≤ 64
  case neg =>
    have wr : F_Pieces_wrongInHeader n 11 (N o) s = some (N 4, s) := by
      apply Ok.eq
      unfold F_Pieces_wrongInHeader
      refine s_R q1 ?_
      refine s_c nA ?_
      refine s_c (isSize_yes cW.1 cW.2) ?_
      refine s_neg (by decide) ?_
      refine s_R q1 ?_
      refine s_c nB ?_
      refine s_c (isSize_n H cH) ?_
      exact s_pos rfl (Ok.some rfl)
    by_cases c1 : num T (o + 4) < 1
    · refine s_pos ((lg_lt (by omega) (by omega)).mpr c1) ?_
      refine (flv (v := 4) (eo 4 rfl)).mono ?_
      rintro ⟨b, t8⟩ ⟨e8, g8⟩
      dsimp only at e8 g8
      subst e8
      exact badX (bad 4 t8 (by omega) g8 wr)
    · refine s_neg (by rw [lg_lt (by omega) (by omega)]; exact c1) ?_
      refine s_c (mB t hm hTM) ?_
      refine s_neg (by rw [lg_le (by omega) (by omega)]; omega) ?_
      refine (flv (v := 4) (eo 4 rfl)).mono ?_
      rintro ⟨b, t8⟩ ⟨e8, g8⟩
      dsimp only at e8 g8
      subst e8
      exact badX (bad 4 t8 (by omega) g8 wr)
  case pos =>
  refine s_neg (by rw [lg_lt (by omega) (by omega)]; omega) ?_
  refine s_c (mB t hm hTM) ?_
  refine s_pos ((lg_le (by omega) (by omega)).mpr (by omega)) ?_
  refine s_c (mA t hm hTM) ?_
  refine s_let (fun t1 e1 => ?_)
  rw [L_int] at e1
  have f1 : FM [4048, 4049, 4050, 4051, 4052] [] t t1 := by rw [e1]; exact (FM.rfl hXM).wS (by decide) _
  have T1 : TapeM T len t1 := by rw [e1]; exact ⟨(gS_ne (by decide)).trans hTM.1, hTM.2⟩
  refine s_c (mB t1 f1.1.2 T1) ?_
  refine s_let (fun t2 e2 => ?_)
  rw [L_int] at e2
  have f2 : FM [4048, 4049, 4050, 4051, 4052] [] t t2 := by rw [e2]; exact f1.wS (by decide) _
  have T2 : TapeM T len t2 := by rw [e2]; exact ⟨(gS_ne (by decide)).trans T1.1, T1.2⟩
  refine s_c (Md_at_eq f2.1.2 T2 hl (eo 8 rfl) (by omega)) ?_
  refine s_let (fun t3 e3 => ?_)
  have f3 : FM [4048, 4049, 4050, 4051, 4052] [] t t3 := by rw [e3]; exact f2.wS (by decide) _
  have T3 : TapeM T len t3 := by rw [e3]; exact ⟨(gS_ne (by decide)).trans T2.1, T2.2⟩
  refine s_c (Md_at_eq f3.1.2 T3 hl (eo 9 rfl) (by omega)) ?_
  refine s_let (fun t4 e4 => ?_)
  have f4 : FM [4048, 4049, 4050, 4051, 4052] [] t t4 := by rw [e4]; exact f3.wS (by decide) _
  have T4 : TapeM T len t4 := by rw [e4]; exact ⟨(gS_ne (by decide)).trans T3.1, T3.2⟩
  have w4 : gS t4 4048 = N (num T o) := by rw [e4, gS_ne (by decide), e3, gS_ne (by decide), e2, gS_ne (by decide), e1]; exact gS_eq rfl
  have h4 : gS t4 4049 = N (num T (o + 4)) := by rw [e4, gS_ne (by decide), e3, gS_ne (by decide), e2]; exact gS_eq rfl
  have d4 : gS t4 4051 = N (T (o + 8)) := by rw [e4, gS_ne (by decide), e3]; exact gS_eq rfl
  have k4 : gS t4 4050 = N (T (o + 9)) := by rw [e4]; exact gS_eq rfl
  clear e1 e2 e3 e4 f1 f2 f3 T1 T2 T3
  -- the class's steps, as far as they go
  have head : ∀ {X : Type} {QQ : X → Prop} (K : Int32 → Mm → Option X), Ok (kf_c2 (F_Picture_isDepth n (N (T (o + 8))) s) K) QQ → Ok (Option.bind (gR s (64 * 11 + 0)) fun o11 => Option.bind (gR s (64 * o11 + 0)) fun o12 => kf_let (N o + 8 : Int32) fun x13 => kf_in x13 (mm_kd o12).2.2 <| kf_c2 (F_Picture_isDepth n (gB s o12 x13.toNatClampNeg) s) K) QQ := fun K h => by
    refine s_R q1 ?_
    refine s_R q3 ?_
    refine s_let (fun x9 hx9 => ?_)
    rw [eo 8 (w := 8) rfl] at hx9
    subst hx9
    refine s_in rfl (by rw [kd_3]; omega) (by omega) ?_
    rw [N_nat (by omega), hT.2.2.2 _ (by omega)]
    exact h
  by_cases cD : kdOk 0 (T (o + 8))
  case neg =>
    have wr : F_Pieces_wrongInHeader n 11 (N o) s = some (N 8, s) := by
      apply Ok.eq
      unfold F_Pieces_wrongInHeader
      refine s_R q1 ?_
      refine s_c nA ?_
      refine s_c (isSize_yes cW.1 cW.2) ?_
      refine s_neg (by decide) ?_
      refine s_R q1 ?_
      refine s_c nB ?_
      refine s_c (isSize_yes cH.1 cH.2) ?_
      refine s_neg (by decide) ?_
      refine head _ ?_
      refine s_c (isDepth_no (by omega) (fun z => cD ((dpOk_iff _).mpr z))) ?_
      exact s_pos rfl (Ok.some rfl)
    have mb := mayBe_no (n := n) (σ := t4) (by omega) (by omega) cD
    rw [← d4] at mb
    refine s_c mb ?_
    refine s_pos rfl ?_
    refine (flv (v := 8) (eo 8 rfl)).mono ?_
    rintro ⟨b, t8⟩ ⟨e8, g8⟩
    dsimp only at e8 g8
    subst e8
    exact badX (bad 8 t8 (by omega) g8 wr)
  case pos =>
  have mb := mayBe_yes (n := n) (σ := t4) cD
  rw [← d4] at mb
  refine s_c mb ?_
  clear mb
  refine s_neg (by decide) ?_
  have tail9 : ∀ {X : Type} {QQ : X → Prop} (K : Int32 → Mm → Option X), Ok (kf_c2 (F_Picture_kindHas n (N (T (o + 9))) (N (T (o + 8))) s) K) QQ → Ok (Option.bind (gR s (64 * 11 + 0)) fun o16 =>
Option.bind (gR s (64 * o16 + 0)) fun o17 =>
kf_let (N o + 9 : Int32) fun x18 =>
kf_in x18 (mm_kd o17).2.2 <|
Option.bind (gR s (64 * 11 + 0)) fun o19 =>
Option.bind (gR s (64 * o19 + 0)) fun o20 =>
kf_let (N o + 8 : Int32) fun x21 =>
kf_in x21 (mm_kd o20).2.2 <|
kf_c2 (F_Picture_kindHas n (gB s o17 x18.toNatClampNeg) (gB s o20 x21.toNatClampNeg) s) K) QQ := fun K h => by
    refine s_R q1 ?_
    refine s_R q3 ?_
    refine s_let (fun x9 hx9 => ?_)
    rw [eo 9 (w := 9) rfl] at hx9
    subst hx9
    refine s_in rfl (by rw [kd_3]; omega) (by omega) ?_
    refine s_R q1 ?_
    refine s_R q3 ?_
    refine s_let (fun x9 hx9 => ?_)
    rw [eo 8 (w := 8) rfl] at hx9
    subst hx9
    refine s_in rfl (by rw [kd_3]; omega) (by omega) ?_
    rw [N_nat (by omega), N_nat (by omega), hT.2.2.2 _ (by omega), hT.2.2.2 _ (by omega)]
    exact h
  have wrK : ∀ {QQ : Int32 × Mm → Prop}, Ok (kf_c2 (F_Picture_kindHas n (N (T (o + 9))) (N (T (o + 8))) s) fun x22 σ23 =>
if x22 = 0 then (
some ((9 : Int32), σ23)) else (
Option.bind (gR σ23 (64 * 11 + 0)) fun o24 =>
Option.bind (gR σ23 (64 * o24 + 0)) fun o25 =>
kf_let (N o + 10 : Int32) fun x26 =>
kf_in x26 (mm_kd o25).2.2 <|
if (gB σ23 o25 x26.toNatClampNeg) = 0 then (
Option.bind (gR σ23 (64 * 11 + 0)) fun o27 =>
Option.bind (gR σ23 (64 * o27 + 0)) fun o28 =>
kf_let (N o + 11 : Int32) fun x29 =>
kf_in x29 (mm_kd o28).2.2 <|
if (gB σ23 o28 x29.toNatClampNeg) = 0 then (
Option.bind (gR σ23 (64 * 11 + 0)) fun o30 =>
Option.bind (gR σ23 (64 * o30 + 0)) fun o31 =>
kf_let (N o + 12 : Int32) fun x32 =>
kf_in x32 (mm_kd o31).2.2 <|
kf_j (α := Int32) (fun x34 σ35 =>
some (x34, σ35)) fun k33 =>
if (gB σ23 o31 x32.toNatClampNeg) ≤ 1 then (
k33 (-1) σ23) else (
k33 12 σ23)) else (
some (11, σ23))) else (
some (10, σ23)))) QQ → Ok (F_Pieces_wrongInHeader n 11 (N o) s) QQ := fun {QQ} h => by
    unfold F_Pieces_wrongInHeader
    refine s_R q1 ?_
    refine s_c nA ?_
    refine s_c (isSize_yes cW.1 cW.2) ?_
    refine s_neg (by decide) ?_
    refine s_R q1 ?_
    refine s_c nB ?_
    refine s_c (isSize_yes cH.1 cH.2) ?_
    refine s_neg (by decide) ?_
    refine head _ ?_
    refine s_c (isDepth_yes ((dpOk_iff _).mp cD)) ?_
    refine s_neg (by decide) ?_
    exact tail9 _ h
  by_cases cK : kdOk (T (o + 9)) (T (o + 8))
  case neg =>
    have wr : F_Pieces_wrongInHeader n 11 (N o) s = some (N 9, s) := by
      apply Ok.eq
      refine wrK ?_
      refine s_c (kindHas_no (by omega) (by omega) cK) ?_
      exact s_pos rfl (Ok.some rfl)
    have mb := mayBe_no (n := n) (σ := t4) (by omega) (by omega) cK
    rw [← d4, ← k4] at mb
    refine s_c mb ?_
    refine s_pos rfl ?_
    refine (flv (v := 9) (eo 9 rfl)).mono ?_
    rintro ⟨b, t8⟩ ⟨e8, g8⟩
    dsimp only at e8 g8
    subst e8
    exact badX (bad 9 t8 (by omega) g8 wr)
  case pos =>
  have mb := mayBe_yes (n := n) (σ := t4) cK
  rw [← d4, ← k4] at mb
  refine s_c mb ?_
  clear mb
  refine s_neg (by decide) ?_
  refine s_c (Md_at_eq f4.1.2 T4 hl (eo 10 rfl) (by omega)) ?_
  refine s_ji ?_
  have byC : ∀ {X : Type} {QQ : X → Prop} {v : Nat} {w : Int32} (K : Int32 → Option X), w = N v → v < 17 → Ok (K (N (T (o + v)))) QQ → Ok (Option.bind (gR s (64 * 11 + 0)) fun o24 =>
Option.bind (gR s (64 * o24 + 0)) fun o25 =>
kf_let (N o + w : Int32) fun x26 =>
kf_in x26 (mm_kd o25).2.2 <| K (gB s o25 x26.toNatClampNeg)) QQ := fun {X QQ v w} K e hv h => by
    refine s_R q1 ?_
    refine s_R q3 ?_
    refine s_let (fun x9 hx9 => ?_)
    rw [eo v e] at hx9
    subst hx9
    refine s_in rfl (by rw [kd_3]; omega) (by omega) ?_
    rw [N_nat (by omega), hT.2.2.2 _ (by omega)]
    exact h
  by_cases c10 : T (o + 10) = 0
  case neg =>
    have wr : F_Pieces_wrongInHeader n 11 (N o) s = some (N 10, s) := by
      apply Ok.eq
      refine wrK ?_
      refine s_c (kindHas_yes cK) ?_
      refine s_neg (by decide) ?_
      refine byC (v := 10) (fun z => if z = 0 then _ else _) rfl (by omega) ?_
      exact s_neg (N_ne (b := 0) (by omega) (by omega) c10) (Ok.some rfl)
    refine s_neg (N_ne (b := 0) (by omega) (by omega) c10) ?_
    refine s_c (Md_at_eq f4.1.2 T4 hl (eo 10 rfl) (by omega)) ?_
    refine s_ji ?_
    refine s_neg (N_ne (b := 0) (by omega) (by omega) c10) ?_
    refine (flv (v := 10) (eo 10 rfl)).mono ?_
    rintro ⟨b, t8⟩ ⟨e8, g8⟩
    dsimp only at e8 g8
    subst e8
    exact badX (bad 10 t8 (by omega) g8 wr)
  case pos =>
  refine s_pos (by rw [c10]; rfl) ?_
  refine s_c (Md_at_eq f4.1.2 T4 hl (eo 11 rfl) (by omega)) ?_
  by_cases c11 : T (o + 11) = 0
  case neg =>
    have wr : F_Pieces_wrongInHeader n 11 (N o) s = some (N 11, s) := by
      apply Ok.eq
      refine wrK ?_
      refine s_c (kindHas_yes cK) ?_
      refine s_neg (by decide) ?_
      refine byC (v := 10) (fun z => if z = 0 then _ else _) rfl (by omega) ?_
      refine s_pos (by rw [c10]; rfl) ?_
      refine byC (v := 11) (fun z => if z = 0 then _ else _) rfl (by omega) ?_
      exact s_neg (N_ne (b := 0) (by omega) (by omega) c11) (Ok.some rfl)
    refine s_neg (N_ne (b := 0) (by omega) (by omega) c11) ?_
    refine s_c (Md_at_eq f4.1.2 T4 hl (eo 10 rfl) (by omega)) ?_
    refine s_ji ?_
    refine s_pos (by rw [c10]; rfl) ?_
    refine (flv (v := 11) (eo 11 rfl)).mono ?_
    rintro ⟨b, t8⟩ ⟨e8, g8⟩
    dsimp only at e8 g8
    subst e8
    exact badX (bad 11 t8 (by omega) g8 wr)
  case pos =>
  refine s_pos (by rw [c11]; rfl) ?_
  refine s_c (Md_at_eq f4.1.2 T4 hl (eo 12 rfl) (by omega)) ?_
  refine s_j (fun k51 hk51 => ?_)
  obtain ⟨lc, hlc⟩ : ∃ lc : Nat, (lc = 1 ∧ T (o + 12) = 1) ∨ (lc = 0 ∧ ¬ T (o + 12) = 1) := by
    by_cases c : T (o + 12) = 1
    · exact ⟨1, Or.inl ⟨rfl, c⟩⟩
    · exact ⟨0, Or.inr ⟨rfl, c⟩⟩
  have st : ∀ (QQ : Int32 × Mm → Prop), Ok (k51 (N lc) t4) QQ → Ok (if N (T (o + 12)) = 1 then k51 1 t4 else k51 0 t4) QQ := fun QQ h => by
    rcases hlc with ⟨h1, h2⟩ | ⟨h1, h2⟩
    · rw [h1] at h
      exact s_pos (by rw [h2]; rfl) h
    · rw [h1] at h
      exact s_neg (N_ne (b := 1) (by omega) (by omega) h2) h
  refine st _ ?_
  subst hk51
  dsimp only
  clear st
  refine s_z (by rcases hlc with ⟨h1, -⟩ | ⟨h1, -⟩ <;> rw [h1]; right; rfl; left; rfl) ?_
  refine s_let (fun t5 e5 => ?_)
  have f5 : FM [4048, 4049, 4050, 4051, 4052] [] t t5 := by rw [e5]; exact f4.wS (by decide) _
  have T5 : TapeM T len t5 := by rw [e5]; exact ⟨(gS_ne (by decide)).trans T4.1, T4.2⟩
  have l5 : gS t5 4052 = N lc := by rw [e5]; exact gS_eq rfl
  have S5 : ∀ k, k ≠ 4052 → gS t5 k = gS t4 k := fun k hk => by rw [e5]; exact gS_ne hk
  clear e5
  refine s_c (Md_at_eq f5.1.2 T5 hl (eo 12 rfl) (by omega)) ?_
  refine s_ji ?_
  refine s_ji ?_
  by_cases c12 : 1 < T (o + 12)
  · have wr : F_Pieces_wrongInHeader n 11 (N o) s = some (N 12, s) := by
      apply Ok.eq
      refine wrK ?_
      refine s_c (kindHas_yes cK) ?_
      refine s_neg (by decide) ?_
      refine byC (v := 10) (fun z => if z = 0 then _ else _) rfl (by omega) ?_
      refine s_pos (by rw [c10]; rfl) ?_
      refine byC (v := 11) (fun z => if z = 0 then _ else _) rfl (by omega) ?_
      refine s_pos (by rw [c11]; rfl) ?_
      refine byC (v := 12) (fun z => kf_j (α := Int32) (fun x34 σ35 => some (x34, σ35)) fun k33 => if z ≤ 1 then k33 (-1) s else k33 12 s) rfl (by omega) ?_
      refine s_ji ?_
      exact s_neg (by rw [show (1 : Int32) = N 1 from rfl, N_le (by omega) (by omega)]; omega) (Ok.some rfl)
    refine s_neg (by rw [show (2 : Int32) = N 2 from rfl, N_lt (by omega) (by omega)]; omega) ?_
    refine (M_flaw (c := 9) rfl (eo 12 rfl)).c2 ?_
    rintro r t8 ⟨e8, g8⟩
    dsimp only at e8 g8 ⊢
    refine s_pos e8 (s_z (Or.inl rfl) (Ok.some ?_))
    exact badX (bad 12 t8 (by omega) g8 wr)
  · have wr : F_Pieces_wrongInHeader n 11 (N o) s = some (-1, s) := by
      apply Ok.eq
      refine wrK ?_
      refine s_c (kindHas_yes cK) ?_
      refine s_neg (by decide) ?_
      refine byC (v := 10) (fun z => if z = 0 then _ else _) rfl (by omega) ?_
      refine s_pos (by rw [c10]; rfl) ?_
      refine byC (v := 11) (fun z => if z = 0 then _ else _) rfl (by omega) ?_
      refine s_pos (by rw [c11]; rfl) ?_
      refine byC (v := 12) (fun z => kf_j (α := Int32) (fun x34 σ35 => some (x34, σ35)) fun k33 => if z ≤ 1 then k33 (-1) s else k33 12 s) rfl (by omega) ?_
      refine s_ji ?_
      exact s_pos (by rw [show (1 : Int32) = N 1 from rfl, N_le (by omega) (by omega)]; omega) (Ok.some rfl)
    refine s_pos (by rw [show (2 : Int32) = N 2 from rfl, N_lt (by omega) (by omega)]; omega) ?_
    refine s_z (Or.inr rfl) (Ok.some ?_)
    refine s_c wr ?_
    refine s_pos rfl ?_
    refine s_R hX.2 ?_
    refine s_R q1 ?_
    refine s_c nA ?_
    refine s_R q1 ?_
    refine s_c nB ?_
    refine s_R q1 ?_
    refine s_R q3 ?_
    refine s_let (fun x9 hx9 => ?_)
    rw [eo 9 (w := 9) rfl] at hx9
    subst hx9
    refine s_in rfl (by rw [kd_3]; omega) (by omega) ?_
    refine s_R q1 ?_
    refine s_R q3 ?_
    refine s_let (fun x9 hx9 => ?_)
    rw [eo 8 (w := 8) rfl] at hx9
    subst hx9
    refine s_in rfl (by rw [kd_3]; omega) (by omega) ?_
    refine s_R q1 ?_
    refine s_R q3 ?_
    refine s_let (fun x9 hx9 => ?_)
    rw [eo 12 (w := 12) rfl] at hx9
    subst hx9
    refine s_in rfl (by rw [kd_3]; omega) (by omega) ?_
    rw [N_nat (by omega), N_nat (by omega), N_nat (by omega), hT.2.2.2 _ (by omega), hT.2.2.2 _ (by omega), hT.2.2.2 _ (by omega)]
    refine s_j (fun k20 hk20 => ?_)
    have hHd : Hd (num T o) (num T (o + 4)) lc := ⟨cW.1, cW.2, cH.1, cH.2, by omega⟩
    have fin : Ok (k20 (N (num T o), N (num T (o + 4)), N (T (o + 9)), N (T (o + 8)), N lc) s) (fun a => (∃ w h kd dp lc, Hd w h lc ∧ kdOk kd dp ∧ a.1 = 1 ∧ ((1 : Int32), t5).1 = 1 ∧ PicC q w h kd dp lc 0 0 z0 z0 z0 a.2 ∧ Fr (UPc q) (UAc q) s a.2 ∧ gS ((1 : Int32), t5).2 4048 = N w ∧ gS ((1 : Int32), t5).2 4049 = N h ∧ gS ((1 : Int32), t5).2 4050 = N kd ∧ gS ((1 : Int32), t5).2 4051 = N dp ∧ gS ((1 : Int32), t5).2 4052 = N lc ∧ FM [4048, 4049, 4050, 4051, 4052] [] t ((1 : Int32), t5).2) ∨ (a.1 = 0 ∧ ((1 : Int32), t5).1 = 0 ∧ ∃ cd pl, FC cd pl a.2 ∧ FV cd pl ((1 : Int32), t5).2)) := by
      rw [hk20]
      refine (Picture_begin_ok (by omega) hp hst hq hHd cK).bind ?_
      rintro s9 ⟨p9, f9⟩
      exact s_z (Or.inr rfl) (Ok.some (Or.inl ⟨_, _, _, _, lc, hHd, cK, rfl, rfl, p9, f9, (S5 _ (by decide)).trans w4, (S5 _ (by decide)).trans h4, (S5 _ (by decide)).trans k4, (S5 _ (by decide)).trans d4, l5, f5⟩))
    rcases hlc with ⟨h1, h2⟩ | ⟨h1, h2⟩
    · rw [h1] at fin
      refine s_pos (by rw [h2]; rfl) ?_
      rw [← h1] at fin
      have e1 : lc = 1 := h1
      subst e1
      exact fin
    · have e1 : lc = 0 := h1
      subst e1
      refine s_neg (N_ne (b := 1) (by omega) (by omega) h2) ?_
      exact fin
