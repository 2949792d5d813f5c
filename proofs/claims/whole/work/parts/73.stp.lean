/-! THE LENGTHS OF CODES, BOTH SIDES -/


def mb (v : Nat) : Nat := if v < 16 then 0 else if v = 16 then 2 else if v = 17 then 3 else 7
def mn (v mo : Nat) : Nat := if v < 16 then 1 else if v = 18 then 11 + mo else 3 + mo
theorem mb_le (v : Nat) : mb v ≤ 7 := by unfold mb; (repeat' split) <;> omega
theorem s_4 {X : Type} {k : Int32 → Mm → Option X} {v : Nat} {s : Mm} {Q : X → Prop} (hv : v < 19) (h : Ok (k (N (mb v)) s) Q) : Ok (if (16 : Int32) ≤ N v then (if N v = 16 then k 2 s else (if N v = 17 then k 3 s else k 7 s)) else k 0 s) Q := by
  unfold mb at h
  rw [show (16 : Int32) = N 16 from rfl, show (17 : Int32) = N 17 from rfl]
  by_cases h1 : v < 16
  · rw [if_pos h1] at h
    exact s_neg (by rw [N_le (by omega) (by omega)]; omega) h
  · rw [if_neg h1] at h
    refine s_pos (by rw [N_le (by omega) (by omega)]; omega) ?_
    by_cases h2 : v = 16
    · rw [if_pos h2] at h
      exact s_pos (by rw [h2]) h
    · rw [if_neg h2] at h
      refine s_neg (N_ne (by omega) (by omega) h2) ?_
      by_cases h3 : v = 17
      · rw [if_pos h3] at h
        exact s_pos (by rw [h3]) h
      · rw [if_neg h3] at h
        exact s_neg (N_ne (by omega) (by omega) h3) h
theorem s_5 {X : Type} {k : Int32 → Mm → Option X} {v mo : Nat} {s : Mm} {Q : X → Prop} (hv : v < 19) (h : Ok (k (N (mn v mo)) s) Q) : Ok (if (16 : Int32) ≤ N v then (if N v = 18 then k ((11 : Int32) + N mo) s else k ((3 : Int32) + N mo) s) else k 1 s) Q := by
  unfold mn at h
  rw [show (16 : Int32) = N 16 from rfl, show (18 : Int32) = N 18 from rfl, show (11 : Int32) = N 11 from rfl, show (3 : Int32) = N 3 from rfl, N_add, N_add]
  by_cases h1 : v < 16
  · rw [if_pos h1] at h
    exact s_neg (by rw [N_le (by omega) (by omega)]; omega) h
  · rw [if_neg h1] at h
    refine s_pos (by rw [N_le (by omega) (by omega)]; omega) ?_
    by_cases h2 : v = 18
    · rw [if_pos h2] at h
      exact s_pos (by rw [h2]) h
    · rw [if_neg h2] at h
      exact s_neg (N_ne (by omega) (by omega) h2) h
theorem s_6 {n m ck tot win pos dn v : Nat} {T wh R : Nat → Nat} {t : Mm} {X : Type} {k : Int32 → Mm → Option X} {Q : X → Prop} (hn : 100 < n) (hv : v < 19) (hM : SM T m wh ck tot win pos dn R t) (hT : ∀ i, T i < 256) (hh : pos + mb v ≤ 8 * m) (h : ∀ t', SM T m wh ck tot win (pos + mb v) dn R t' → FM [4075] [] t t' → Ok (k (N (mn v (nb' T wh pos (mb v)))) t') Q) : Ok (if (16 : Int32) ≤ N v then (kf_j (α := Unit) (fun x39 σ40 =>
kf_c2 (F_Md_bits n 63 (N (mb v)) σ40) fun x41 σ42 =>
k ((3 : Int32) + x41) σ42) fun k38 =>
if N v = 16 then (
k38 () t) else (
if N v = 17 then (
k38 () t) else (
kf_c2 (F_Md_bits n 63 (N (mb v)) t) fun x43 σ44 =>
k ((11 : Int32) + x43) σ44))) else (k 1 t)) Q := by
  rw [show (16 : Int32) = N 16 from rfl, show (17 : Int32) = N 17 from rfl, show (11 : Int32) = N 11 from rfl, show (3 : Int32) = N 3 from rfl]
  have hb7 := mb_le v
  by_cases h1 : v < 16
  · have e : mb v = 0 := by unfold mb; rw [if_pos h1]
    have e2 : ∀ mo, mn v mo = 1 := fun mo => by unfold mn; rw [if_pos h1]
    rw [e2] at h
    refine s_neg (by rw [N_le (by omega) (by omega)]; omega) (h t ?_ (FM.rfl hM.1.1.1))
    rw [e]
    exact hM
  · refine s_pos (by rw [N_le (by omega) (by omega)]; omega) ?_
    refine s_ji ?_
    have hb := SM_n1 (k := mb v) rfl hn hM hT (by omega) hh
    by_cases h2 : v = 18
    · refine s_neg (N_ne (by omega) (by omega) (by omega)) ?_
      refine s_neg (N_ne (by omega) (by omega) (by omega)) ?_
      refine hb.c2 ?_
      rintro r t1 ⟨e1, g1, f1⟩
      dsimp only at e1 g1 f1 ⊢
      rw [e1, N_add]
      have e2 : ∀ mo, mn v mo = 11 + mo := fun mo => by unfold mn; rw [if_neg h1, if_pos h2]
      rw [e2] at h
      exact h t1 g1 f1
    · have e2 : ∀ mo, mn v mo = 3 + mo := fun mo => by unfold mn; rw [if_neg h1, if_neg h2]
      rw [e2] at h
      have hk : Ok (kf_c2 (F_Md_bits n 63 (N (mb v)) t) fun x41 σ42 => k (N 3 + x41) σ42) Q := by
        refine hb.c2 ?_
        rintro r t1 ⟨e1, g1, f1⟩
        dsimp only at e1 g1 f1 ⊢
        rw [e1, N_add]
        exact h t1 g1 f1
      by_cases h3 : v = 16
      · exact s_pos (by rw [h3]) hk
      · refine s_neg (N_ne (by omega) (by omega) h3) ?_
        exact s_pos (by rw [show v = 17 by omega]) hk
def RS (q : Nat) (T : Nat → Nat) (len m : Nat) (wh : Nat → Nat) (ck tot win dn : Nat) (R : Nat → Nat) (p0 tt : Nat) (a b : Int32 × Mm) : Prop := (a.1 = 1 ∧ b.1 = 1 ∧ ∃ (pos' : Nat) (ls : Nat → Nat), p0 ≤ pos' ∧ SC q T len m wh ck tot win pos' dn R a.2 ∧ SM T m wh ck tot win pos' dn R b.2 ∧ ∀ k, k < tt → ls k ≤ 15 ∧ gB a.2 33 k = N (ls k) ∧ gB b.2 80 k = N (ls k)) ∨ (a.1 = 0 ∧ b.1 = 0 ∧ ∃ cd pl, FC cd pl a.2 ∧ FV cd pl b.2)
theorem RS.no {q len m ck tot win dn p0 tt cd pl : Nat} {T wh R : Nat → Nat} {a b : Int32} {s t : Mm} (ha : a = 0) (hb : b = 0) (h1 : FC cd pl s) (h2 : FV cd pl t) : RS q T len m wh ck tot win dn R p0 tt (a, s) (b, t) := Or.inr ⟨ha, hb, cd, pl, h1, h2⟩
set_option maxHeartbeats 2000000 in
theorem L_steps {n q len m ck tot win pos dn sc dc tt : Nat} {T wh R lcl : Nat → Nat} {s t : Mm} {x : Int32} (e : x = N tt) (hn : 600000 < n) (hC : SC q T len m wh ck tot win pos dn R s) (hM : SM T m wh ck tot win pos dn R t) (hS : SgC 21 lcl 19 s t) (hsc : gS t 4079 = N sc) (hdc : gS t 4080 = N dc) (htt : sc + dc = tt) (ht : tt ≤ 320) : Ok (F_Unpacker_takeLengths n 12 x s) (fun a => Ok (F_Md_readSteps n 63 t) (fun b => RS q T len m wh ck tot win dn R pos tt a b)) := by
  subst e
  have hT := hC.1.1.2.1.2.2.1
  unfold F_Unpacker_takeLengths F_Md_readSteps
  refine Ok.sw ?_
  refine s_let (fun x9 hx9 => ?_)
  rw [hsc, hdc, N_add, htt] at hx9
  subst hx9
  refine Ok.sw ?_
  refine ok_l2 (fun mm a1 s1 a2 t1 => ∃ (had turn p1 : Nat) (ls : Nat → Nat), mm = tt - had ∧ a1 = (N had, N turn) ∧ a2 = N had ∧ turn ≤ had ∧ had ≤ tt ∧ pos ≤ p1 ∧ SC q T len m wh ck tot win p1 dn R s1 ∧ SM T m wh ck tot win p1 dn R t1 ∧ SgC 21 lcl 19 s1 t1 ∧ ∀ k, k < had → ls k ≤ 15 ∧ gB s1 33 k = N (ls k) ∧ gB t1 80 k = N (ls k)) ?_ n n tt _ _ _ _ (by omega) (by omega) ⟨0, 0, pos, fun _ => 0, rfl, rfl, rfl, by omega, by omega, by omega, hC, hM, hS, fun k hk => by omega⟩
  clear hC hM hS hsc hdc htt
  rintro mm k1 k2 a1 s a2 t ⟨had, turn, p1, ls, rfl, rfl, rfl, htn, hht, hpp, hC, hM, hS, hl⟩ ih
  have hp1 := hC.pm
  by_cases hend : tt = had
  · subst hend
    refine s_ji ?_
    by_cases htt : turn = tt
    · subst htt
      refine s_pos (Int32.le_refl _) (s_z (Or.inr rfl) (Ok.some ?_))
      exact s_pos (Int32.le_refl _) (s_z (Or.inr rfl) (Ok.some (Or.inl ⟨rfl, rfl, p1, ls, hpp, hC, hM, hl⟩)))
    · refine s_neg (by rw [N_le (by omega) (by omega)]; omega) ?_
      refine s_pos (Int32.le_refl _) (s_z (Or.inr rfl) (Ok.some ?_))
      exact s_pos (Int32.le_refl _) (s_z (Or.inr rfl) (Ok.some (Or.inl ⟨rfl, rfl, p1, ls, hpp, hC, hM, hl⟩)))
  · refine s_ji ?_
    refine s_neg (by rw [N_le (by omega) (by omega)]; omega) ?_
    refine s_neg (by rw [N_le (by omega) (by omega)]; omega) ?_
    refine s_R hC.1.1.1.1.1.Unp_packed ?_
    refine s_let (fun x9 hx9 => ?_)
    rw [hC.1.2.1] at hx9
    subst hx9
    refine s_R hC.1.1.1.1.1.Unp_packed ?_
    refine s_R hC.1.1.1.1.1.Unp_lengthCodes ?_
    refine Ok.sw ?_
    refine s_neg (by rw [N_le (by omega) (by omega)]; omega) ?_
    refine s_c (M_plc (i := p1) hM.1.2.1 hM.1.1 (by omega)) ?_
    refine Ok.sw ?_
    refine Ok.c22 (L_code (ls := lcl) (base := 0) (cnt := 19) rfl rfl (by omega) (Or.inr (Or.inr (Or.inl rfl))) hC.1 hS.1 (by omega) hM.1 (by omega) hS.2.1 hS.2.2.2.2 hS.2.2.2.1) ?_
    rintro ⟨a, s2⟩ ⟨b, t2⟩ ⟨hor, f2, gf2⟩
    dsimp only at hor f2 gf2 ⊢
    rcases hor with ⟨i, v, hi, hv, rfl, rfl, gfd, hU2, hV2⟩ | ⟨rfl, rfl, cd, pl, q1, q2⟩
    · have h3 := hC.fr f2 hU2 (by decide) (by decide) (by decide)
      have g3 := hM.fr gf2 hV2 (by decide) (by decide)
      have hS3 := hS.fr (Or.inr (Or.inr (Or.inl rfl))) f2 gf2 (by decide) (by decide) (by decide)
      have hl3 : ∀ k, k < had → ls k ≤ 15 ∧ gB s2 33 k = N (ls k) ∧ gB t2 80 k = N (ls k) := fun k hk => ⟨(hl k hk).1, by rw [f2.2.2.B (by decide)]; exact (hl k hk).2.1, by rw [gf2.2.B (by decide)]; exact (hl k hk).2.2⟩
      clear hC hM hS f2 gf2 hU2 hV2 hl
      have hp3 := h3.pm
      have hb7 := mb_le v
      refine s_neg (N_m1' (by omega)) ?_
      refine s_R h3.1.1.1.1.1.Unp_packed ?_
      refine s_j (fun k14 hk14 => ?_)
      refine s_4 hv ?_
      subst hk14
      dsimp only
      refine Ok.sw ?_
      refine s_neg (by decide) ?_
      refine s_let (fun x9 hx9 => ?_)
      rw [gfd] at hx9
      subst hx9
      refine s_j (fun k14 hk14 => ?_)
      refine s_4 hv ?_
      subst hk14
      dsimp only
      by_cases hmb : p1 + i + mb v ≤ 8 * m
      · refine s_c (M_h1 (k := mb v) rfl g3.1 (by omega) hmb) ?_
        refine s_neg (by decide) ?_
        refine s_j (fun k15 hk15 => ?_)
        refine s_6 (by omega) hv g3 hT hmb (fun t4 g4 gf4 => ?_)
        subst hk15
        dsimp only
        refine Ok.sw ?_
        refine (SC_n1 (k := mb v) rfl (by omega) h3 (by omega) hmb).c2 ?_
        rintro r s4 ⟨e4, h4, f4⟩
        dsimp only at e4 h4 f4 ⊢
        subst e4
        refine s_neg (nb_m1 (by omega)) ?_
        refine s_j (fun k19 hk19 => ?_)
        refine s_5 hv ?_
        subst hk19
        dsimp only
        have hmo := nb'_lt (T := T) (wh := wh) (p := p1 + i) (mb v)
        have hmo2 : (2 : Nat) ^ mb v ≤ 2 ^ 7 := Nat.pow_le_pow_right (by decide) hb7
        obtain ⟨ma, hma⟩ : ∃ ma, ma = mn v (nb' T wh (p1 + i) (mb v)) := ⟨_, rfl⟩
        rw [← hma]
        have hmab : 1 ≤ ma ∧ ma < 200 := by rw [hma]; unfold mn; (repeat' split) <;> omega
        have hS4 := hS3.fr (Or.inr (Or.inr (Or.inl rfl))) f4 gf4 (by decide) (by decide) (by decide)
        have hl4 : ∀ k, k < had → ls k ≤ 15 ∧ gB s4 33 k = N (ls k) ∧ gB t4 80 k = N (ls k) := fun k hk => ⟨(hl3 k hk).1, by rw [f4.2.2.B (by decide)]; exact (hl3 k hk).2.1, by rw [gf4.2.B (by decide)]; exact (hl3 k hk).2.2⟩
        clear h3 g3 hS3 hl3 f4 gf4 hma hmo hmo2
        have hpp4 : pos ≤ p1 + i + mb v := by omega
        generalize p1 + i + mb v = p4 at h4 g4 hpp4 hmb
        rw [show (16 : Int32) = N 16 from rfl, show (0 : Int32) = N 0 from rfl]
        by_cases bad : tt - had < ma ∨ (v = 16 ∧ had = 0)
        · -- refused
          have hr : Ok (F_Fault_refuse n 5 24 (N (plc m wh ck p1)) s4) (fun r => r.1 = 0 ∧ FC 24 (plc m wh ck p1) r.2) := C_ref (c := 24) rfl rfl
          have hf : Ok (F_Md_flaw n 63 24 (N (plc m wh ck p1)) t4) (fun r => r.1 = 0 ∧ FV 24 (plc m wh ck p1) r.2) := M_flaw (c := 24) rfl rfl
          obtain ⟨⟨a5, s5⟩, er, e5, h5⟩ := hr
          obtain ⟨⟨b5, t5⟩, ef, e6, h6⟩ := hf
          dsimp only at e5 h5 e6 h6
          subst e5 e6
          have clsX : ∀ (y : Unit) , Ok (Option.bind (gR s4 (64 * 12 + 1)) fun o25 =>
Option.bind (gR s4 (64 * 12 + 0)) fun o26 =>
kf_c2 (F_PackedBits_placeOf n o26 (N p1) s4) fun x27 σ28 =>
kf_c2 (F_Fault_refuse n o25 24 x27 σ28) fun x29 σ30 =>
kf_z x29 (some (x29, σ30))) (fun z => z = (0, s5)) := fun _ => by
            refine s_R h4.1.1.1.1.1.Unp_fault ?_
            refine s_R h4.1.1.1.1.1.Unp_packed ?_
            refine s_c (C_plc (i := p1) rfl h4.1.1 (by omega)) ?_
            refine s_c er ?_
            exact s_z (Or.inl rfl) (Ok.some rfl)
          have refX : Ok (kf_c2 (F_Md_flaw n 63 24 (N (plc m wh ck p1)) t4) fun x21 σ22 =>
kf_z x21 (some (x21, σ22))) (fun z => z = (0, t5)) := s_c ef (s_z (Or.inl rfl) (Ok.some rfl))
          have RB : RS q T len m wh ck tot win dn R pos tt (0, s5) (0, t5) := RS.no rfl rfl h5 h6
          refine s_ji ?_
          have refAll : ∀ REF : Option (Int32 × Mm), Ok REF (fun z => z = (0, t5)) → Ok REF (fun y => RS q T len m wh ck tot win dn R pos tt (0, s5) y) := fun REF h => h.mono (fun z hz => by rw [hz]; exact RB)
          have fin : ∀ CLS : Option (Int32 × Mm), ∀ REF : Option (Int32 × Mm), Ok CLS (fun z => z = (0, s5)) → Ok REF (fun z => z = (0, t5)) → Ok CLS (fun x => Ok REF (fun y => RS q T len m wh ck tot win dn R pos tt x y)) := fun CLS REF h1 h2 => h1.mono (fun z hz => by rw [hz]; exact refAll REF h2)
          refine fin _ _ ?_ ?_
          · by_cases b1 : tt - had < ma
            · exact s_pos (by rw [N_sub (by omega), N_lt (by omega) (by omega)]; exact b1) (clsX ())
            · have b2 : v = 16 ∧ had = 0 := by omega
              refine s_neg (by rw [N_sub (by omega), N_lt (by omega) (by omega)]; exact b1) ?_
              refine s_ji ?_
              refine s_pos (by rw [b2.1]) ?_
              exact s_pos (by rw [b2.2]) (clsX ())
          · refine s_ji ?_
            refine s_ji ?_
            by_cases b2 : v = 16 ∧ had = 0
            · refine s_pos (by rw [b2.1]) ?_
              exact s_pos (by rw [b2.2]) refX
            · have tl : Ok (if N had + N ma ≤ N tt then kf_z 0 (some (0, t5)) else (kf_c2 (F_Md_flaw n 63 24 (N (plc m wh ck p1)) t4) fun x21 σ22 =>
kf_z x21 (some (x21, σ22)))) (fun z => z = (0, t5)) := s_neg (by rw [N_add, N_le (by omega) (by omega)]; omega) refX
              by_cases b3 : v = 16
              · refine s_pos (by rw [b3]) ?_
                refine s_neg (N_ne (by omega) (by omega) (by omega)) ?_
                exact s_neg (by rw [N_add, N_le (by omega) (by omega)]; omega) refX
              · refine s_neg (N_ne (by omega) (by omega) b3) ?_
                exact s_neg (by rw [N_add, N_le (by omega) (by omega)]; omega) refX
        · have b1 : had + ma ≤ tt := by omega
          have b2 : ¬ (v = 16 ∧ had = 0) := by omega
          obtain ⟨lv, hlv⟩ : ∃ lv, lv = if v < 16 then v else if v = 16 then ls (had - 1) else 0 := ⟨_, rfl⟩
          have hlvb : lv ≤ 15 := by
            rw [hlv]
            split
            · omega
            · split
              · exact (hl4 (had - 1) (by omega)).1
              · omega
          refine s_ji ?_
          refine s_neg (by rw [N_sub (by omega), N_lt (by omega) (by omega)]; omega) ?_
          refine s_j (fun k31 hk31 => ?_)
          have clsStep : ∀ QQ : Int32 × Mm → Prop, Ok (k31 () s4) QQ → Ok (if N v = N 16 then (if N had = N 0 then (Option.bind (gR s4 (64 * 12 + 1)) fun o25 =>
Option.bind (gR s4 (64 * 12 + 0)) fun o26 =>
kf_c2 (F_PackedBits_placeOf n o26 (N p1) s4) fun x27 σ28 =>
kf_c2 (F_Fault_refuse n o25 24 x27 σ28) fun x29 σ30 =>
kf_z x29 (some (x29, σ30))) else k31 () s4) else k31 () s4) QQ := fun QQ h => by
            by_cases b3 : v = 16
            · refine s_pos (by rw [b3]) ?_
              exact s_neg (N_ne (by omega) (by omega) (by omega)) h
            · exact s_neg (N_ne (by omega) (by omega) b3) h
          refine clsStep _ ?_
          subst hk31
          dsimp only
          refine s_j (fun k34 hk34 => ?_)
          have clsVal : ∀ QQ : Int32 × Mm → Prop, Ok (k34 (N lv) s4) QQ → Ok (if N 16 ≤ N v then (if N v = N 16 then (Option.bind (gR s4 (64 * 12 + 9)) fun o45 =>
kf_let (N had - 1 : Int32) fun x46 =>
kf_in x46 (mm_kd o45).2.2 <|
k34 (gB s4 o45 x46.toNatClampNeg) s4) else k34 (N 0) s4) else k34 (N v) s4) QQ := fun QQ h => by
            by_cases b4 : v < 16
            · rw [hlv, if_pos b4] at h
              exact s_neg (by rw [N_le (by omega) (by omega)]; omega) h
            · rw [hlv, if_neg b4] at h
              refine s_pos (by rw [N_le (by omega) (by omega)]; omega) ?_
              by_cases b3 : v = 16
              · rw [if_pos b3] at h
                refine s_pos (by rw [b3]) ?_
                refine s_R h4.1.1.1.1.1.Unp_lengths ?_
                refine s_let (fun x9 hx9 => ?_)
                rw [show (1 : Int32) = N 1 from rfl, N_sub (by omega)] at hx9
                subst hx9
                refine s_in rfl (by rw [kd_33]; omega) (by omega) ?_
                rw [N_nat (by omega), (hl4 (had - 1) (by omega)).2.1]
                exact h
              · rw [if_neg b3] at h
                exact s_neg (N_ne (by omega) (by omega) b3) h
          refine clsVal _ ?_
          subst hk34
          dsimp only
          refine Ok.sw ?_
          refine s_ji ?_
          refine s_j (fun k23 hk23 => ?_)
          have refStep : ∀ QQ : Int32 × Mm → Prop, Ok (k23 () t4) QQ → Ok (if N v = N 16 then (if N had = N 0 then (kf_c2 (F_Md_flaw n 63 24 (N (plc m wh ck p1)) t4) fun x21 σ22 =>
kf_z x21 (some (x21, σ22))) else k23 () t4) else k23 () t4) QQ := fun QQ h => by
            by_cases b3 : v = 16
            · refine s_pos (by rw [b3]) ?_
              exact s_neg (N_ne (by omega) (by omega) (by omega)) h
            · exact s_neg (N_ne (by omega) (by omega) b3) h
          refine refStep _ ?_
          subst hk23
          dsimp only
          refine s_pos (by rw [N_add, N_le (by omega) (by omega)]; omega) ?_
          refine s_j (fun k26 hk26 => ?_)
          have refVal : ∀ QQ : Int32 × Mm → Prop, Ok (k26 (N lv) t4) QQ → Ok (if N 16 ≤ N v then (if N v = N 16 then (Option.bind (gR t4 (64 * 63 + 46)) fun o36 =>
kf_let (N had - 1 : Int32) fun x37 =>
kf_in x37 (mm_kd o36).2.2 <|
k26 (gB t4 o36 x37.toNatClampNeg) t4) else k26 (N 0) t4) else k26 (N v) t4) QQ := fun QQ h => by
            by_cases b4 : v < 16
            · rw [hlv, if_pos b4] at h
              exact s_neg (by rw [N_le (by omega) (by omega)]; omega) h
            · rw [hlv, if_neg b4] at h
              refine s_pos (by rw [N_le (by omega) (by omega)]; omega) ?_
              by_cases b3 : v = 16
              · rw [if_pos b3] at h
                refine s_pos (by rw [b3]) ?_
                refine s_R g4.1.1.1.2.steps ?_
                refine s_let (fun x9 hx9 => ?_)
                rw [show (1 : Int32) = N 1 from rfl, N_sub (by omega)] at hx9
                subst hx9
                refine s_in rfl (by rw [kd_80]; omega) (by omega) ?_
                rw [N_nat (by omega), (hl4 (had - 1) (by omega)).2.2]
                exact h
              · rw [if_neg b3] at h
                exact s_neg (N_ne (by omega) (by omega) b3) h
          refine refVal _ ?_
          subst hk26
          dsimp only
          refine Ok.sw ?_
          clear clsStep clsVal refStep refVal hlv
          refine ok_for2 0 ma (fun j x s' y t' => x = (N (had + j), N j) ∧ y = N j ∧ SC q T len m wh ck tot win p4 dn R s' ∧ SM T m wh ck tot win p4 dn R t' ∧ SgC 21 lcl 19 s' t' ∧ ∀ k, k < had + j → (if had ≤ k then lv else ls k) ≤ 15 ∧ gB s' 33 k = N (if had ≤ k then lv else ls k) ∧ gB t' 80 k = N (if had ≤ k then lv else ls k)) ?_ (by omega) (by omega) (by omega) ⟨rfl, rfl, h4, g4, hS4, fun k hk => by rw [if_neg (by omega)]; exact hl4 k (by omega)⟩
          clear h4 g4 hS4 hl4
          rintro j k3 k4 x s5 y t5 - hj ⟨rfl, rfl, h5, g5, hS5, hl5⟩ ih2
          by_cases hje : ma = j
          · subst hje
            refine s_pos (Int32.le_refl _) ?_
            refine s_let (fun x9 hx9 => ?_)
            rw [N_one, N_add] at hx9
            subst hx9
            refine Ok.sw ?_
            refine s_pos (Int32.le_refl _) ?_
            refine s_let (fun x9 hx9 => ?_)
            rw [N_add] at hx9
            subst hx9
            refine Ok.sw ?_
            exact ih (tt - (had + ma)) _ _ _ _ (by omega) ⟨had + ma, turn + 1, p4, _, rfl, rfl, rfl, by omega, by omega, by omega, h5, g5, hS5, hl5⟩
          · refine s_neg (by rw [N_le (by omega) (by omega)]; omega) ?_
            refine s_R h5.1.1.1.1.1.Unp_lengths ?_
            refine s_in rfl (by rw [kd_33]; omega) (by omega) ?_
            refine s_let (fun s6 e6 => ?_)
            dsimp only at e6
            rw [N_nat (by omega)] at e6
            refine s_let (fun x9 hx9 => ?_)
            dsimp only at hx9
            rw [N_one, N_add] at hx9
            subst hx9
            refine s_let (fun x9 hx9 => ?_)
            dsimp only at hx9
            rw [N_one, N_add] at hx9
            subst hx9
            have f6 : FI [] [33] q s5 s6 := by rw [e6]; exact (FI.rfl h5.1.1.1).wB (by decide) _ _
            refine Ok.sw ?_
            refine s_neg (by rw [N_le (by omega) (by omega)]; omega) ?_
            refine s_R g5.1.1.1.2.steps ?_
            rw [N_add]
            refine s_in rfl (by rw [kd_80]; omega) (by omega) ?_
            refine s_let (fun t6 d6 => ?_)
            rw [N_nat (by omega)] at d6
            refine s_let (fun x9 hx9 => ?_)
            rw [N_one, N_add] at hx9
            subst hx9
            have gf6 : FM [] [80] t5 t6 := by rw [d6]; exact (FM.rfl g5.1.1.1).wB (by decide) _ _
            refine Ok.sw ?_
            refine ih2 (by omega) _ _ _ _ ⟨rfl, rfl, h5.fr f6 (h5.1.fr f6 (by decide) (by decide)) (by decide) (by decide) (by decide), g5.fr gf6 (g5.1.fr gf6 (by decide) (by decide)) (by decide) (by decide), ?_, ?_⟩
            · obtain ⟨z1, z2, z3, z4, z5⟩ := hS5
              exact ⟨z1.frI f6 (by decide) (by decide) (by decide) (by decide), z2, z3, z4, fun k hk => by rw [gf6.2.B (by decide)]; exact z5 k hk⟩
            · intro k hk
              by_cases hkj : k = had + j
              · subst hkj
                rw [if_pos (by omega)]
                refine ⟨hlvb, ?_, ?_⟩
                · rw [e6, gB_eq rfl]; exact upd_eq rfl
                · rw [d6, gB_eq rfl]; exact upd_eq rfl
              · have := hl5 k (by omega)
                refine ⟨this.1, ?_, ?_⟩
                · rw [e6, gB_eq rfl, upd_ne hkj]; exact this.2.1
                · rw [d6, gB_eq rfl, upd_ne hkj]; exact this.2.2
      · refine (M_h0 (k := mb v) rfl g3.1 (by omega) hmb).c2 ?_
        rintro r t4 ⟨e4, g4⟩
        dsimp only at e4 g4 ⊢
        subst e4
        refine s_pos rfl (s_z (Or.inl rfl) (Ok.some ?_))
        refine (C_n0 (k := mb v) rfl (by omega) h3.1 (by omega) hmb).c2 ?_
        rintro r s4 ⟨e4, h4⟩
        dsimp only at e4 h4 ⊢
        subst e4
        exact s_pos rfl (s_z (Or.inl rfl) (Ok.some (RS.no rfl rfl h4 g4)))
    · refine s_pos rfl (s_z (Or.inl rfl) (Ok.some ?_))
      exact s_pos rfl (s_z (Or.inl rfl) (Ok.some (RS.no rfl rfl q1 q2)))
