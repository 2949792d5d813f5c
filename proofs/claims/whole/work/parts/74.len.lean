/-! THE CODES OF A BLOCK OF KIND 2, BOTH SIDES -/


theorem Ok.inn {X Y Z : Type} {f : Option X} {g : Option Z} {r : X → Option Y} {Q : Y → Z → Prop} (h : Ok f (fun x => Ok g (fun b => Ok (r x) (fun a => Q a b)))) : Ok f (fun x => Ok (r x) (fun a => Ok g (fun b => Q a b))) := h.mono (fun _ hx => hx.sw)
theorem N_i257 : Int32.ofInt 257 = N 257 := by decide
theorem lf0 {G : Nat} (h : G ≤ 10485440) : N 32768 - N G = 0 ↔ G = 32768 := by rw [show (0 : Int32) = N 0 from rfl, N_subeq (by omega) (by omega)]; omega
theorem lf1 {G : Nat} (h : G ≤ 10485440) : N 32768 - N G = 16384 ↔ G = 16384 := by rw [show (16384 : Int32) = N 16384 from rfl, N_subeq (by omega) (by omega)]; omega
theorem lf2 {G : Nat} (h : G ≤ 10485440) : N 32768 - N G = 32768 ↔ G = 0 := by rw [show (32768 : Int32) = N 32768 from rfl, N_subeq (by omega) (by omega)]; omega
def RL (q : Nat) (T : Nat → Nat) (len m : Nat) (wh : Nat → Nat) (ck tot win dn : Nat) (R : Nat → Nat) (p0 : Nat) (a b : Int32 × Mm) : Prop := (a.1 = 1 ∧ b.1 = 1 ∧ ∃ (pos' sc dc : Nat) (sls dls : Nat → Nat), p0 ≤ pos' ∧ SC q T len m wh ck tot win pos' dn R a.2 ∧ SM T m wh ck tot win pos' dn R b.2 ∧ SgC 25 sls sc a.2 b.2 ∧ DsC 29 dls sc dc a.2 b.2) ∨ (a.1 = 0 ∧ b.1 = 0 ∧ ∃ cd pl, FC cd pl a.2 ∧ FV cd pl b.2)
theorem RL.no {q len m ck tot win dn p0 cd pl : Nat} {T wh R : Nat → Nat} {a b : Int32} {s t : Mm} (ha : a = 0) (hb : b = 0) (h1 : FC cd pl s) (h2 : FV cd pl t) : RL q T len m wh ck tot win dn R p0 (a, s) (b, t) := Or.inr ⟨ha, hb, cd, pl, h1, h2⟩
/-- the last step of the reference: lengths taken over, then looked at -/
def MdT3 (n : Nat) (σ28 : Mm) : Option (Int32 × Mm) := kf_l (α := Int32) n (fun k29 x30 σ31 =>
if ((gS σ31 (64 * 63 + 47)) + (gS σ31 (64 * 63 + 48))) ≤ x30 then (
kf_c2 (F_Md_many n 63 (gS σ31 (64 * 63 + 47)) (gS σ31 (64 * 63 + 48)) 1 σ31) fun x32 σ33 =>
kf_j (α := Int32) (fun x35 σ36 =>
kf_c2 (F_Md_left n 63 0 (gS σ36 (64 * 63 + 47)) σ36) fun x37 σ38 =>
kf_j (α := Int32) (fun x40 σ41 =>
kf_j (α := Int32) (fun x43 σ44 =>
kf_z x43 (some (x43, σ44))) fun k42 =>
kf_j (α := Unit) (fun x46 σ47 =>
k42 1 σ47) fun k45 =>
if x40 = 0 then (
kf_c2 (F_Md_placeOf n 63 (gJ σ41 (64 * 63 + 43)) σ41) fun x48 σ49 =>
kf_c2 (F_Md_flaw n 63 24 x48 σ49) fun x50 σ51 =>
if x50 = 0 then (
k42 0 σ51) else (
k45 () σ51)) else (
k45 () σ41)) fun k39 =>
kf_j (α := Unit) (fun x53 σ54 =>
k39 0 σ54) fun k52 =>
if x37 = 0 then (
Option.bind (gR σ38 (64 * 63 + 45)) fun o55 =>
kf_in 256 (mm_kd o55).2.2 <|
if (gB σ38 o55 (256 : Int32).toNatClampNeg) ≤ 0 then (
k52 () σ38) else (
kf_c2 (F_Md_left n 63 (gS σ38 (64 * 63 + 47)) (gS σ38 (64 * 63 + 48)) σ38) fun x56 σ57 =>
kf_j (α := Unit) (fun x59 σ60 =>
k39 1 σ60) fun k58 =>
if x56 = 0 then (
k58 () σ57) else (
if x35 = 0 then (
kf_c2 (F_Md_left n 63 (gS σ57 (64 * 63 + 47)) (gS σ57 (64 * 63 + 48)) σ57) fun x61 σ62 =>
if x61 = 32768 then (
k58 () σ62) else (
k52 () σ62)) else (
k58 () σ57)))) else (
k52 () σ38)) fun k34 =>
kf_j (α := Unit) (fun x64 σ65 =>
k34 0 σ65) fun k63 =>
if x32 = 1 then (
kf_c2 (F_Md_left n 63 (gS σ33 (64 * 63 + 47)) (gS σ33 (64 * 63 + 48)) σ33) fun x66 σ67 =>
if x66 = 16384 then (
k34 1 σ67) else (
k63 () σ67)) else (
k63 () σ33)) else (
Option.bind (gR σ31 (64 * 63 + 45)) fun o68 =>
Option.bind (gR σ31 (64 * 63 + 46)) fun o69 =>
kf_in x30 (mm_kd o69).2.2 <|
kf_in x30 (mm_kd o68).2.2 <| kf_let (pB σ31 o68 x30.toNatClampNeg (gB σ31 o69 x30.toNatClampNeg)) fun σ70 =>
kf_let (x30 + Int32.ofInt 1) fun x71 =>
k29 x71 σ70)) 0 σ28
def goodC (ls : Nat → Nat) (sc dc : Nat) : Prop := Full ls sc ∧ 0 < ls 256 ∧ (Full (fun k => ls (sc + k)) dc ∨ (offL (fun k => ls (sc + k)) dc 16 = 1 ∧ cn (fun k => ls (sc + k)) 1 dc = 1) ∨ offL (fun k => ls (sc + k)) dc 16 = 0)
set_option maxHeartbeats 1000000 in
theorem M_T3 {n m ck tot win pos dn sc dc : Nat} {T wh R ls : Nat → Nat} {t : Mm} (hn : 600000 < n) (hM : SM T m wh ck tot win pos dn R t) (hsc : gS t 4079 = N sc) (hdc : gS t 4080 = N dc) (h1 : 257 ≤ sc) (h2 : sc ≤ 286) (h3 : dc ≤ 30) (hls : ∀ k, k < sc + dc → ls k ≤ 15) (hL : ∀ k, k < sc + dc → gB t 80 k = N (ls k)) : Ok (MdT3 n t) (fun r => (goodC ls sc dc ∧ r.1 = 1 ∧ SM T m wh ck tot win pos dn R r.2 ∧ gS r.2 4079 = N sc ∧ gS r.2 4080 = N dc ∧ ∀ k, k < sc + dc → gB r.2 79 k = N (ls k)) ∨ (¬ goodC ls sc dc ∧ r.1 = 0 ∧ FV 24 (plc m wh ck pos) r.2)) := by
  unfold MdT3
  refine ok_for 0 (sc + dc) (fun i x s' => x = N i ∧ (∀ k, k < i → gB s' 79 k = N (ls k)) ∧ FM [] [79] t s') ?_ (by omega) (by omega) ⟨rfl, fun k hk => by omega, FM.rfl hM.1.1.1⟩
  rintro i k9 x t1 - hi ⟨rfl, hL1, f1⟩ ih
  have g1 := hM.fr f1 (hM.1.fr f1 (by decide) (by decide)) (by decide) (by decide)
  have hsc1 : gS t1 4079 = N sc := (f1.2.S (by decide)).trans hsc
  have hdc1 : gS t1 4080 = N dc := (f1.2.S (by decide)).trans hdc
  have hp := g1.1.1.1.2
  have hpm := g1.1.2.2.1
  have hmm := g1.1.1.2.1
  rw [show gS t1 (64 * 63 + 47) = N sc from hsc1, show gS t1 (64 * 63 + 48) = N dc from hdc1, N_add]
  by_cases hie : sc + dc = i
  · subst hie
    have hLs : ∀ k, k < sc → gB t1 79 (0 + k) = N (ls k) := fun k hk => by rw [Nat.zero_add]; exact hL1 k (by omega)
    have hLd : ∀ k, k < dc → gB t1 79 (sc + k) = N ((fun k => ls (sc + k)) k) := fun k hk => hL1 (sc + k) (by omega)
    have hlsd : ∀ k, k < dc → (fun k => ls (sc + k)) k ≤ 15 := fun k hk => hls (sc + k) (by omega)
    unfold goodC
    generalize (fun k => ls (sc + k)) = dls at hLd hlsd ⊢
    have lefS := left_ok (n := n) (ls := ls) (base := 0) (cnt := sc) rfl rfl (by omega) hp (by omega) (fun k hk => hls k (by omega)) hLs
    have lefD := left_ok (n := n) (ls := dls) (base := sc) (cnt := dc) rfl rfl (by omega) hp (by omega) hlsd hLd
    have GS := Gk_15 (ls := ls) (cnt := sc) (by omega)
    have GD := Gk_15 (ls := dls) (cnt := dc) (by omega)
    have h256 := hls 256 (by omega)
    have cn1 := cn_le (ls := dls) (L := 1) (k := dc)
    refine s_pos (Int32.le_refl _) ?_
    refine s_c (many_ok (ls := dls) (base := sc) (cnt := dc) (l := 1) rfl rfl rfl (by omega) hp (by omega) (by omega) hlsd hLd) ?_
    have YES : ∀ {P : Prop}, P → Ok (kf_z (1 : Int32) (some ((1 : Int32), t1))) (fun r : Int32 × Mm => (P ∧ r.1 = 1 ∧ SM T m wh ck tot win pos dn R r.2 ∧ gS r.2 4079 = N sc ∧ gS r.2 4080 = N dc ∧ ∀ k, k < sc + dc → gB r.2 79 k = N (ls k)) ∨ (¬ P ∧ r.1 = 0 ∧ FV 24 (plc m wh ck pos) r.2)) := fun hP => s_z (Or.inr rfl) (Ok.some (Or.inl ⟨hP, rfl, g1, hsc1, hdc1, hL1⟩))
    have NO : ∀ {P : Prop} {k42 : Int32 → Mm → Option (Int32 × Mm)}, ¬ P → Ok (kf_c2 (F_Md_placeOf n 63 (gJ t1 (64 * 63 + 43)) t1) fun x48 σ49 =>
kf_c2 (F_Md_flaw n 63 24 x48 σ49) fun x50 σ51 =>
if x50 = 0 then (
kf_z (0 : Int32) (some ((0 : Int32), σ51))) else (
kf_z (1 : Int32) (some ((1 : Int32), σ51)))) (fun r : Int32 × Mm => (P ∧ r.1 = 1 ∧ SM T m wh ck tot win pos dn R r.2 ∧ gS r.2 4079 = N sc ∧ gS r.2 4080 = N dc ∧ ∀ k, k < sc + dc → gB r.2 79 k = N (ls k)) ∨ (¬ P ∧ r.1 = 0 ∧ FV 24 (plc m wh ck pos) r.2)) := fun hP => by
      refine s_c (M_plc (i := pos) g1.1.2.1 g1.1.1 (by omega)) ?_
      refine (M_flaw (c := 24) rfl rfl).c2 ?_
      rintro r t2 ⟨e2, g2⟩
      dsimp only at e2 g2 ⊢
      refine s_pos e2 (s_z (Or.inl rfl) (Ok.some (Or.inr ⟨hP, rfl, g2⟩)))
    refine s_j (fun k34 hk34 => ?_)
    obtain ⟨o1, ho1⟩ : ∃ o1 : Nat, o1 = if cn dls 1 dc = 1 ∧ Gk dls dc 15 = 16384 then 1 else 0 := ⟨_, rfl⟩
    have st : ∀ QQ : Int32 × Mm → Prop, Ok (k34 (N o1) t1) QQ → Ok (kf_j (α := Unit) (fun x64 σ65 =>
k34 0 σ65) fun k63 =>
if N (cn dls 1 dc) = 1 then (
kf_c2 (F_Md_left n 63 (gS t1 (64 * 63 + 47)) (gS t1 (64 * 63 + 48)) t1) fun x66 σ67 =>
if x66 = 16384 then (
k34 1 σ67) else (
k63 () σ67)) else (
k63 () t1)) QQ := fun QQ h => by
      rw [show gS t1 (64 * 63 + 47) = N sc from hsc1, show gS t1 (64 * 63 + 48) = N dc from hdc1]
      refine s_ji ?_
      by_cases c1 : cn dls 1 dc = 1
      · refine s_pos (by rw [c1]; rfl) ?_
        refine s_c lefD ?_
        by_cases c2 : Gk dls dc 15 = 16384
        · rw [if_pos ⟨c1, c2⟩] at ho1
          subst ho1
          exact s_pos ((lf1 GD).mpr c2) h
        · rw [if_neg (fun z => c2 z.2)] at ho1
          subst ho1
          exact s_neg (fun z => c2 ((lf1 GD).mp z)) h
      · rw [if_neg (fun z => c1 z.1)] at ho1
        subst ho1
        exact s_neg (N_ne (b := 1) (by omega) (by omega) c1) h
    refine st _ ?_
    subst hk34
    dsimp only
    rw [show gS t1 (64 * 63 + 47) = N sc from hsc1]
    refine s_c lefS ?_
    refine s_ji ?_
    refine s_ji ?_
    by_cases cS : Full ls sc
    · refine s_pos ((lf0 GS).mpr cS) ?_
      refine s_R hp.lengths ?_
      refine s_in (m := 256) rfl (by rw [kd_79]; omega) (by omega) ?_
      rw [show (256 : Int32).toNatClampNeg = 256 from rfl, hL1 256 (by omega)]
      by_cases c256 : 0 < ls 256
      · refine s_neg (by rw [show (0 : Int32) = N 0 from rfl, N_le (by omega) (by omega)]; omega) ?_
        rw [show gS t1 (64 * 63 + 47) = N sc from hsc1, show gS t1 (64 * 63 + 48) = N dc from hdc1]
        refine s_c lefD ?_
        refine s_ji ?_
        by_cases cD : Full dls dc
        · refine s_pos ((lf0 GD).mpr cD) ?_
          refine s_ji ?_
          refine s_ji ?_
          exact s_neg (by decide) (YES ⟨cS, c256, Or.inl cD⟩)
        · refine s_neg (fun z => cD ((lf0 GD).mp z)) ?_
          by_cases c1 : cn dls 1 dc = 1 ∧ Gk dls dc 15 = 16384
          · rw [if_pos c1] at ho1
            subst ho1
            refine s_neg (by decide) ?_
            refine s_ji ?_
            refine s_ji ?_
            exact s_neg (by decide) (YES ⟨cS, c256, Or.inr (Or.inl (one_iff.mp c1))⟩)
          · rw [if_neg c1] at ho1
            subst ho1
            refine s_pos rfl ?_
            rw [show gS t1 (64 * 63 + 47) = N sc from hsc1, show gS t1 (64 * 63 + 48) = N dc from hdc1]
            refine s_c lefD ?_
            by_cases c0 : Gk dls dc 15 = 0
            · refine s_pos ((lf2 GD).mpr c0) ?_
              refine s_ji ?_
              refine s_ji ?_
              exact s_neg (by decide) (YES ⟨cS, c256, Or.inr (Or.inr (zero_iff.mp c0))⟩)
            · refine s_neg (fun z => c0 ((lf2 GD).mp z)) ?_
              refine s_ji ?_
              refine s_ji ?_
              exact s_pos rfl (NO (k42 := fun _ _ => none) (fun z => by
                rcases z.2.2 with z | z | z
                · exact cD z
                · exact c1 (one_iff.mpr z)
                · exact c0 (zero_iff.mpr z)))
      · refine s_pos (by rw [show (0 : Int32) = N 0 from rfl, N_le (by omega) (by omega)]; omega) ?_
        refine s_ji ?_
        refine s_ji ?_
        exact s_pos rfl (NO (k42 := fun _ _ => none) (fun z => c256 z.2.1))
    · refine s_neg (fun z => cS ((lf0 GS).mp z)) ?_
      refine s_ji ?_
      refine s_ji ?_
      exact s_pos rfl (NO (k42 := fun _ _ => none) (fun z => cS z.1))
  · refine s_neg (by rw [N_le (by omega) (by omega)]; omega) ?_
    refine s_R hp.lengths ?_
    refine s_R hp.steps ?_
    refine s_in rfl (by rw [kd_80]; omega) (by omega) ?_
    refine s_in rfl (by rw [kd_79]; omega) (by omega) ?_
    refine s_let (fun t2 e2 => ?_)
    rw [N_nat (by omega), f1.2.B (by decide), hL i (by omega)] at e2
    refine s_let (fun x9 hx9 => ?_)
    rw [N_one, N_add] at hx9
    subst hx9
    refine ih (by omega) _ _ ⟨rfl, fun k hk => ?_, by rw [e2]; exact f1.wB (by decide) _ _⟩
    rw [e2, gB_eq rfl]
    by_cases hki : k = i
    · rw [upd_eq hki, hki]
    · rw [upd_ne hki]; exact hL1 k (by omega)
