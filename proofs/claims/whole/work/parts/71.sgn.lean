/-! SIGNS, BOTH SIDES -/



theorem Ok.and2 {X Y : Type} {f : Option X} {g : Option Y} {R : X → Y → Prop} {P1 : X → Prop} {P2 : Y → Prop} (h : Ok f (fun x => Ok g (fun y => R x y))) (h1 : Pr f P1) (h2 : Pr g P2) : Ok f (fun x => Ok g (fun y => R x y ∧ P1 x ∧ P2 y)) := by
  obtain ⟨x, e, y, e2, h⟩ := h
  exact ⟨x, e, y, e2, h, h1 x e, h2 y e2⟩
def MdLoop (n : Nat) (σ : Mm) : Option (Int32 × Mm) :=
kf_l (α := Unit) n (fun k4 x5 σ6 =>
kf_let (gJ σ6 (64 * 63 + 43) : Int64) fun x7 =>
kf_c2 (F_Md_isCode n 63 0 (gS σ6 (64 * 63 + 47)) σ6) fun x8 σ9 =>
if x8 = 0 then (
kf_z 0 (some (0, σ9))) else (
kf_let (gS σ9 (64 * 63 + 49) : Int32) fun x10 =>
if x10 = 256 then (
kf_z 1 (some (1, σ9))) else (
kf_j (α := Unit) (fun x12 σ13 =>
k4 () σ13) fun k11 =>
kf_j (α := Unit) (fun x15 σ16 =>
kf_z 0 (some (0, σ16))) fun k14 =>
if x10 ≤ 256 then (
kf_c2 (F_Md_placeOf n 63 x7 σ9) fun x17 σ18 =>
kf_c2 (F_Md_single n 63 x10 x17 σ18) fun x19 σ20 =>
if x19 = 0 then (
k14 () σ20) else (
k11 () σ20)) else (
kf_c2 (F_Md_placeOf n 63 x7 σ9) fun x21 σ22 =>
kf_c2 (F_Md_copy n 63 x10 x21 σ22) fun x23 σ24 =>
if x23 = 0 then (
k14 () σ24) else (
k11 () σ24))))) () σ
theorem M_sng1 {n m ck tot win pos dn v : Nat} {T wh R : Nat → Nat} {x y : Int32} {t : Mm} (e : x = N v) (h : SM T m wh ck tot win pos dn R t) (hv : v < 256) (hd : dn < tot) (ht : tot ≤ 32888) : Ok (F_Md_single n 63 x y t) (fun r => r.1 = 1 ∧ SM T m wh ck tot win pos (dn + 1) (updN R dn v) r.2) := by
  subst e
  unfold F_Md_single
  refine s_neg (by rw [h.2.2.1, h.2.1]; exact N_ne (by omega) (by omega) (by omega)) ?_
  refine s_R h.1.1.1.2.raw ?_
  refine s_in h.2.2.1 (show dn < 40000 by omega) (by omega) ?_
  refine s_let (fun t3 e3 => ?_)
  rw [h.2.2.1, N_nat (by omega)] at e3
  refine s_let (fun t4 e4 => ?_)
  have e5 : gS t3 4063 = N dn := by rw [e3]; exact h.2.2.1
  rw [e5, show (1 : Int32) = N 1 from rfl, N_add, e3] at e4
  refine s_z (Or.inr rfl) (Ok.some ⟨rfl, ?_⟩)
  rw [e4]
  exact h.put (i8_N hv)
theorem M_sng0 {n m ck tot win pos dn pl : Nat} {T wh R : Nat → Nat} {x y : Int32} {t : Mm} (e : y = N pl) (h : SM T m wh ck tot win pos dn R t) (hd : dn = tot) : Ok (F_Md_single n 63 x y t) (fun r => r.1 = 0 ∧ FV 26 pl r.2) := by
  subst e hd
  unfold F_Md_single
  refine s_pos (by rw [h.2.2.1, h.2.1]) ?_
  refine (M_flaw (c := 26) rfl rfl).c2 ?_
  rintro r t2 ⟨e2, g2⟩
  dsimp only at e2 g2 ⊢
  subst e2
  exact s_z (Or.inl rfl) (Ok.some ⟨rfl, g2⟩)
/-- the codes of signs as both sides have them -/
def SgC (c : Nat) (sls : Nat → Nat) (scnt : Nat) (s t : Mm) : Prop := CodC c sls scnt s ∧ (∀ k, k < scnt → sls k ≤ 15) ∧ scnt ≤ 288 ∧ CdOk sls scnt ∧ ∀ k, k < scnt → gB t 79 (0 + k) = N (sls k)
theorem SgC.fr {q c scnt : Nat} {sls : Nat → Nat} {lp la lp' la' : List Nat} {s s' t t' : Mm} (hc : isK c) (h : SgC c sls scnt s t) (f : FI lp la q s s') (g : FM lp' la' t t') (hp : ∀ k ∈ lp, k < 800) (ha : ∀ a ∈ la, a < 10) (ha2 : ¬ 79 ∈ la') : SgC c sls scnt s' t' := by
  obtain ⟨h1, h2, h3, h4, h5⟩ := h
  have hcb := isK_le hc
  refine ⟨h1.frI f (fun z => ?_) (fun z => ?_) (fun z => ?_) (fun z => ?_), h2, h3, h4, fun k hk => ?_⟩
  · have := hp _ z; omega
  · have := hp _ z; omega
  · have := ha _ z; omega
  · have := ha _ z; omega
  · rw [g.2.B ha2]; exact h5 k hk
set_option maxHeartbeats 1000000 in
theorem L_signs {n q len m ck tot win pos dn c1 c2 scnt dcnt : Nat} {T wh R sls dls : Nat → Nat} {s t : Mm} (hn : 600000 < n) (hc1 : isK c1) (hc2 : isK c2) (hfr : ∀ a0 a1 s, PtX s ∧ gR s 707 = some q → Pr (F_Unpacker_takeCopy n 12 a0 a1 c2 s) (fun r => FI [320, 321, 581, 779] [7] q s r.2)) (hp0 : 1 ≤ pos) (hC : SC q T len m wh ck tot win pos dn R s) (hM : SM T m wh ck tot win pos dn R t) (hS : SgC c1 sls scnt s t) (hD : DsC c2 dls scnt dcnt s t) : Ok (F_Unpacker_takeSigns n 12 c1 c2 s) (fun x => Ok (MdLoop n t) (fun y => RR q T len m wh ck tot win pos x y)) := by
  unfold F_Unpacker_takeSigns MdLoop
  have hpm := hC.pm
  refine ok_l2 (fun mm a1 s1 a2 s2 => ∃ k pos' dn R, mm = 8 * m - pos' ∧ a1 = N k ∧ k + pos ≤ pos' ∧ SC q T len m wh ck tot win pos' dn R s1 ∧ SM T m wh ck tot win pos' dn R s2 ∧ SgC c1 sls scnt s1 s2 ∧ DsC c2 dls scnt dcnt s1 s2) ?_ n n (8 * m - pos) _ _ _ _ (by omega) (by omega) ⟨0, pos, dn, R, rfl, rfl, by omega, hC, hM, hS, hD⟩
  clear hC hM hS hD
  rintro mm k1 k2 a1 s a2 t ⟨k, p1, dn, R, rfl, rfl, hk, hC, hM, hS, hD⟩ ih
  have hp1 := hC.pm
  refine s_neg (by rw [show (524288 : Int32) = N 524288 from rfl, N_le (by omega) (by omega)]; omega) ?_
  refine s_R hC.1.1.1.1.1.Unp_packed ?_
  refine s_let (fun x9 hx9 => ?_)
  rw [hC.1.2.1] at hx9
  subst hx9
  refine s_R hC.1.1.1.1.1.Unp_packed ?_
  refine Ok.sw ?_
  refine s_let (fun x9 hx9 => ?_)
  rw [hM.1.2.1] at hx9
  subst hx9
  refine Ok.sw ?_
  refine Ok.c22 (L_code (ls := sls) (base := 0) rfl hD.2.2.2.2.2.1 (by omega) hc1 hC.1 hS.1 hS.2.2.1 hM.1 (by have := hS.2.2.1; omega) hS.2.1 hS.2.2.2.2 hS.2.2.2.1) ?_
  rintro ⟨a, s2⟩ ⟨b, t2⟩ ⟨hor, f2, gf2⟩
  dsimp only at hor f2 gf2 ⊢
  rcases hor with ⟨i, v, hi, hv, rfl, rfl, gfd, hU2, hV2⟩ | ⟨rfl, rfl, cd, pl, q1, q2⟩
  · have h3 := hC.fr f2 hU2 (by decide) (by decide) (by decide)
    have g3 := hM.fr gf2 hV2 (by decide) (by decide)
    have hS3 := hS.fr hc1 f2 gf2 (by decide) (by decide) (by decide)
    have hD3 := hD.fr hc2 f2 gf2 (by decide) (by decide) (by decide) (by decide)
    have hs288 := hS.2.2.1
    have hp3 := h3.pm
    have h5 := h3.2.2.2.2.1
    clear hC hM hS hD f2 gf2 hU2 hV2
    refine s_neg (N_m1' (by omega)) ?_
    refine Ok.sw ?_
    refine s_neg (by decide) ?_
    refine s_let (fun x9 hx9 => ?_)
    rw [gfd] at hx9
    subst hx9
    rw [show (256 : Int32) = N 256 from rfl]
    by_cases h256 : v = 256
    · refine s_pos (by rw [h256]) (s_z (Or.inr rfl) (Ok.some ?_))
      refine s_pos (by rw [h256]) (s_z (Or.inr rfl) (Ok.some ?_))
      exact RR.yes (by omega) h3 g3
    · refine s_neg (N_ne (by omega) (by omega) h256) ?_
      refine s_ji ?_
      refine s_ji ?_
      by_cases hlt : v < 256
      · refine s_pos (by rw [N_le (by omega) (by omega)]; omega) ?_
        refine s_c (M_plc (i := p1) rfl g3.1.1 (by omega)) ?_
        by_cases hd : dn < tot
        · refine ((M_sng1 rfl g3 hlt hd h5.2.1).and (fr_Md_single_63 g3.1.1.1)).c2 ?_
          rintro r t4 ⟨⟨e4, g4⟩, gf4⟩
          dsimp only at e4 g4 gf4 ⊢
          subst e4
          refine s_neg (by decide) ?_
          refine Ok.sw ?_
          refine s_neg (N_ne (by omega) (by omega) h256) ?_
          refine s_ji ?_
          refine s_neg (by rw [N_le (by omega) (by omega)]; omega) ?_
          refine ((C_put1 rfl h3 hlt hd).and (fr_Unpacker_putByte_12 h3.1.1.1)).c2 ?_
          rintro r s4 ⟨⟨e4, h4⟩, f4⟩
          dsimp only at e4 h4 f4 ⊢
          subst e4
          refine s_neg (by decide) ?_
          refine s_let (fun x9 hx9 => ?_)
          rw [N_one, N_add] at hx9
          subst hx9
          exact ih (8 * m - (p1 + i)) _ _ _ _ (by omega) ⟨k + 1, p1 + i, _, _, rfl, rfl, by omega, h4, g4, hS3.fr hc1 f4 gf4 (by decide) (by decide) (by decide), hD3.fr hc2 f4 gf4 (by decide) (by decide) (by decide) (by decide)⟩
        · refine (M_sng0 rfl g3 (by omega)).c2 ?_
          rintro r t4 ⟨e4, g4⟩
          dsimp only at e4 g4 ⊢
          subst e4
          refine s_pos rfl (s_z (Or.inl rfl) (Ok.some ?_))
          refine s_neg (N_ne (by omega) (by omega) h256) ?_
          refine s_ji ?_
          refine s_neg (by rw [N_le (by omega) (by omega)]; omega) ?_
          refine (C_put0 (at' := p1) rfl h3 (by omega) hd).c2 ?_
          rintro r s4 ⟨e4, h4⟩
          dsimp only at e4 h4 ⊢
          subst e4
          exact s_pos rfl (s_z (Or.inl rfl) (Ok.some (RR.no rfl rfl h4 g4)))
      · refine s_neg (by rw [N_le (by omega) (by omega)]; omega) ?_
        refine s_c (M_plc (i := p1) rfl g3.1.1 (by omega)) ?_
        refine Ok.sw ?_
        refine s_neg (N_ne (by omega) (by omega) h256) ?_
        refine s_ji ?_
        refine s_pos (by rw [N_le (by omega) (by omega)]; omega) ?_
        refine Ok.c22 ((L_copy (k := v - 257) (at' := p1) (by rw [show 257 + (v - 257) = v by omega]) rfl rfl (by omega) hc2 h3 g3 hD3 (by omega) (by omega)).and2 (hfr _ _ _ h3.1.1.1) (fr_Md_copy_63 g3.1.1.1)) ?_
        rintro ⟨a, s4⟩ ⟨b, t4⟩ ⟨hr, f4, gf4⟩
        dsimp only at hr f4 gf4 ⊢
        rcases hr with ⟨rfl, rfl, p4, d4, R4, hp4, h4, g4⟩ | ⟨rfl, rfl, cd, pl, q1, q2⟩
        · dsimp only at h4 g4
          have hpm4 := h4.pm
          refine s_neg (by decide) ?_
          refine s_let (fun x9 hx9 => ?_)
          rw [N_one, N_add] at hx9
          subst hx9
          refine Ok.sw ?_
          refine s_neg (by decide) ?_
          refine Ok.sw ?_
          exact ih (8 * m - p4) _ _ _ _ (by omega) ⟨k + 1, p4, _, _, rfl, rfl, by omega, h4, g4, hS3.fr hc1 f4 gf4 (by decide) (by decide) (by decide), hD3.fr hc2 f4 gf4 (by decide) (by decide) (by decide) (by decide)⟩
        · refine s_pos rfl (s_z (Or.inl rfl) (Ok.some ?_))
          exact s_pos rfl (s_z (Or.inl rfl) (Ok.some (RR.no rfl rfl q1 q2)))
  · refine s_pos rfl (s_z (Or.inl rfl) (Ok.some ?_))
    exact s_pos rfl (s_z (Or.inl rfl) (Ok.some (RR.no rfl rfl q1 q2)))
