/-! BLOCKS, BOTH SIDES -/



theorem Full_fix : Full fixL 288 := by unfold Full; decide +kernel
theorem Full_5 : Full (fun _ => 5) 32 := by unfold Full; decide +kernel
theorem fixL_le (k : Nat) : fixL k ≤ 15 := by unfold fixL; (repeat' split) <;> omega
def fixA (k : Nat) : Nat := if k < 288 then fixL k else 5
set_option maxHeartbeats 1000000 in
theorem L_rb1 {n q len m ck tot win pos dn : Nat} {T wh R : Nat → Nat} {s t : Mm} (hn : 600000 < n) (hp0 : 1 ≤ pos) (hC : SC q T len m wh ck tot win pos dn R s) (hM : SM T m wh ck tot win pos dn R t) : Ok (F_Unpacker_takeSigns n 12 13 17 s) (fun x => Ok (F_Md_readBlock n 63 1 t) (fun y => RR q T len m wh ck tot win pos x y)) := by
  unfold F_Md_readBlock
  refine Ok.sw ?_
  refine s_ji ?_
  refine s_neg (by decide) ?_
  refine s_let (fun t1 e1 => ?_)
  have g1 : SM T m wh ck tot win pos dn R t1 := by rw [e1]; exact hM.wS (Or.inl rfl)
  have a1 : gS t1 4079 = N 288 := by rw [e1]; exact gS_eq rfl
  refine s_let (fun t2 e2 => ?_)
  have g2 : SM T m wh ck tot win pos dn R t2 := by rw [e2]; exact g1.wS (Or.inr rfl)
  have a2 : gS t2 4079 = N 288 := by rw [e2, gS_ne (by decide)]; exact a1
  have b2 : gS t2 4080 = N 32 := by rw [e2]; exact gS_eq rfl
  clear e1 e2 g1 a1
  refine ok_for 0 320 (fun i x t' => x = N i ∧ (∀ k, k < i → gB t' 79 k = N (fixA k)) ∧ FM [] [79] t2 t') ?_ (by omega) (by omega) ⟨rfl, fun k hk => by omega, FM.rfl g2.1.1.1⟩
  rintro i k9 x t3 - hi ⟨rfl, z3, f3⟩ ih
  by_cases hie : i = 320
  · subst hie
    refine s_pos (show N 320 ≤ N 320 from Int32.le_refl _) ?_
    have g3 := g2.fr f3 (g2.1.fr f3 (by decide) (by decide)) (by decide) (by decide)
    have a3 : gS t3 4079 = N 288 := (f3.2.S (by decide)).trans a2
    have b3 : gS t3 4080 = N 32 := (f3.2.S (by decide)).trans b2
    refine Ok.sw ?_
    refine L_signs (c1 := 13) (c2 := 17) (sls := fixL) (dls := fun _ => 5) (scnt := 288) (dcnt := 32) hn (Or.inl rfl) (Or.inr (Or.inl rfl)) (fun a0 a1 s h => fr_Unpacker_takeCopy_12_17 h) hp0 hC g3 ⟨hC.2.2.2.2.2.2.2.1, fun k _ => fixL_le k, by omega, Or.inl Full_fix, fun k hk => ?_⟩ ⟨hC.2.2.2.2.2.2.2.2.1, fun k _ => (by decide : 5 ≤ 15), by omega, by omega, Or.inl Full_5, a3, b3, fun k hk => ?_⟩
    · rw [Nat.zero_add, z3 k (by omega)]
      unfold fixA
      rw [if_pos hk]
    · rw [z3 (288 + k) (by omega)]
      unfold fixA
      rw [if_neg (by omega)]
  · refine s_neg (by rw [show (320 : Int32) = N 320 from rfl, N_le (by omega) (by omega)]; omega) ?_
    refine s_R f3.1.2.lengths ?_
    refine s_j (fun k31 hk31 => ?_)
    have st : ∀ QQ : Int32 × Mm → Prop, Ok (k31 (N i, N (fixA i)) t3) QQ → Ok (if (144 : Int32) ≤ N i then (
if (256 : Int32) ≤ N i then (
if (280 : Int32) ≤ N i then (
if (288 : Int32) ≤ N i then (
k31 (N i, 5) t3) else (
k31 (N i, 8) t3)) else (
k31 (N i, 7) t3)) else (
k31 (N i, 9) t3)) else (
k31 (N i, 8) t3)) QQ := fun QQ h => by
      rw [show (144 : Int32) = N 144 from rfl, show (256 : Int32) = N 256 from rfl, show (280 : Int32) = N 280 from rfl, show (288 : Int32) = N 288 from rfl]
      unfold fixA fixL at h
      by_cases c1 : i < 144
      · rw [if_pos (by omega), if_pos c1] at h
        exact s_neg (by rw [N_le (by omega) (by omega)]; omega) h
      refine s_pos (by rw [N_le (by omega) (by omega)]; omega) ?_
      by_cases c2 : i < 256
      · rw [if_pos (by omega), if_neg c1, if_pos c2] at h
        exact s_neg (by rw [N_le (by omega) (by omega)]; omega) h
      refine s_pos (by rw [N_le (by omega) (by omega)]; omega) ?_
      by_cases c3 : i < 280
      · rw [if_pos (by omega), if_neg c1, if_neg c2, if_pos c3] at h
        exact s_neg (by rw [N_le (by omega) (by omega)]; omega) h
      refine s_pos (by rw [N_le (by omega) (by omega)]; omega) ?_
      by_cases c4 : i < 288
      · rw [if_pos (by omega), if_neg c1, if_neg c2, if_neg c3] at h
        exact s_neg (by rw [N_le (by omega) (by omega)]; omega) h
      rw [if_neg (by omega)] at h
      exact s_pos (by rw [N_le (by omega) (by omega)]; omega) h
    refine st _ ?_
    subst hk31
    dsimp only
    refine s_in rfl (by rw [kd_79]; omega) (by omega) ?_
    rw [N_nat (by omega)]
    refine s_let (fun t4 e4 => ?_)
    refine s_let (fun x9 hx9 => ?_)
    rw [N_one, N_add] at hx9
    subst hx9
    refine ih (by omega) _ _ ⟨rfl, fun k hk => ?_, by rw [e4]; exact f3.wB (by decide) _ _⟩
    rw [e4, gB_eq rfl]
    by_cases hki : k = i
    · rw [upd_eq hki, hki]
    · rw [upd_ne hki]; exact z3 k (by omega)
/-- a block of kind 2 -/
theorem L_rb0 {n q len m ck tot win pos dn : Nat} {T wh R : Nat → Nat} {s t : Mm} {X Y : Type} {fk : Int32 → Mm → Option X} {gk : Int32 → Mm → Option Y} {Q : X → Y → Prop} (hn : 600000 < n) (hp0 : 1 ≤ pos) (hC : SC q T len m wh ck tot win pos dn R s) (hM : SM T m wh ck tot win pos dn R t)
  (hgood : ∀ p' dn' R' s' t', pos ≤ p' → SC q T len m wh ck tot win p' dn' R' s' → SM T m wh ck tot win p' dn' R' t' → Ok (fk 1 s') (fun a => Ok (gk 1 t') (fun b => Q a b)))
  (hbad : ∀ cd pl s' t', FC cd pl s' → FV cd pl t' → Ok (fk 0 s') (fun a => Ok (gk 0 t') (fun b => Q a b))) :
  Ok (kf_c2 (F_Unpacker_takeCodes n 12 s) fun x15 σ16 =>
kf_j (α := Int32) (fun x18 σ19 =>
fk x18 σ19) fun k17 =>
kf_j (α := Unit) (fun x21 σ22 =>
k17 0 σ22) fun k20 =>
if x15 = 0 then (
k20 () σ16) else (
Option.bind (gR σ16 (64 * 12 + 7)) fun o23 =>
Option.bind (gR σ16 (64 * 12 + 8)) fun o24 =>
kf_c2 (F_Unpacker_takeSigns n 12 o23 o24 σ16) fun x25 σ26 =>
if x25 = 0 then (
k20 () σ26) else (
k17 1 σ26))) (fun a => Ok (kf_c2 (F_Md_readBlock n 63 0 t) gk) (fun b => Q a b)) := by
  have hr : Ok (F_Unpacker_takeCodes n 12 s) (fun x => Ok (F_Md_readBlock n 63 0 t) (fun y => (x.1 = 0 ∧ y.1 = 0 ∧ ∃ cd pl, FC cd pl x.2 ∧ FV cd pl y.2) ∨ (x.1 = 1 ∧ (∃ p', PtX x.2 ∧ pos ≤ p' ∧ Ok (F_Unpacker_takeSigns n 12 25 29 x.2) (fun z => RR q T len m wh ck tot win p' z y))))) := by
    unfold F_Md_readBlock
    refine Ok.sw ?_
    refine s_ji ?_
    refine s_pos rfl ?_
    refine Ok.sw ?_
    obtain ⟨x, ex, y, ey, hxy⟩ := L_lens hn hC hM
    refine ⟨x, ex, ?_⟩
    refine s_c (r := y.1) (σ := y.2) ey ?_
    rcases hxy with ⟨h1, h2, p', sc, dc, sls, dls, h3, h4, h5, h6, h7⟩ | ⟨h1, h2, cd, pl, h3, h4⟩
    · rw [h2]
      refine s_neg (by decide) ?_
      obtain ⟨z, ez, w, ew, hzw⟩ := L_signs (c1 := 25) (c2 := 29) (sls := sls) (dls := dls) hn isK25 isK29 (fun a0 a1 s h => fr_Unpacker_takeCopy_12_29 h) (by omega) h4 h5 h6 h7
      exact ⟨w, ew, Or.inr ⟨h1, p', h4.1.1.1.1, h3, z, ez, hzw⟩⟩
    · rw [h2]
      exact s_pos rfl (s_z (Or.inl rfl) (Ok.some (Or.inl ⟨h1, rfl, cd, pl, h3, h4⟩)))
  refine Ok.c22 hr ?_
  rintro ⟨a, s1⟩ ⟨b, t1⟩ h
  dsimp only at h ⊢
  rcases h with ⟨h1, h2, cd, pl, h3, h4⟩ | ⟨h1, p', hX, hp, h3⟩
  · subst h1 h2
    refine s_ji ?_
    refine s_ji ?_
    refine s_pos rfl ?_
    exact hbad cd pl _ _ h3 h4
  · subst h1
    refine s_ji ?_
    refine s_ji ?_
    refine s_neg (by decide) ?_
    refine s_R hX.1.Unp_signs ?_
    refine s_R hX.1.Unp_distances ?_
    refine h3.c2 ?_
    rintro r s2 h4
    rcases h4 with ⟨h5, h6, p2, dn2, R2, h7, h8, h9⟩ | ⟨h5, h6, cd, pl, h7, h8⟩
    · dsimp only at h5 h6 h8 h9
      subst h5 h6
      refine s_neg (by decide) ?_
      exact hgood p2 dn2 R2 _ _ (by omega) h8 h9
    · dsimp only at h5 h6 h7 h8
      subst h5 h6
      refine s_pos rfl ?_
      exact hbad cd pl _ _ h7 h8
