/-! THE CODES OF A BLOCK OF KIND 2: THE CLASS'S LAST STEP, AND BOTH SIDES -/


def ClT3 (n : Nat) (x6 x12 : Int32) (σ19 : Mm) : Option (Int32 × Mm) :=
Option.bind (gR σ19 (64 * 12 + 7)) fun o20 =>
Option.bind (gR σ19 (64 * 12 + 9)) fun o21 =>
Option.bind (F_Codes_assign n o20 o21 0 x6 σ19) fun σ22 =>
Option.bind (gR σ22 (64 * 12 + 8)) fun o23 =>
Option.bind (gR σ22 (64 * 12 + 9)) fun o24 =>
Option.bind (F_Codes_assign n o23 o24 x6 x12 σ22) fun σ25 =>
Option.bind (gR σ25 (64 * 12 + 7)) fun o26 =>
kf_c2 (F_Codes_isFull n o26 σ25) fun x27 σ28 =>
kf_j (α := Int32) (fun x30 σ31 =>
kf_j (α := Int32) (fun x33 σ34 =>
kf_z x33 (some (x33, σ34))) fun k32 =>
kf_j (α := Unit) (fun x36 σ37 =>
k32 1 σ37) fun k35 =>
if x30 = 0 then (
Option.bind (gR σ31 (64 * 12 + 1)) fun o38 =>
Option.bind (gR σ31 (64 * 12 + 0)) fun o39 =>
Option.bind (gR σ31 (64 * 12 + 0)) fun o40 =>
kf_c2 (F_PackedBits_placeOf n o39 (gS σ31 (64 * o40 + 5)) σ31) fun x41 σ42 =>
kf_c2 (F_Fault_refuse n o38 24 x41 σ42) fun x43 σ44 =>
if x43 = 0 then (
k32 0 σ44) else (
k35 () σ44)) else (
k35 () σ31)) fun k29 =>
kf_j (α := Unit) (fun x46 σ47 =>
k29 0 σ47) fun k45 =>
if x27 = 0 then (
k45 () σ28) else (
Option.bind (gR σ28 (64 * 12 + 9)) fun o48 =>
kf_in 256 (mm_kd o48).2.2 <|
if (gB σ28 o48 (256 : Int32).toNatClampNeg) ≤ 0 then (
k45 () σ28) else (
Option.bind (gR σ28 (64 * 12 + 8)) fun o49 =>
kf_c2 (F_Codes_isFull n o49 σ28) fun x50 σ51 =>
kf_j (α := Unit) (fun x53 σ54 =>
k29 1 σ54) fun k52 =>
if x50 = 0 then (
Option.bind (gR σ51 (64 * 12 + 8)) fun o55 =>
kf_c2 (F_Codes_isOneBit n o55 σ51) fun x56 σ57 =>
if x56 = 0 then (
Option.bind (gR σ57 (64 * 12 + 8)) fun o58 =>
if (gS σ57 (64 * o58 + 3)) = 0 then (
k52 () σ57) else (
k45 () σ57)) else (
k52 () σ57)) else (
k52 () σ51)))
theorem isK25 : isK 25 := Or.inr (Or.inr (Or.inr (Or.inl rfl)))
theorem isK29 : isK 29 := Or.inr (Or.inr (Or.inr (Or.inr rfl)))
theorem isK21 : isK 21 := Or.inr (Or.inr (Or.inl rfl))
set_option maxHeartbeats 1000000 in
theorem C_T3 {n q len m ck tot win pos dn sc dc : Nat} {T wh R ls : Nat → Nat} {s : Mm} {x y : Int32} (ex : x = N sc) (ey : y = N dc) (hn : 600000 < n) (hC : SC q T len m wh ck tot win pos dn R s) (h1 : 257 ≤ sc) (h2 : sc ≤ 286) (h3 : dc ≤ 30) (hls : ∀ k, k < sc + dc → ls k ≤ 15) (hL : ∀ k, k < sc + dc → gB s 33 k = N (ls k)) : Ok (ClT3 n x y s) (fun r => (goodC ls sc dc ∧ r.1 = 1 ∧ SC q T len m wh ck tot win pos dn R r.2 ∧ CodC 25 ls sc r.2 ∧ CodC 29 (fun k => ls (sc + k)) dc r.2) ∨ (¬ goodC ls sc dc ∧ r.1 = 0 ∧ FC 24 (plc m wh ck pos) r.2)) := by
  subst ex ey
  have hp0 := hC.1.1.1.1.1
  unfold ClT3
  refine s_R hp0.Unp_signs ?_
  refine s_R hp0.Unp_lengths ?_
  refine ((Codes_assign_ok (ls := ls) (from' := 0) (m := sc) rfl rfl (by omega) (hp0.cod_ofLength isK25) (hp0.cod_meanings isK25) (hp0.cod_nextOfLength isK25) isK25 (by omega) (by omega) (fun k hk => hls k (by omega)) (fun k hk => by rw [Nat.zero_add]; exact hL k (by omega))).and (fr_Codes_assign_25_33 hC.1.1.1)).bind ?_
  rintro s1 ⟨⟨hc25, -⟩, f1⟩
  have hC1 := hC.fr f1 (hC.1.fr f1 (by decide) (by decide)) (by decide) (by decide) (by decide)
  have hp1 := hC1.1.1.1.1.1
  refine s_R hp1.Unp_distances ?_
  refine s_R hp1.Unp_lengths ?_
  refine ((Codes_assign_ok (ls := fun k => ls (sc + k)) (from' := sc) (m := dc) rfl rfl (by omega) (hp1.cod_ofLength isK29) (hp1.cod_meanings isK29) (hp1.cod_nextOfLength isK29) isK29 (by omega) (by omega) (fun k hk => hls (sc + k) (by omega)) (fun k hk => by rw [f1.2.2.B (by decide)]; exact hL (sc + k) (by omega))).and (fr_Codes_assign_29_33 hC1.1.1.1)).bind ?_
  rintro s2 ⟨⟨hc29, -⟩, f2⟩
  have hC2 := hC1.fr f2 (hC1.1.fr f2 (by decide) (by decide)) (by decide) (by decide) (by decide)
  have hd25 := hc25.frI f2 (by decide) (by decide) (by decide) (by decide)
  have hp2 := hC2.1.1.1.1.1
  have hpm := hC2.pm
  have h256 := hls 256 (by omega)
  have hL2 : gB s2 33 256 = N (ls 256) := by rw [f2.2.2.B (by decide), f1.2.2.B (by decide)]; exact hL 256 (by omega)
  clear hC hC1 hc25 f1 f2 hL hls hp0 hp1
  unfold goodC
  generalize (fun k => ls (sc + k)) = dls at hc29 ⊢
  have YES : ∀ {P : Prop}, P → Ok (kf_z (1 : Int32) (some ((1 : Int32), s2))) (fun r : Int32 × Mm => (P ∧ r.1 = 1 ∧ SC q T len m wh ck tot win pos dn R r.2 ∧ CodC 25 ls sc r.2 ∧ CodC 29 dls dc r.2) ∨ (¬ P ∧ r.1 = 0 ∧ FC 24 (plc m wh ck pos) r.2)) := fun hP => s_z (Or.inr rfl) (Ok.some (Or.inl ⟨hP, rfl, hC2, hd25, hc29⟩))
  have NO : ∀ {P : Prop}, ¬ P → Ok (Option.bind (gR s2 (64 * 12 + 1)) fun o38 =>
Option.bind (gR s2 (64 * 12 + 0)) fun o39 =>
Option.bind (gR s2 (64 * 12 + 0)) fun o40 =>
kf_c2 (F_PackedBits_placeOf n o39 (gS s2 (64 * o40 + 5)) s2) fun x41 σ42 =>
kf_c2 (F_Fault_refuse n o38 24 x41 σ42) fun x43 σ44 =>
if x43 = 0 then (
kf_z (0 : Int32) (some ((0 : Int32), σ44))) else (
kf_z (1 : Int32) (some ((1 : Int32), σ44)))) (fun r : Int32 × Mm => (P ∧ r.1 = 1 ∧ SC q T len m wh ck tot win pos dn R r.2 ∧ CodC 25 ls sc r.2 ∧ CodC 29 dls dc r.2) ∨ (¬ P ∧ r.1 = 0 ∧ FC 24 (plc m wh ck pos) r.2)) := fun hP => by
    refine s_R hp2.Unp_fault ?_
    refine s_R hp2.Unp_packed ?_
    refine s_R hp2.Unp_packed ?_
    refine s_c (C_plc (i := pos) hC2.1.2.1 hC2.1.1 (by omega)) ?_
    refine (C_ref (c := 24) rfl rfl).c2 ?_
    rintro r t2 ⟨e2, g2⟩
    dsimp only at e2 g2 ⊢
    refine s_pos e2 (s_z (Or.inl rfl) (Ok.some (Or.inr ⟨hP, rfl, g2⟩)))
  refine s_R hp2.Unp_signs ?_
  refine s_c (isFull_ok (by omega) isK25 hp2 hd25 (by omega)) ?_
  refine s_ji ?_
  refine s_ji ?_
  by_cases cS : Full ls sc
  · rw [if_pos (show Gk ls sc 15 = 32768 from cS)]
    refine s_neg (by decide) ?_
    refine s_R hp2.Unp_lengths ?_
    refine s_in (m := 256) rfl (by rw [kd_33]; omega) (by omega) ?_
    rw [show (256 : Int32).toNatClampNeg = 256 from rfl, hL2]
    by_cases c256 : 0 < ls 256
    · refine s_neg (by rw [show (0 : Int32) = N 0 from rfl, N_le (by omega) (by omega)]; omega) ?_
      refine s_R hp2.Unp_distances ?_
      refine s_c (isFull_ok (by omega) isK29 hp2 hc29 (by omega)) ?_
      refine s_ji ?_
      by_cases cD : Full dls dc
      · rw [if_pos (show Gk dls dc 15 = 32768 from cD)]
        refine s_neg (by decide) ?_
        refine s_ji ?_
        refine s_ji ?_
        exact s_neg (by decide) (YES ⟨cS, c256, Or.inl cD⟩)
      · rw [if_neg (show ¬ Gk dls dc 15 = 32768 from cD)]
        refine s_pos rfl ?_
        refine s_R hp2.Unp_distances ?_
        refine s_c (oneBit_ok isK29 hp2 hc29 (by omega)) ?_
        by_cases c1 : offL dls dc 16 = 1 ∧ cn dls 1 dc = 1
        · rw [if_pos c1]
          refine s_neg (by decide) ?_
          refine s_ji ?_
          refine s_ji ?_
          exact s_neg (by decide) (YES ⟨cS, c256, Or.inr (Or.inl c1)⟩)
        · rw [if_neg c1]
          refine s_pos rfl ?_
          refine s_R hp2.Unp_distances ?_
          have ho := off_sum (ls := dls) (n := dc) 16
          rw [hc29.2.2.2.1]
          by_cases c0 : offL dls dc 16 = 0
          · refine s_pos (by rw [c0]; rfl) ?_
            refine s_ji ?_
            refine s_ji ?_
            exact s_neg (by decide) (YES ⟨cS, c256, Or.inr (Or.inr c0)⟩)
          · refine s_neg (N_ne (b := 0) (by omega) (by omega) c0) ?_
            refine s_ji ?_
            refine s_ji ?_
            exact s_pos rfl (NO (fun z => by
              rcases z.2.2 with z | z | z
              · exact cD z
              · exact c1 z
              · exact c0 z))
    · refine s_pos (by rw [show (0 : Int32) = N 0 from rfl, N_le (by omega) (by omega)]; omega) ?_
      refine s_ji ?_
      refine s_ji ?_
      exact s_pos rfl (NO (fun z => c256 z.2.1))
  · rw [if_neg (show ¬ Gk ls sc 15 = 32768 from cS)]
    refine s_pos rfl ?_
    refine s_ji ?_
    refine s_ji ?_
    exact s_pos rfl (NO (fun z => cS z.1))
