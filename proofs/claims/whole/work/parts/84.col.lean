/-! COLOURS OF A FILE -/
theorem mostC {n q kd dp : Nat} {s : Mm} (gk : gS s (64 * q + 2) = N kd) (gd : gS s (64 * q + 3) = N dp) (hk : kdOk kd dp) : F_Picture_mostColours n q s = some (N (if kd = 3 then 2 ^ dp else 256), s) := by
  have h6 := hk.b
  apply Ok.eq
  unfold F_Picture_mostColours
  refine s_ji ?_
  rw [gk, gd]
  by_cases c : kd = 3
  · rw [if_pos c]
    refine s_pos (by rw [c]; rfl) (Ok.some ?_)
    rw [show (1 : Int32) = N 1 from rfl, show (31 : Int32) = N 31 from rfl, N_shl (by omega), Nat.shiftLeft_eq, Nat.one_mul]
  · rw [if_neg c]
    exact s_neg (N_ne (b := 3) (by omega) (by omega) c) (Ok.some rfl)
theorem and_255 {v : Nat} (h : v < 256) : N v &&& 255 = N v := by rw [show (255 : Int32) = N 255 from rfl, N_and, and255, Nat.mod_eq_of_lt h]
theorem addC {n q c r g b : Nat} {x y z : Int32} {s : Mm} (ex : x = N r) (ey : y = N g) (ez : z = N b) (hq : isP q) (hp : PtC s) (gc : gS s (64 * q + 6) = N c) (hc : c < 256) (hr : r < 256) (hg : g < 256) (hb : b < 256) : F_Picture_addColour n q x y z s = some (pS (pB (pB (pB s (q + 2) (3 * c) (N r)) (q + 2) (3 * c + 1) (N g)) (q + 2) (3 * c + 2) (N b)) (64 * q + 6) (N (c + 1))) := by
  subst ex ey ez
  apply Ok.eq
  have kd2 := kdp_2 hq
  have q9 := hp.pic_colours hq
  unfold F_Picture_addColour
  refine s_ji ?_
  rw [gc]
  refine s_neg (by rw [show (256 : Int32) = N 256 from rfl, N_le (by omega) (by omega)]; omega) ?_
  rw [show (3 : Int32) = N 3 from rfl, N_mul, and_255 hr, and_255 hg, and_255 hb]
  refine s_R q9 ?_
  refine s_in rfl (by rw [kd2]; omega) (by omega) ?_
  rw [N_nat (by omega)]
  refine s_let (fun s1 e1 => ?_)
  have c1 : gS s1 (64 * q + 6) = N c := by rw [e1]; exact gc
  refine s_R (by rw [e1]; exact q9) ?_
  rw [c1, N_mul, show (1 : Int32) = N 1 from rfl, N_add]
  refine s_in rfl (by rw [kd2]; omega) (by omega) ?_
  rw [N_nat (by omega)]
  refine s_let (fun s2 e2 => ?_)
  have c2 : gS s2 (64 * q + 6) = N c := by rw [e2]; exact c1
  refine s_R (by rw [e2, e1]; exact q9) ?_
  rw [c2, N_mul, show (2 : Int32) = N 2 from rfl, N_add]
  refine s_in rfl (by rw [kd2]; omega) (by omega) ?_
  rw [N_nat (by omega)]
  refine s_let (fun s3 e3 => ?_)
  have c3 : gS s3 (64 * q + 6) = N c := by rw [e3]; exact c2
  refine s_let (fun s4 e4 => ?_)
  rw [c3, N_add, e3, e2, e1] at e4
  exact Ok.some e4
abbrev PCl (q k : Nat) : Prop := k = 709 ∨ k = 64 * q + 6
abbrev ACl (q a : Nat) : Prop := a = q + 2
theorem PCl_C {q : Nat} (hq : isP q) (k : Nat) (h : PCl q k) : cptr.all (fun z => z.1 != k) = true := by
  unfold PCl at h
  rcases hq with rfl | rfl <;> rcases h with rfl | rfl <;> decide
set_option maxHeartbeats 1000000 in
theorem C_cols {n q len at' ln kd dp : Nat} {T : Nat → Nat} {s : Mm} {x y : Int32} (ex : x = N at') (ey : y = N ln) (hn : 600000 < n) (hq : isP q) (hX : PtX s ∧ gR s 707 = some q) (hT : TapeC T len s) (gk : gS s (64 * q + 2) = N kd) (gd : gS s (64 * q + 3) = N dp) (hk : kdOk kd dp) (gc : gS s (64 * q + 6) = N 0) (hfit : at' + 12 + ln ≤ len) : Ok (F_Pieces_takeColours n 11 x y s) (fun r => ((3 ≤ ln ∧ ln % 3 = 0 ∧ ln / 3 ≤ (if kd = 3 then 2 ^ dp else 256)) ∧ r.1 = 1 ∧ gS r.2 709 = N 1 ∧ gS r.2 (64 * q + 6) = N (ln / 3) ∧ (∀ i, i < ln → gB r.2 (q + 2) i = N (T (at' + 8 + i))) ∧ Fr (PCl q) (ACl q) s r.2) ∨ (¬ (3 ≤ ln ∧ ln % 3 = 0 ∧ ln / 3 ≤ (if kd = 3 then 2 ^ dp else 256)) ∧ r.1 = 0 ∧ FC 8 at' r.2)) := by
  subst ex ey
  have hl := hT.2.1
  have h3 := hT.2.2.1
  have hp := hX.1.1
  have hpw : (if kd = 3 then 2 ^ dp else 256) ≤ 256 := by
    split
    · next c =>
      have hd : dp ≤ 8 := by unfold kdOk at hk; omega
      exact Nat.pow_le_pow_right (n := 2) (j := 8) (by decide) hd
    · exact Nat.le_refl _
  unfold F_Pieces_takeColours
  refine s_ji ?_
  have BAD : ¬ (3 ≤ ln ∧ ln % 3 = 0 ∧ ln / 3 ≤ (if kd = 3 then 2 ^ dp else 256)) → Ok (Option.bind (gR s (64 * 11 + 1)) fun o4 =>
kf_c2 (F_Fault_refuse n o4 8 (N at') s) fun x5 σ6 =>
kf_z x5 (some (x5, σ6))) (fun r => ((3 ≤ ln ∧ ln % 3 = 0 ∧ ln / 3 ≤ (if kd = 3 then 2 ^ dp else 256)) ∧ r.1 = 1 ∧ gS r.2 709 = N 1 ∧ gS r.2 (64 * q + 6) = N (ln / 3) ∧ (∀ i, i < ln → gB r.2 (q + 2) i = N (T (at' + 8 + i))) ∧ Fr (PCl q) (ACl q) s r.2) ∨ (¬ (3 ≤ ln ∧ ln % 3 = 0 ∧ ln / 3 ≤ (if kd = 3 then 2 ^ dp else 256)) ∧ r.1 = 0 ∧ FC 8 at' r.2)) := fun h => by
    refine s_R hp.Pieces_fault ?_
    refine (C_ref (c := 8) rfl rfl).c2 ?_
    rintro r s8 ⟨e8, h8⟩
    dsimp only at e8 h8 ⊢
    subst e8
    exact s_z (Or.inl rfl) (Ok.some (Or.inr ⟨h, rfl, h8⟩))
  have hms := mostC (n := n) gk gd hk
  generalize (if kd = 3 then 2 ^ dp else 256) = mc at hpw BAD hms ⊢
  by_cases c1 : ln < 3
  · exact s_pos (by rw [show (3 : Int32) = N 3 from rfl, N_lt (by omega) (by omega)]; exact c1) (BAD (by omega))
  refine s_neg (by rw [show (3 : Int32) = N 3 from rfl, N_lt (by omega) (by omega)]; exact c1) ?_
  refine s_nz (by decide) ?_
  by_cases c2 : ln % 3 = 0
  · refine s_pos (by rw [show (3 : Int32) = N 3 from rfl, N_div (by omega) (by omega), N_mul, N_sub (by omega), show ln - ln / 3 * 3 = 0 by omega]; rfl) ?_
    refine s_nz (by decide) ?_
    refine s_R hX.2 ?_
    refine s_c hms ?_
    rw [show (3 : Int32) = N 3 from rfl, N_div (by omega) (by omega)]
    by_cases c3 : ln / 3 ≤ mc
    · refine s_pos (by rw [N_le (by omega) (by omega)]; exact c3) ?_
      refine s_let (fun x9 hx9 => ?_)
      rw [show (8 : Int32) = N 8 from rfl, N_add] at hx9
      subst hx9
      rw [show (8 : Int32) = N 8 from rfl, N_add, N_add]
      refine ok_for 0 (ln / 3) (fun j x s' => x = N (at' + 8 + 3 * j) ∧ gS s' (64 * q + 6) = N j ∧ (∀ i, i < 3 * j → gB s' (q + 2) i = N (T (at' + 8 + i))) ∧ Fr (PCl q) (ACl q) s s') ?_ (by omega) (by omega) ⟨rfl, gc, fun i hi => by omega, Fr.rfl⟩
      rintro j k9 x s1 - hj ⟨rfl, z1, z2, f1⟩ ih
      have hp1 := hp.fr' f1 (PCl_C hq)
      by_cases hje : ln / 3 = j
      · refine s_pos (by rw [N_le (by omega) (by omega)]; omega) ?_
        refine s_z (Or.inr rfl) ?_
        refine s_let (fun s2 e2 => ?_)
        refine s_z (Or.inr rfl) (Ok.some (Or.inl ⟨⟨by omega, c2, c3⟩, rfl, ?_, ?_, ?_, ?_⟩))
        · rw [e2]; exact gS_eq rfl
        · rw [e2, gS_ne (by rcases hq with rfl | rfl <;> decide), hje]; exact z1
        · intro i hi
          rw [e2]
          exact z2 i (by omega)
        · rw [e2]; exact Fr.wS f1 (Or.inl rfl) _
      · refine s_neg (by rw [N_le (by omega) (by omega)]; omega) ?_
        have h7 : gR s1 707 = some q := (f1.R (fun z => by unfold PCl at z; rcases hq with rfl | rfl <;> omega)).trans hX.2
        have tb : ∀ i, i < len → gB s1 3 i = N (T i) := fun i hi => by rw [f1.B (fun z => by unfold ACl at z; rcases hq with rfl | rfl <;> omega)]; exact hT.2.2.2 i hi
        refine s_R h7 ?_
        refine s_R hp1.Pieces_tape ?_
        refine s_R hp1.Tape_bytes ?_
        refine s_in rfl (by rw [kd_3]; omega) (by omega) ?_
        refine s_R hp1.Pieces_tape ?_
        refine s_R hp1.Tape_bytes ?_
        refine s_let (fun x9 hx9 => ?_)
        rw [show (1 : Int32) = N 1 from rfl, N_add] at hx9
        subst hx9
        refine s_in rfl (by rw [kd_3]; omega) (by omega) ?_
        refine s_R hp1.Pieces_tape ?_
        refine s_R hp1.Tape_bytes ?_
        refine s_let (fun x9 hx9 => ?_)
        rw [show (2 : Int32) = N 2 from rfl, N_add] at hx9
        subst hx9
        refine s_in rfl (by rw [kd_3]; omega) (by omega) ?_
        rw [N_nat (by omega), N_nat (by omega), N_nat (by omega), tb _ (by omega), tb _ (by omega), tb _ (by omega), addC rfl rfl rfl hq hp1 z1 (by omega) (h3 _) (h3 _) (h3 _)]
        show Ok (kf_let (N (at' + 8 + 3 * j) + Int32.ofInt 3) fun x25 => k9 x25 _) _
        refine s_let (fun x9 hx9 => ?_)
        rw [N_i3, N_add] at hx9
        subst hx9
        refine ih (by omega) _ _ ⟨rfl, gS_eq rfl, fun i hi => ?_, Fr.wS (Fr.wB (Fr.wB (Fr.wB f1 rfl _ _) rfl _ _) rfl _ _) (Or.inr rfl) _⟩
        show gB (pB (pB (pB s1 (q + 2) (3 * j) (N (T (at' + 8 + 3 * j)))) (q + 2) (3 * j + 1) (N (T (at' + 8 + 3 * j + 1)))) (q + 2) (3 * j + 2) (N (T (at' + 8 + 3 * j + 2)))) (q + 2) i = _
        rw [gB_eq rfl, gB_eq rfl, gB_eq rfl]
        by_cases i2 : i = 3 * j + 2
        · rw [upd_eq i2, i2, Nat.add_assoc (at' + 8)]
        rw [upd_ne i2]
        by_cases i1 : i = 3 * j + 1
        · rw [upd_eq i1, i1, Nat.add_assoc (at' + 8)]
        rw [upd_ne i1]
        by_cases i0 : i = 3 * j
        · rw [upd_eq i0, i0]
        rw [upd_ne i0]
        exact z2 i (by omega)
    · exact s_neg (by rw [N_le (by omega) (by omega)]; exact c3) (BAD (by omega))
  · exact s_neg (by rw [show (3 : Int32) = N 3 from rfl, N_div (by omega) (by omega), N_mul, N_sub (by omega)]; exact N_ne (b := 0) (by omega) (by omega) (by omega)) (BAD (by omega))
/-- the reference at pieces that are neither header nor data -/
def MdP (n : Nat) (a0 : Int32) (x1 : Int64) (σ10 : Mm) : Option (Int32 × Mm) :=
kf_c2 (F_Md_isType n 63 a0 80 76 84 69 σ10) fun x11 σ12 =>
kf_j (α := Unit) (fun x14 σ15 =>
kf_c2 (F_Md_isType n 63 a0 73 69 78 68 σ15) fun x16 σ17 =>
kf_j (α := Int32) (fun x19 σ20 =>
kf_z x19 (some (x19, σ20))) fun k18 =>
kf_j (α := Unit) (fun x22 σ23 =>
k18 1 σ23) fun k21 =>
if x16 = 0 then (
k21 () σ17) else (
if x1.toInt32 = 0 then (
k21 () σ17) else (
kf_c2 (F_Md_flaw n 63 8 a0 σ17) fun x24 σ25 =>
if x24 = 0 then (
k18 0 σ25) else (
k21 () σ25)))) fun k13 =>
if x11 = 0 then (
kf_c2 (F_Md_isType n 63 a0 116 82 78 83 σ12) fun x26 σ27 =>
if x26 = 0 then (
k13 () σ27) else (
kf_c2 (F_Md_readThins n 63 a0 x1.toInt32 σ27) fun x28 σ29 =>
kf_z x28 (some (x28, σ29)))) else (
kf_nz 3 <|
kf_j (α := Unit) (fun x31 σ32 =>
kf_c2 (F_Md_flaw n 63 8 a0 σ32) fun x33 σ34 =>
kf_z x33 (some (x33, σ34))) fun k30 =>
if (x1.toInt32 - x1.toInt32 / 3 * 3) = 0 then (
if x1.toInt32 = 0 then (
k30 () σ12) else (
if 768 < x1.toInt32 then (
k30 () σ12) else (
kf_j (α := Unit) (fun x36 σ37 =>
kf_z 1 <| kf_let (pS σ37 (64 * 63 + 40) 1) fun σ38 =>
kf_nz 3 <|
kf_let (pS σ38 (64 * 63 + 23) (x1.toInt32 / 3)) fun σ39 =>
kf_l (α := Int32) n (fun k40 x41 σ42 =>
if x1.toInt32 ≤ x41 then (
k13 () σ42) else (
Option.bind (gR σ42 (64 * 63 + 22)) fun o43 =>
kf_c2 (F_Md_at n 63 ((a0 + 8) + x41) σ42) fun x44 σ45 =>
kf_in x41 (mm_kd o43).2.2 <| kf_let (pB σ45 o43 x41.toNatClampNeg x44) fun σ46 =>
kf_let (x41 + Int32.ofInt 1) fun x47 =>
k40 x47 σ46)) 0 σ39) fun k35 =>
if (gS σ12 (64 * 63 + 18)) = 3 then (
kf_nz 3 <|
if (x1.toInt32 / 3) ≤ ((1 : Int32) <<< ((gS σ12 (64 * 63 + 19)) &&& 31)) then (
k35 () σ12) else (
k30 () σ12)) else (
k35 () σ12)))) else (
k30 () σ12))
theorem M_pre {n len at' pc : Nat} {T : Nat → Nat} {t : Mm} {Q : Int32 × Mm → Prop} (hp : PtM t) (hT : TapeM T len t) (hl : len ≤ 65536) (h3 : ∀ i, T i < 256) (hk : at' + 7 < len) (g7 : gS t 4074 = N pc) (hpc : pc < 3) (c1 : ¬ num T (at' + 4) = 1229472850) (c2 : ¬ num T (at' + 4) = 1229209940) (h : Ok (MdP n (N at') (L (num T at')) (pS t 4074 (N (if pc = 1 then 2 else pc)))) Q) : Ok (F_Md_readPiece n 63 (N at') t) Q := by
  unfold F_Md_readPiece
  refine s_c (M_number rfl hp hT hl h3 (by omega)) ?_
  have tI := M_type (n := n) (T := T) (x := N at') (K := 1229472850) rfl (show (73 : Int32) = N 73 from rfl) (show (72 : Int32) = N 72 from rfl) (show (68 : Int32) = N 68 from rfl) (show (82 : Int32) = N 82 from rfl) (by decide) (by decide) (by decide) (by decide) (by decide) hp hT hl h3 hk
  have tD := M_type (n := n) (T := T) (x := N at') (K := 1229209940) rfl (show (73 : Int32) = N 73 from rfl) (show (68 : Int32) = N 68 from rfl) (show (65 : Int32) = N 65 from rfl) (show (84 : Int32) = N 84 from rfl) (by decide) (by decide) (by decide) (by decide) (by decide) hp hT hl h3 hk
  rw [if_neg c1] at tI
  rw [if_neg c2] at tD
  refine s_c tI ?_
  refine s_pos rfl ?_
  refine s_c tD ?_
  refine s_pos rfl ?_
  refine s_ji ?_
  rw [show gS t (64 * 63 + 42) = N pc from g7]
  by_cases c : pc = 1
  · rw [if_pos c] at h
    refine s_pos (by rw [c]; rfl) ?_
    refine s_let (fun t1 e1 => ?_)
    rw [e1]
    exact h
  · rw [if_neg c] at h
    refine s_neg (N_ne (b := 1) (by omega) (by omega) c) ?_
    refine s_let (fun t1 e1 => ?_)
    rw [e1]
    exact h
theorem tyP {n len at' : Nat} {T : Nat → Nat} {t : Mm} (hp : PtM t) (hT : TapeM T len t) (hl : len ≤ 65536) (h3 : ∀ i, T i < 256) (hk : at' + 7 < len) : F_Md_isType n 63 (N at') 80 76 84 69 t = some (if num T (at' + 4) = 1347179589 then 1 else 0, t) := M_type rfl (show (80 : Int32) = N 80 from rfl) (show (76 : Int32) = N 76 from rfl) (show (84 : Int32) = N 84 from rfl) (show (69 : Int32) = N 69 from rfl) (by decide) (by decide) (by decide) (by decide) (by decide) hp hT hl h3 hk
theorem tyT {n len at' : Nat} {T : Nat → Nat} {t : Mm} (hp : PtM t) (hT : TapeM T len t) (hl : len ≤ 65536) (h3 : ∀ i, T i < 256) (hk : at' + 7 < len) : F_Md_isType n 63 (N at') 116 82 78 83 t = some (if num T (at' + 4) = 1951551059 then 1 else 0, t) := M_type rfl (show (116 : Int32) = N 116 from rfl) (show (82 : Int32) = N 82 from rfl) (show (78 : Int32) = N 78 from rfl) (show (83 : Int32) = N 83 from rfl) (by decide) (by decide) (by decide) (by decide) (by decide) hp hT hl h3 hk
theorem tyE {n len at' : Nat} {T : Nat → Nat} {t : Mm} (hp : PtM t) (hT : TapeM T len t) (hl : len ≤ 65536) (h3 : ∀ i, T i < 256) (hk : at' + 7 < len) : F_Md_isType n 63 (N at') 73 69 78 68 t = some (if num T (at' + 4) = 1229278788 then 1 else 0, t) := M_type rfl (show (73 : Int32) = N 73 from rfl) (show (69 : Int32) = N 69 from rfl) (show (78 : Int32) = N 78 from rfl) (show (68 : Int32) = N 68 from rfl) (by decide) (by decide) (by decide) (by decide) (by decide) hp hT hl h3 hk
theorem TapeM.frL {lp la : List Nat} {T : Nat → Nat} {len : Nat} {t t' : Mm} (h : TapeM T len t) (f : FM lp la t t') (h1 : ¬ 4034 ∈ lp) (h2 : ¬ 64 ∈ la) : TapeM T len t' := ⟨(f.2.S h1).trans h.1, fun i hi => by rw [f.2.B h2]; exact h.2 i hi⟩
set_option maxHeartbeats 1000000 in
theorem M_cols {n len at' ln kd dp : Nat} {T : Nat → Nat} {t : Mm} (eln : num T at' = ln) (ht : num T (at' + 4) = 1347179589) (hn : 600000 < n) (hX : PtX t) (hT : TapeM T len t) (hl : len ≤ 65536) (h3 : ∀ i, T i < 256) (gk : gS t 4050 = N kd) (gd : gS t 4051 = N dp) (hk : kdOk kd dp) (hfit : at' + 12 + ln ≤ len) : Ok (MdP n (N at') (L ln) t) (fun r => ((3 ≤ ln ∧ ln % 3 = 0 ∧ ln / 3 ≤ (if kd = 3 then 2 ^ dp else 256)) ∧ r.1 = 1 ∧ gS r.2 4072 = N 1 ∧ gS r.2 4055 = N (ln / 3) ∧ (∀ i, i < ln → gB r.2 69 i = N (T (at' + 8 + i))) ∧ FM [4072, 4055] [69] t r.2) ∨ (¬ (3 ≤ ln ∧ ln % 3 = 0 ∧ ln / 3 ≤ (if kd = 3 then 2 ^ dp else 256)) ∧ r.1 = 0 ∧ FV 8 at' r.2)) := by
  have hb := hk.b
  have hd8 : kd = 3 → dp ≤ 8 := fun c => by unfold kdOk at hk; omega
  unfold MdP
  have tp := tyP (n := n) hX.2 hT hl h3 (show at' + 7 < len by omega)
  rw [if_pos ht] at tp
  refine s_c tp ?_
  refine s_j (fun k13 hk13 => ?_)
  refine s_neg (by decide) ?_
  refine s_nz (by decide) ?_
  refine s_ji ?_
  have BAD : ¬ (3 ≤ ln ∧ ln % 3 = 0 ∧ ln / 3 ≤ (if kd = 3 then 2 ^ dp else 256)) → Ok (kf_c2 (F_Md_flaw n 63 8 (N at') t) fun x33 σ34 => kf_z x33 (some (x33, σ34))) (fun r => ((3 ≤ ln ∧ ln % 3 = 0 ∧ ln / 3 ≤ (if kd = 3 then 2 ^ dp else 256)) ∧ r.1 = 1 ∧ gS r.2 4072 = N 1 ∧ gS r.2 4055 = N (ln / 3) ∧ (∀ i, i < ln → gB r.2 69 i = N (T (at' + 8 + i))) ∧ FM [4072, 4055] [69] t r.2) ∨ (¬ (3 ≤ ln ∧ ln % 3 = 0 ∧ ln / 3 ≤ (if kd = 3 then 2 ^ dp else 256)) ∧ r.1 = 0 ∧ FV 8 at' r.2)) := fun h => by
    refine (M_flaw (c := 8) rfl rfl).c2 ?_
    rintro r t8 ⟨e8, g8⟩
    dsimp only at e8 g8 ⊢
    subst e8
    exact s_z (Or.inl rfl) (Ok.some (Or.inr ⟨h, rfl, g8⟩))
  have hmc : (if kd = 3 then 2 ^ dp else 256) ≤ 256 := by
    split
    · next c => exact Nat.pow_le_pow_right (n := 2) (j := 8) (by decide) (hd8 c)
    · exact Nat.le_refl _
  rw [L_int, show (3 : Int32) = N 3 from rfl, N_div (by omega) (by omega), N_mul, N_sub (by omega)]
  by_cases c2 : ln % 3 = 0
  · refine s_pos (by rw [show ln - ln / 3 * 3 = 0 by omega]; rfl) ?_
    by_cases c0 : ln = 0
    · exact s_pos (by rw [c0]; rfl) (BAD (by omega))
    refine s_neg (N_ne (b := 0) (by omega) (by omega) c0) ?_
    by_cases c7 : 768 < ln
    · exact s_pos (by rw [show (768 : Int32) = N 768 from rfl, N_lt (by omega) (by omega)]; exact c7) (BAD (by omega))
    refine s_neg (by rw [show (768 : Int32) = N 768 from rfl, N_lt (by omega) (by omega)]; exact c7) ?_
    refine s_j (fun k35 hk35 => ?_)
    have GOOD : (3 ≤ ln ∧ ln % 3 = 0 ∧ ln / 3 ≤ (if kd = 3 then 2 ^ dp else 256)) → Ok (k35 () t) (fun r => ((3 ≤ ln ∧ ln % 3 = 0 ∧ ln / 3 ≤ (if kd = 3 then 2 ^ dp else 256)) ∧ r.1 = 1 ∧ gS r.2 4072 = N 1 ∧ gS r.2 4055 = N (ln / 3) ∧ (∀ i, i < ln → gB r.2 69 i = N (T (at' + 8 + i))) ∧ FM [4072, 4055] [69] t r.2) ∨ (¬ (3 ≤ ln ∧ ln % 3 = 0 ∧ ln / 3 ≤ (if kd = 3 then 2 ^ dp else 256)) ∧ r.1 = 0 ∧ FV 8 at' r.2)) := fun hg => by
      rw [hk35]
      refine s_z (Or.inr rfl) ?_
      refine s_let (fun t1 e1 => ?_)
      have f1 : FM [4072, 4055] [69] t t1 := by rw [e1]; exact (FM.rfl hX).wS (by decide) _
      refine s_nz (by decide) ?_
      refine s_let (fun t2 e2 => ?_)
      have f2 : FM [4072, 4055] [69] t t2 := by rw [e2]; exact f1.wS (by decide) _
      have a2 : gS t2 4072 = N 1 := by rw [e2, gS_ne (by decide), e1]; exact gS_eq rfl
      have b2 : gS t2 4055 = N (ln / 3) := by rw [e2]; exact gS_eq rfl
      clear e1 e2 f1
      refine ok_for 0 ln (fun j x t' => x = N j ∧ gS t' 4072 = N 1 ∧ gS t' 4055 = N (ln / 3) ∧ (∀ i, i < j → gB t' 69 i = N (T (at' + 8 + i))) ∧ FM [4072, 4055] [69] t t') ?_ (by omega) (by omega) ⟨rfl, a2, b2, fun i hi => by omega, f2⟩
      rintro j k9 x t3 - hj ⟨rfl, a3, b3, z3, f3⟩ ih
      have T3 := hT.frL f3 (by decide) (by decide)
      by_cases hje : ln = j
      · subst hje
        refine s_pos (Int32.le_refl _) ?_
        rw [hk13]
        have te := tyE (n := n) f3.1.2 T3 hl h3 (show at' + 7 < len by omega)
        rw [if_neg (by omega)] at te
        refine s_c te ?_
        refine s_ji ?_
        refine s_ji ?_
        refine s_pos rfl ?_
        exact s_z (Or.inr rfl) (Ok.some (Or.inl ⟨hg, rfl, a3, b3, z3, f3⟩))
      · refine s_neg (by rw [N_le (by omega) (by omega)]; omega) ?_
        refine s_R f3.1.2.newColours ?_
        refine s_c (Md_at_eq f3.1.2 T3 hl (show N at' + 8 + N j = N (at' + 8 + j) by rw [show (8 : Int32) = N 8 from rfl, N_add, N_add]) (by omega)) ?_
        refine s_in rfl (by rw [kd_69]; omega) (by omega) ?_
        rw [N_nat (by omega)]
        refine s_let (fun t4 e4 => ?_)
        refine s_let (fun x9 hx9 => ?_)
        rw [N_one, N_add] at hx9
        subst hx9
        refine ih (by omega) _ _ ⟨rfl, by rw [e4]; exact a3, by rw [e4]; exact b3, fun i hi => ?_, by rw [e4]; exact f3.wB (by decide) _ _⟩
        rw [e4, gB_eq rfl]
        by_cases hij : i = j
        · rw [upd_eq hij, hij]
        · rw [upd_ne hij]; exact z3 i (by omega)
    rw [show gS t (64 * 63 + 18) = N kd from gk, show gS t (64 * 63 + 19) = N dp from gd]
    by_cases ck : kd = 3
    · rw [if_pos ck] at BAD GOOD hmc
      refine s_pos (by rw [ck]) ?_
      refine s_nz (by decide) ?_
      rw [show (1 : Int32) = N 1 from rfl, show (31 : Int32) = N 31 from rfl, N_shl (by omega), Nat.shiftLeft_eq, Nat.one_mul]
      rw [if_pos ck]
      by_cases c3 : ln / 3 ≤ 2 ^ dp
      · exact s_pos (by rw [N_le (by omega) (by omega)]; exact c3) (GOOD ⟨by omega, c2, c3⟩)
      · exact s_neg (by rw [N_le (by omega) (by omega)]; exact c3) (BAD (fun z => c3 z.2.2))
    · refine s_neg (N_ne (by omega) (by omega) ck) (GOOD ⟨by omega, c2, by rw [if_neg ck]; omega⟩)
  · exact s_neg (N_ne (b := 0) (by omega) (by omega) (by omega)) (BAD (by omega))
