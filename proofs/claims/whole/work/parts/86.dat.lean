/-! PACKED BYTES OF A FILE, BOTH SIDES -/
def apW (wh : Nat → Nat) (m o : Nat) : Nat → Nat := fun i => if i < m then wh i else o + (i - m)
abbrev PDt (k : Nat) : Prop := k = 579 ∨ k = 580 ∨ k = 711
abbrev ADt (a : Nat) : Prop := a = 10
theorem PDt_C (k : Nat) (h : PDt k) : cptr.all (fun z => z.1 != k) = true := by
  unfold PDt at h
  rcases h with rfl | rfl | rfl <;> decide
set_option maxHeartbeats 1000000 in
theorem C_data {n q len m ck at' ln bf hc ht hd : Nat} {T wh : Nat → Nat} {s : Mm} {x y : Int32} (ex : x = N at') (ey : y = N ln) (hn : 600000 < n) (h : WC q T len m wh ck bf hc ht hd s) (hm : m + 8 ≤ at') (hfit : at' + 12 + ln ≤ len) : Ok (F_Pieces_takeData n 11 x y s) (fun r => r.1 = 1 ∧ WC q T len (m + ln) (apW wh m (at' + 8)) (at' + 8 + ln) bf hc ht 1 r.2 ∧ Fr PDt ADt s r.2) := by
  subst ex ey
  obtain ⟨⟨⟨hX, h7⟩, hT, hmm, hw, gc, gk, gw⟩, r1, r2, r3, r4, r5, r6, r7, r8, r9, r10⟩ := id h
  have hl := hT.2.1
  have hp := hX.1
  unfold F_Pieces_takeData
  refine s_R hp.Pieces_packed ?_
  have app : Ok (F_PackedBits_append n 9 (N at' + 8) (N ln) s) (fun s' => gS s' 579 = N (m + ln) ∧ gS s' 580 = N (at' + 8 + ln) ∧ (∀ i, i < m + ln → gB s' 10 i = N (apW wh m (at' + 8) i)) ∧ Fr PDt ADt s s') := by
    unfold F_PackedBits_append
    refine ok_for 0 ln (fun j x s' => x = N j ∧ gS s' 579 = N (m + j) ∧ (∀ i, i < m + j → gB s' 10 i = N (apW wh m (at' + 8) i)) ∧ Fr PDt ADt s s') ?_ (by omega) (by omega) ⟨rfl, gc, fun i hi => by rw [gw i (by omega)]; unfold apW; rw [if_pos (by omega)], Fr.rfl⟩
    rintro j k9 x s1 - hj ⟨rfl, z1, z2, f1⟩ ih
    refine s_ji ?_
    by_cases hje : ln = j
    · subst hje
      refine s_pos (Int32.le_refl _) ?_
      refine s_let (fun s2 e2 => ?_)
      rw [show (8 : Int32) = N 8 from rfl, N_add, N_add] at e2
      refine Ok.some ⟨?_, ?_, ?_, ?_⟩
      · rw [e2, gS_ne (by decide)]; exact z1
      · rw [e2]; exact gS_eq rfl
      · rw [e2]; exact z2
      · rw [e2]; exact Fr.wS f1 (Or.inr (Or.inl rfl)) _
    · refine s_neg (by rw [N_le (by omega) (by omega)]; omega) ?_
      rw [show gS s1 (64 * 9 + 3) = N (m + j) from z1]
      refine s_neg (by rw [show (65536 : Int32) = N 65536 from rfl, N_le (by omega) (by omega)]; omega) ?_
      refine s_R (hp.fr' f1 PDt_C).Packed_where ?_
      refine s_in rfl (by rw [kd_10]; omega) (by omega) ?_
      rw [N_nat (by omega), show (8 : Int32) = N 8 from rfl, N_add, N_add]
      refine s_let (fun s2 e2 => ?_)
      refine s_let (fun s3 e3 => ?_)
      rw [show gS s2 (64 * 9 + 3) = N (m + j) by rw [e2]; exact z1, show (1 : Int32) = N 1 from rfl, N_add] at e3
      refine s_let (fun x9 hx9 => ?_)
      rw [N_one, N_add] at hx9
      subst hx9
      have nx := ih (by omega) (N (j + 1)) s3 ⟨rfl, by rw [e3]; exact gS_eq rfl, fun i hi => ?_, by rw [e3, e2]; exact Fr.wS (Fr.wB f1 rfl _ _) (Or.inl rfl) _⟩
      · (try rw [N_add] at nx)
        exact nx
      · rw [e3, e2]
        show gB (pB s1 10 (m + j) (N (at' + 8 + j))) 10 i = _
        rw [gB_eq rfl]
        by_cases hij : i = m + j
        · rw [upd_eq hij]
          unfold apW
          rw [if_neg (by omega), hij, Nat.add_sub_cancel_left]
        · rw [upd_ne hij]; exact z2 i (by omega)
  refine app.bind ?_
  rintro s1 ⟨y1, y2, y3, f1⟩
  refine s_z (Or.inr rfl) ?_
  refine s_let (fun s2 e2 => ?_)
  have f2 : Fr PDt ADt s s2 := by rw [e2]; exact Fr.wS f1 (Or.inr (Or.inr rfl)) _
  have X2 : PtX s2 := ⟨hp.fr' f2 PDt_C, hX.2.frC f2 (fun k hk => by unfold PDt at hk; omega)⟩
  have cod : ∀ {c cnt : Nat} {ls : Nat → Nat}, CodC c ls cnt s → ¬ PDt (64 * c + 3) → ¬ PDt (64 * c + 4) → ¬ ADt (c + 1) → ¬ ADt (c + 2) → CodC c ls cnt s2 := fun hc h1 h2 h3 h4 => hc.fr f2 h1 h2 h3 h4
  refine s_z (Or.inr rfl) (Ok.some ⟨rfl, ⟨⟨⟨X2, (f2.R (by decide)).trans h7⟩, ⟨(f2.S (by decide)).trans hT.1, hT.2.1, hT.2.2.1, fun i hi => by rw [f2.B (by decide)]; exact hT.2.2.2 i hi⟩, by omega, fun i hi => ?_, ?_, ?_, ?_⟩, (f2.S (by decide)).trans r1, (f2.S (by decide)).trans r2, (f2.S (by decide)).trans r3, (f2.S (by decide)).trans r4, (f2.S (by decide)).trans r5, ?_, fun i hi => by rw [f2.B (by decide)]; exact r7 i hi, r8.fr f2 (fun a ha => by unfold ADt at ha; omega), cod r9 (by decide) (by decide) (by decide) (by decide), cod r10 (by decide) (by decide) (by decide) (by decide)⟩, f2⟩)
  · unfold apW
    split
    · exact hw i (by assumption)
    · omega
  · rw [e2, gS_ne (by decide)]; exact y1
  · rw [e2, gS_ne (by decide)]; exact y2
  · rw [e2]; exact y3
  · rw [e2]; exact gS_eq rfl
set_option maxHeartbeats 1000000 in
theorem M_data {n len m ck at' ln hc ht pc : Nat} {T wh : Nat → Nat} {t : Mm} (eln : num T at' = ln) (hty : num T (at' + 4) = 1229209940) (hn : 600000 < n) (hl : len ≤ 65536) (h3 : ∀ i, T i < 256) (h : WM T len m wh ck hc ht pc t) (hm : m + 8 ≤ at') (hfit : at' + 12 + ln ≤ len) : Ok (F_Md_readPiece n 63 (N at') t) (fun r => r.1 = 1 ∧ WM T len (m + ln) (apW wh m (at' + 8)) (at' + 8 + ln) hc ht 1 r.2 ∧ FM [4060, 4061, 4074] [71, 72] t r.2) := by
  obtain ⟨hX, hT, gs, gp, gpk, -, gf, g5, g6, -⟩ := id h
  unfold F_Md_readPiece
  refine s_c (M_number rfl hX.2 hT hl h3 (by omega)) ?_
  have tI := M_type (n := n) (T := T) (x := N at') (K := 1229472850) rfl (show (73 : Int32) = N 73 from rfl) (show (72 : Int32) = N 72 from rfl) (show (68 : Int32) = N 68 from rfl) (show (82 : Int32) = N 82 from rfl) (by decide) (by decide) (by decide) (by decide) (by decide) hX.2 hT hl h3 (by omega)
  have tD := M_type (n := n) (T := T) (x := N at') (K := 1229209940) rfl (show (73 : Int32) = N 73 from rfl) (show (68 : Int32) = N 68 from rfl) (show (65 : Int32) = N 65 from rfl) (show (84 : Int32) = N 84 from rfl) (by decide) (by decide) (by decide) (by decide) (by decide) hX.2 hT hl h3 (by omega)
  rw [if_neg (by omega)] at tI
  rw [if_pos hty] at tD
  refine s_c tI ?_
  refine s_pos rfl ?_
  refine s_c tD ?_
  refine s_neg (by decide) ?_
  refine s_let (fun x9 hx9 => ?_)
  rw [show (8 : Int32) = N 8 from rfl, N_add] at hx9
  subst hx9
  rw [eln, L_int, show (8 : Int32) = N 8 from rfl, N_add, N_add]
  refine ok_for 0 ln (fun j x t' => x = N (at' + 8 + j) ∧ gS t' 4060 = N (m + j) ∧ (∀ i, i < m + j → gB t' 72 i = N (apW wh m (at' + 8) i)) ∧ (∀ i, i < m + j → gB t' 71 i &&& N 255 = N (T (apW wh m (at' + 8) i))) ∧ FM [4060, 4061, 4074] [71, 72] t t') ?_ (by omega) (by omega) ⟨rfl, gs, fun i hi => by rw [gp i (by omega)]; unfold apW; rw [if_pos (by omega)], fun i hi => by rw [gpk i (by omega)]; unfold apW; rw [if_pos (by omega)], FM.rfl hX⟩
  rintro j k9 x t1 - hj ⟨rfl, z1, z2, z3, f1⟩ ih
  by_cases hje : ln = j
  · subst hje
    refine s_pos (Int32.le_refl _) ?_
    refine s_let (fun t2 e2 => ?_)
    have f2 : FM [4060, 4061, 4074] [71, 72] t t2 := by rw [e2]; exact f1.wS (by decide) _
    refine s_let (fun t3 e3 => ?_)
    have f3 : FM [4060, 4061, 4074] [71, 72] t t3 := by rw [e3]; exact f2.wS (by decide) _
    refine s_z (Or.inr rfl) (Ok.some ⟨rfl, ⟨f3.1, hT.frL f3 (by decide) (by decide), ?_, ?_, ?_, fun _ => ?_, (f3.2.S (by decide)).trans gf, (f3.2.S (by decide)).trans g5, (f3.2.S (by decide)).trans g6, ?_⟩, f3⟩)
    · rw [e3, gS_ne (by decide), e2, gS_ne (by decide)]; exact z1
    · rw [e3, e2]; exact z2
    · rw [e3, e2]; exact z3
    · rw [e3, gS_ne (by decide), e2]; exact gS_eq rfl
    · rw [e3]; exact gS_eq rfl
  · refine s_neg (by rw [N_le (by omega) (by omega)]; omega) ?_
    refine s_R f1.1.2.packed ?_
    refine s_R f1.1.2.tape ?_
    refine s_in rfl (by rw [kd_64]; omega) (by omega) ?_
    rw [show gS t1 (64 * 63 + 28) = N (m + j) from z1]
    refine s_in rfl (by rw [kd_71]; omega) (by omega) ?_
    rw [N_nat (by omega), N_nat (by omega)]
    refine s_let (fun t2 e2 => ?_)
    have f2 : FM [4060, 4061, 4074] [71, 72] t t2 := by rw [e2]; exact f1.wB (by decide) _ _
    have y1 : gS t2 (64 * 63 + 28) = N (m + j) := by rw [e2]; exact z1
    refine s_R f2.1.2.placesOf ?_
    rw [y1]
    refine s_in rfl (by rw [kd_72]; omega) (by omega) ?_
    rw [N_nat (by omega)]
    refine s_let (fun t3 e3 => ?_)
    have f3 : FM [4060, 4061, 4074] [71, 72] t t3 := by rw [e3]; exact f2.wB (by decide) _ _
    refine s_let (fun t4 e4 => ?_)
    rw [show gS t3 (64 * 63 + 28) = N (m + j) by rw [e3]; exact y1, show (1 : Int32) = N 1 from rfl, N_add] at e4
    have f4 : FM [4060, 4061, 4074] [71, 72] t t4 := by rw [e4]; exact f3.wS (by decide) _
    refine s_let (fun x9 hx9 => ?_)
    rw [N_one, N_add] at hx9
    subst hx9
    have tv : gB t1 64 (at' + 8 + j) &&& N 255 = N (T (at' + 8 + j)) := by rw [f1.2.B (by decide)]; exact hT.2 _ (by omega)
    refine ih (by omega) _ _ ⟨by rw [Nat.add_assoc], by rw [e4]; exact gS_eq rfl, fun i hi => ?_, fun i hi => ?_, f4⟩
    · rw [e4, e3]
      show gB (pB t2 72 (m + j) (N (at' + 8 + j))) 72 i = _
      rw [gB_eq rfl]
      by_cases hij : i = m + j
      · rw [upd_eq hij]
        unfold apW
        rw [if_neg (by omega), hij, Nat.add_sub_cancel_left]
      · rw [upd_ne hij, e2]
        exact z2 i (by omega)
    · rw [e4, e3]
      show gB t2 71 i &&& N 255 = _
      rw [e2, gB_eq rfl]
      by_cases hij : i = m + j
      · rw [upd_eq hij]
        unfold apW
        rw [if_neg (by omega), hij, Nat.add_sub_cancel_left]
        show (gB t1 64 (at' + 8 + j)).toInt8.toInt32 &&& N 255 = _
        rw [i8_and, lob_eq tv (h3 _)]
      · rw [upd_ne hij]
        exact z3 i (by omega)
