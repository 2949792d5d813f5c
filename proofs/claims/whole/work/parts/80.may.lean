/-! WHERE A PIECE MAY STAND -/
def MS (at' ty kd hc ht pc : Nat) : Prop := (at' = 8 → ty = 1229472850) ∧ (at' ≠ 8 → (ty ≠ 1229472850 ∧ (ty = 1347179589 → (kd = 2 ∨ kd = 3 ∨ kd = 6) ∧ hc = 0 ∧ ht = 0 ∧ pc = 0) ∧ (ty = 1951551059 → (kd = 0 ∨ kd = 2 ∨ kd = 3) ∧ ¬ (kd = 3 ∧ hc = 0) ∧ ht = 0 ∧ pc = 0) ∧ (ty = 1229209940 → ¬ (kd = 3 ∧ hc = 0) ∧ pc < 2) ∧ (ty = 1229278788 → 0 < pc)))
theorem C_mhc {n k : Nat} {x : Int32} {s : Mm} (e : x = N k) (hk : k < 256) : ∃ b : Nat, F_Picture_mayHaveColours n x s = some (N b, s) ∧ ((b = 1 ∧ (k = 2 ∨ k = 3 ∨ k = 6)) ∨ (b = 0 ∧ ¬ (k = 2 ∨ k = 3 ∨ k = 6))) := by
  subst e
  have go : ∀ b : Nat, ((b = 1 ∧ (k = 2 ∨ k = 3 ∨ k = 6)) ∨ (b = 0 ∧ ¬ (k = 2 ∨ k = 3 ∨ k = 6))) → Ok (F_Picture_mayHaveColours n (N k) s) (fun y => y = (N b, s)) := by
    intro b hb
    have yes : b = 1 → Ok (kf_z 1 (some (1, s))) (fun y => y = (N b, s)) := fun h => s_z (Or.inr rfl) (Ok.some (by rw [h]; rfl))
    have no : b = 0 → Ok (kf_z 0 (some (0, s))) (fun y => y = (N b, s)) := fun h => s_z (Or.inl rfl) (Ok.some (by rw [h]; rfl))
    unfold F_Picture_mayHaveColours
    refine s_ji ?_
    refine s_ji ?_
    rw [show (2 : Int32) = N 2 from rfl, show (3 : Int32) = N 3 from rfl, show (6 : Int32) = N 6 from rfl]
    by_cases c2 : k = 2
    · exact s_pos (by rw [c2]) (yes (by omega))
    refine s_neg (N_ne (by omega) (by omega) c2) ?_
    by_cases c3 : k = 3
    · exact s_pos (by rw [c3]) (yes (by omega))
    refine s_neg (N_ne (by omega) (by omega) c3) ?_
    by_cases c6 : k = 6
    · exact s_pos (by rw [c6]) (yes (by omega))
    · exact s_neg (N_ne (by omega) (by omega) c6) (no (by omega))
  by_cases hl : k = 2 ∨ k = 3 ∨ k = 6
  · exact ⟨1, Ok.eq (go 1 (Or.inl ⟨rfl, hl⟩)), Or.inl ⟨rfl, hl⟩⟩
  · exact ⟨0, Ok.eq (go 0 (Or.inr ⟨rfl, hl⟩)), Or.inr ⟨rfl, hl⟩⟩
theorem C_mht {n k : Nat} {x : Int32} {s : Mm} (e : x = N k) (hk : k < 256) : ∃ b : Nat, F_Picture_mayHaveThins n x s = some (N b, s) ∧ ((b = 1 ∧ (k = 0 ∨ k = 2 ∨ k = 3)) ∨ (b = 0 ∧ ¬ (k = 0 ∨ k = 2 ∨ k = 3))) := by
  subst e
  have go : ∀ b : Nat, ((b = 1 ∧ (k = 0 ∨ k = 2 ∨ k = 3)) ∨ (b = 0 ∧ ¬ (k = 0 ∨ k = 2 ∨ k = 3))) → Ok (F_Picture_mayHaveThins n (N k) s) (fun y => y = (N b, s)) := by
    intro b hb
    have yes : b = 1 → Ok (kf_z 1 (some (1, s))) (fun y => y = (N b, s)) := fun h => s_z (Or.inr rfl) (Ok.some (by rw [h]; rfl))
    have no : b = 0 → Ok (kf_z 0 (some (0, s))) (fun y => y = (N b, s)) := fun h => s_z (Or.inl rfl) (Ok.some (by rw [h]; rfl))
    unfold F_Picture_mayHaveThins
    refine s_ji ?_
    refine s_ji ?_
    by_cases c2 : k = 0
    · exact s_pos (by rw [c2]; rfl) (yes (by omega))
    refine s_neg (N_ne (b := 0) (by omega) (by omega) c2) ?_
    by_cases c3 : k = 2
    · exact s_pos (by rw [c3]; rfl) (yes (by omega))
    refine s_neg (N_ne (b := 2) (by omega) (by omega) c3) ?_
    by_cases c6 : k = 3
    · exact s_pos (by rw [c6]; rfl) (yes (by omega))
    · exact s_neg (N_ne (b := 3) (by omega) (by omega) c6) (no (by omega))
  by_cases hl : k = 0 ∨ k = 2 ∨ k = 3
  · exact ⟨1, Ok.eq (go 1 (Or.inl ⟨rfl, hl⟩)), Or.inl ⟨rfl, hl⟩⟩
  · exact ⟨0, Ok.eq (go 0 (Or.inr ⟨rfl, hl⟩)), Or.inr ⟨rfl, hl⟩⟩
set_option maxHeartbeats 1000000 in
theorem C_may {n q at' ty kd hc ht pc hd bf : Nat} {x : Int32} {s : Mm} (e : x = N ty) (hty : ty < 4294967296) (hX : PtX s ∧ gR s 707 = some q) (g4 : gS s 708 = N bf) (g5 : gS s 709 = N hc) (g6 : gS s 710 = N ht) (g7 : gS s 711 = N hd) (gk : at' ≠ 8 → gS s (64 * q + 2) = N kd) (hk : kd < 256) (hbf : bf < 4294967296) (hb0 : bf = 0 ↔ at' = 8) (hb1 : bf = 1229209940 ↔ pc = 1) (hdc : hd = if pc = 0 then 0 else 1) (hcb : hc < 2) (htb : ht < 2) (hpb : pc < 3) : ∃ b : Nat, F_Pieces_mayStand n 11 x s = some (N b, s) ∧ ((b = 1 ∧ MS at' ty kd hc ht pc) ∨ (b = 0 ∧ ¬ MS at' ty kd hc ht pc)) := by
  subst e
  have hd1 : (pc = 0 → hd = 0) ∧ (pc ≠ 0 → hd = 1) := by rw [hdc]; constructor; intro h; rw [if_pos h]; intro h; rw [if_neg h]
  clear hdc
  have go : ∀ b : Nat, ((b = 1 ∧ MS at' ty kd hc ht pc) ∨ (b = 0 ∧ ¬ MS at' ty kd hc ht pc)) → Ok (F_Pieces_mayStand n 11 (N ty) s) (fun y => y = (N b, s)) := by
    intro b hb
    unfold MS at hb
    have yes : b = 1 → Ok (kf_z 1 (some (1, s))) (fun y => y = (N b, s)) := fun h => s_z (Or.inr rfl) (Ok.some (by rw [h]; rfl))
    have no : b = 0 → Ok (kf_z 0 (some (0, s))) (fun y => y = (N b, s)) := fun h => s_z (Or.inl rfl) (Ok.some (by rw [h]; rfl))
    unfold F_Pieces_mayStand
    refine s_ji ?_
    rw [show gS s (64 * 11 + 4) = N bf from g4]
    by_cases h8 : bf = 0
    · refine s_pos (by rw [h8]; rfl) ?_
      refine s_ji ?_
      refine s_ji ?_
      rw [show gS s (64 * 11 + 4) = N bf from g4]
      refine s_pos (by rw [h8]; rfl) ?_
      by_cases c : ty = 1229472850
      · exact s_pos (by rw [c]; rfl) (yes (by omega))
      · exact s_neg (N_ne (b := 1229472850) (by omega) (by omega) c) (no (by omega))
    refine s_neg (N_ne (b := 0) (by omega) (by omega) h8) ?_
    by_cases cI : ty = 1229472850
    · refine s_pos (by rw [cI]; rfl) ?_
      refine s_ji ?_
      refine s_ji ?_
      rw [show gS s (64 * 11 + 4) = N bf from g4]
      exact s_neg (N_ne (b := 0) (by omega) (by omega) h8) (no (by omega))
    refine s_neg (N_ne (b := 1229472850) (by omega) (by omega) cI) ?_
    refine s_R hX.2 ?_
    have gk' := gk (by omega)
    refine s_j (fun k11 hk11 => ?_)
    obtain ⟨lk, hlk⟩ : ∃ lk : Nat, (lk = 1 ∧ kd = 3 ∧ hc = 0) ∨ (lk = 0 ∧ ¬ (kd = 3 ∧ hc = 0)) := by
      by_cases c : kd = 3 ∧ hc = 0
      · exact ⟨1, Or.inl ⟨rfl, c⟩⟩
      · exact ⟨0, Or.inr ⟨rfl, c⟩⟩
    have st : Ok (k11 (N lk) s) (fun y => y = (N b, s)) → Ok (kf_j (α := Unit) (fun x46 σ47 =>
k11 0 σ47) fun k45 =>
if (gS s (64 * q + 2)) = 3 then (
if (gS s (64 * 11 + 5)) = 0 then (
k11 1 s) else (
k45 () s)) else (
k45 () s)) (fun y => y = (N b, s)) := fun h => by
      refine s_ji ?_
      rw [gk', show gS s (64 * 11 + 5) = N hc from g5]
      by_cases c3 : kd = 3
      · refine s_pos (by rw [c3]; rfl) ?_
        by_cases c4 : hc = 0
        · rw [show lk = 1 by omega] at h
          exact s_pos (by rw [c4]; rfl) h
        · rw [show lk = 0 by omega] at h
          exact s_neg (N_ne (b := 0) (by omega) (by omega) c4) h
      · rw [show lk = 0 by omega] at h
        exact s_neg (N_ne (b := 3) (by omega) (by omega) c3) h
    refine st ?_
    subst hk11
    dsimp only
    clear st
    rw [show gS s (64 * 11 + 4) = N bf from g4, show gS s (64 * 11 + 7) = N hd from g7]
    by_cases c1 : ty = 1229209940
    · refine s_pos (by rw [c1]; rfl) ?_
      refine s_ji ?_
      refine s_ji ?_
      by_cases d1 : lk = 0
      · refine s_pos (by rw [d1]; rfl) ?_
        refine s_ji ?_
        by_cases d2 : hd = 0
        · exact s_pos (by rw [d2]; rfl) (yes (by omega))
        · refine s_neg (N_ne (b := 0) (by omega) (by omega) d2) ?_
          by_cases d3 : bf = 1229209940
          · exact s_pos (by rw [d3]; rfl) (yes (by omega))
          · exact s_neg (N_ne (b := 1229209940) (by omega) (by omega) d3) (no (by omega))
      · exact s_neg (N_ne (b := 0) (by omega) (by omega) d1) (no (by omega))
    refine s_neg (N_ne (b := 1229209940) (by omega) (by omega) c1) ?_
    by_cases c2 : ty = 1229278788
    · refine s_pos (by rw [c2]; rfl) ?_
      refine s_z ?_ (Ok.some ?_)
      · by_cases d : pc = 0
        · left; rw [hd1.1 d]; rfl
        · right; rw [hd1.2 d]; rfl
      · rw [show b = hd by omega]
    refine s_neg (N_ne (b := 1229278788) (by omega) (by omega) c2) ?_
    by_cases c3 : ty = 1347179589
    · refine s_pos (by rw [c3]; rfl) ?_
      refine s_R hX.2 ?_
      obtain ⟨v, ev, hv⟩ := C_mhc (n := n) (s := s) (k := kd) gk' hk
      refine s_c ev ?_
      refine s_ji ?_
      refine s_ji ?_
      rw [show gS s (64 * 11 + 5) = N hc from g5, show gS s (64 * 11 + 6) = N ht from g6, show gS s (64 * 11 + 7) = N hd from g7]
      by_cases d1 : v = 0
      · exact s_pos (by rw [d1]; rfl) (no (by omega))
      refine s_neg (N_ne (b := 0) (by omega) (by omega) d1) ?_
      by_cases d2 : hc = 0
      · refine s_pos (by rw [d2]; rfl) ?_
        by_cases d3 : ht = 0
        · refine s_pos (by rw [d3]; rfl) ?_
          by_cases d4 : hd = 0
          · exact s_pos (by rw [d4]; rfl) (yes (by omega))
          · exact s_neg (N_ne (b := 0) (by omega) (by omega) d4) (no (by omega))
        · exact s_neg (N_ne (b := 0) (by omega) (by omega) d3) (no (by omega))
      · exact s_neg (N_ne (b := 0) (by omega) (by omega) d2) (no (by omega))
    refine s_neg (N_ne (b := 1347179589) (by omega) (by omega) c3) ?_
    by_cases c4 : ty = 1951551059
    · refine s_pos (by rw [c4]; rfl) ?_
      refine s_R hX.2 ?_
      obtain ⟨v, ev, hv⟩ := C_mht (n := n) (s := s) (k := kd) gk' hk
      refine s_c ev ?_
      refine s_ji ?_
      refine s_ji ?_
      rw [show gS s (64 * 11 + 6) = N ht from g6, show gS s (64 * 11 + 7) = N hd from g7]
      by_cases d1 : v = 0
      · exact s_pos (by rw [d1]; rfl) (no (by omega))
      refine s_neg (N_ne (b := 0) (by omega) (by omega) d1) ?_
      by_cases d2 : lk = 0
      · refine s_pos (by rw [d2]; rfl) ?_
        by_cases d3 : ht = 0
        · refine s_pos (by rw [d3]; rfl) ?_
          by_cases d4 : hd = 0
          · exact s_pos (by rw [d4]; rfl) (yes (by omega))
          · exact s_neg (N_ne (b := 0) (by omega) (by omega) d4) (no (by omega))
        · exact s_neg (N_ne (b := 0) (by omega) (by omega) d3) (no (by omega))
      · exact s_neg (N_ne (b := 0) (by omega) (by omega) d2) (no (by omega))
    · exact s_neg (N_ne (b := 1951551059) (by omega) (by omega) c4) (yes (by omega))
  by_cases hl : MS at' ty kd hc ht pc
  · exact ⟨1, Ok.eq (go 1 (Or.inl ⟨rfl, hl⟩)), Or.inl ⟨rfl, hl⟩⟩
  · exact ⟨0, Ok.eq (go 0 (Or.inr ⟨rfl, hl⟩)), Or.inr ⟨rfl, hl⟩⟩
