/-! THE STATE OF THE WALK; THE HEADER -/
def WC (q : Nat) (T : Nat → Nat) (len m : Nat) (wh : Nat → Nat) (ck bf hc ht hd : Nat) (s : Mm) : Prop := US q T len m wh ck s ∧ gS s 581 = N 0 ∧ gS s 320 = N 0 ∧ gS s 708 = N bf ∧ gS s 709 = N hc ∧ gS s 710 = N ht ∧ gS s 711 = N hd ∧ Turns s ∧ Stat s ∧ CodC 13 fixL 288 s ∧ CodC 17 (fun _ => 5) 32 s
def WM (T : Nat → Nat) (len m : Nat) (wh : Nat → Nat) (ck hc ht pc : Nat) (t : Mm) : Prop := PtX t ∧ TapeM T len t ∧ gS t 4060 = N m ∧ (∀ i, i < m → gB t 72 i = N (wh i)) ∧ (∀ i, i < m → gB t 71 i &&& N 255 = N (T (wh i))) ∧ (pc ≠ 0 → gS t 4061 = N ck) ∧ gS t 4035 = N 0 ∧ gS t 4072 = N hc ∧ gS t 4073 = N ht ∧ gS t 4074 = N pc
theorem WC.upd {q len m ck bf hc ht hd bf' hc' ht' hd' : Nat} {T wh : Nat → Nat} {P A : Nat → Prop} {s s' : Mm} (h : WC q T len m wh ck bf hc ht hd s) (F : Fr P A s s') (hX : PtX s') (h7 : gR s' 707 = some q) (hP : ∀ k ∈ [579, 580, 129, 581, 320, 835, 836, 1091, 1092], ¬ P k) (hA : ∀ a ∈ [10, 3, 4, 14, 15, 18, 19], ¬ A a) (hA2 : ∀ a, A a → a < 100) (g4 : gS s' 708 = N bf') (g5 : gS s' 709 = N hc') (g6 : gS s' 710 = N ht') (g7 : gS s' 711 = N hd') : WC q T len m wh ck bf' hc' ht' hd' s' := by
  obtain ⟨⟨a1, a2, a3, a4, a5, a6, a7⟩, h2, h3, -, -, -, -, h8, h9, h10, h11⟩ := h
  have cod : ∀ {c cnt : Nat} {ls : Nat → Nat}, CodC c ls cnt s → ¬ P (64 * c + 3) → ¬ P (64 * c + 4) → ¬ A (c + 1) → ¬ A (c + 2) → CodC c ls cnt s' := fun hc h1 h2 h3 h4 => hc.fr F h1 h2 h3 h4
  refine ⟨⟨⟨hX, h7⟩, ⟨(F.S (hP _ (by decide))).trans a2.1, a2.2.1, a2.2.2.1, fun i hi => by rw [F.B (hA _ (by decide))]; exact a2.2.2.2 i hi⟩, a3, a4, (F.S (hP _ (by decide))).trans a5, (F.S (hP _ (by decide))).trans a6, fun i hi => by rw [F.B (hA _ (by decide))]; exact a7 i hi⟩, (F.S (hP _ (by decide))).trans h2, (F.S (hP _ (by decide))).trans h3, g4, g5, g6, g7, fun i hi => by rw [F.B (hA _ (by decide))]; exact h8 i hi, h9.fr F hA2, cod h10 (hP _ (by decide)) (hP _ (by decide)) (hA _ (by decide)) (hA _ (by decide)), cod h11 (hP _ (by decide)) (hP _ (by decide)) (hA _ (by decide)) (hA _ (by decide))⟩
theorem WM.upd {len m ck hc ht pc hc' ht' pc' : Nat} {T wh : Nat → Nat} {lp la : List Nat} {t t' : Mm} (h : WM T len m wh ck hc ht pc t) (f : FM lp la t t') (hP : ∀ k ∈ [4034, 4060, 4061], ¬ k ∈ lp) (hA : ∀ a ∈ [64, 72, 71], ¬ a ∈ la) (hpc : pc' ≠ 0 → pc ≠ 0) (g0 : gS t' 4035 = N 0) (g5 : gS t' 4072 = N hc') (g6 : gS t' 4073 = N ht') (g7 : gS t' 4074 = N pc') : WM T len m wh ck hc' ht' pc' t' := by
  obtain ⟨h1, h2, h3, h4, h5, h6, -, -, -, -⟩ := h
  have F := f.2
  exact ⟨f.1, ⟨(F.S (hP _ (by decide))).trans h2.1, fun i hi => by rw [F.B (hA _ (by decide))]; exact h2.2 i hi⟩, (F.S (hP _ (by decide))).trans h3, fun i hi => by rw [F.B (hA _ (by decide))]; exact h4 i hi, fun i hi => by rw [F.B (hA _ (by decide))]; exact h5 i hi, fun hz => (F.S (hP _ (by decide))).trans (h6 (hpc hz)), g0, g5, g6, g7⟩
def PV (w h kd dp lc cc tc : Nat) (co th : Nat → Nat) : Prop := Hd w h lc ∧ kdOk kd dp ∧ cc ≤ 256 ∧ tc ≤ 256 ∧ (kd = 3 → cc ≤ 2 ^ dp ∧ tc ≤ cc) ∧ (∀ i, co i < 256) ∧ ∀ i, th i < 65536
abbrev z0 : Nat → Nat := fun _ => 0
theorem dpOk_iff (d : Nat) : kdOk 0 d ↔ dpOk d := by unfold kdOk dpOk; omega
theorem isSize_n {n v : Nat} {s : Mm} (hv : v < 4294967296) (h : ¬ (1 ≤ v ∧ v ≤ 64)) : F_Picture_isSize n (N v) s = some (N 0, s) := by
  by_cases hb : v < 2147483648
  · exact isSize_no (Or.inr ⟨v, hb, rfl, h⟩)
  · exact isSize_no (Or.inl (Int32.not_le.mp (N_big (by omega) hv)))
theorem UPc_C {p : Nat} (hp : isP p) (k : Nat) (h : UPc p k) : cptr.all (fun q => q.1 != k) = true := by
  unfold UPc PLay at h
  rcases hp with rfl | rfl
  · have hk : k ∈ [2432, 2433, 2434, 2435, 2436, 2437, 2438, 2439, 2688, 2689, 2690] := by simp; omega
    clear h
    revert k
    decide
  · have hk : k ∈ [3200, 3201, 3202, 3203, 3204, 3205, 3206, 3207, 3456, 3457, 3458] := by simp; omega
    clear h
    revert k
    decide
theorem PtX.frP {p : Nat} {P A : Nat → Prop} {s s' : Mm} (h : PtX s) (F : Fr P A s s') (h1 : ∀ k, P k → cptr.all (fun q => q.1 != k) = true) (h2 : ∀ k, P k → k < 4032) : PtX s' := ⟨h.1.fr' F h1, h.2.frC F h2⟩
