/-! SIMPLE CALLS on the tape -/
/-- the rest of the state, as far as the tape's calls leave it -/
def Tp (σ : Mm) : Prop := PtC σ ∧ PtM σ ∧ ∃ T len, TapeC T len σ ∧ TapeM T len σ
def PTm (k : Nat) : Prop := k = 129 ∨ k = 4032 ∨ k = 4034
def ATm (a : Nat) : Prop := a = 3 ∨ a = 64 ∨ a = 62
theorem Tp_pt {σ σ' : Mm} (h1 : PtC σ) (h2 : PtM σ) (hF : Fr PTm ATm σ σ') : PtC σ' ∧ PtM σ' := by
  constructor
  · intro q hq
    rw [hF.R (fun z => ?_)]
    · exact h1 q hq
    · have := (by decide : ∀ q ∈ cptr, ¬ (q.1 = 129 ∨ q.1 = 4032 ∨ q.1 = 4034)) q hq
      exact this z
  · intro q hq
    rw [hF.R (fun z => ?_)]
    · exact h2 q hq
    · have := (by decide : ∀ q ∈ mptr, ¬ (q.1 = 129 ∨ q.1 = 4032 ∨ q.1 = 4034)) q hq
      exact this z
theorem step_end {n : Nat} {x : Int32} {σ : Mm} (h : Tp σ) : Ok (F_Lw_end n 1 x σ) (fun r => Ok (F_Md_end n 63 x r.2) (fun σ2 => gS σ2 4032 = r.1 ∧ Tp σ2 ∧ Fr PTm ATm σ σ2)) := by
  obtain ⟨hc, hm, T, len, h1, h2⟩ := h
  obtain ⟨a1, a2, a3, a4⟩ := id h1
  obtain ⟨b1, b2⟩ := id h2
  have p1 := hc.PF_tape
  unfold F_Lw_end F_PF_end F_Md_end
  refine s_h ?_
  refine s_j (fun k1 hk1 => ?_)
  have bad : x < 0 ∨ ¬ x ≤ N len → Ok (k1 () σ) (fun x9 => match x9.1 with
      | .inl r => Ok (some (0, x9.2)) (fun r => Ok (F_Md_end n 63 x r.2) (fun σ2 => gS σ2 4032 = r.1 ∧ Tp σ2 ∧ Fr PTm ATm σ σ2))
      | .inr E => Ok (if E = "java/lang/IllegalArgumentException" then some (1, x9.2) else none) (fun r => Ok (F_Md_end n 63 x r.2) (fun σ2 => gS σ2 4032 = r.1 ∧ Tp σ2 ∧ Fr PTm ATm σ σ2))) := by
    sorry
  sorry
