/-! EVERY CALL; THE WHOLE RUN -/
theorem Pr.mono {X : Type} {f : Option X} {Q R : X → Prop} (h : Pr f Q) (k : ∀ x, Q x → R x) : Pr f R := fun x e => k x (h x e)
def KR (s : Mm) : Prop := PtM s ∧ Rng s
theorem KI.kr {p : Nat} {σ s : Mm} (h : KI p σ s) (hr : Rng σ) : KR s := ⟨h.1.2, hr.eq h.2.2⟩
set_option maxHeartbeats 2000000 in
theorem JJ.calls {n : Nat} (hn : 600000 < n) {σ : Mm} (h : JJ σ) : CallsOk n JJ σ := by
  have hC := h.1
  have hM := h.2.1
  have hT := h.2.2.1
  have hP := h.2.2.2.2.1
  have hTu := h.2.2.2.2.2.1
  have hS := h.2.2.2.2.2.2.1
  have hR := h.2.2.2.2.2.2.2.1
  obtain ⟨p, hp, r1, -⟩ := id hP
  refine ⟨?_, ?_, ?_, ?_, ?_, ?_, ?_, ?_, ?_, ?_, ?_, ?_, ?_, ?_, ?_, ?_, ?_, ?_⟩
  · intro a b c d e
    exact (step_feed (by omega) hC hM hT).mono (fun r hr => hr.mono (fun s hs => ⟨hs.1, hs.2.1, h.tape hs.2.2.2.2.2 hs.2.2.2.1 hs.2.2.2.2.1 hs.2.2.1⟩))
  · intro a
    exact (step_end hC hM hT).mono (fun r hr => hr.mono (fun s hs => ⟨hs.1, h.tape hs.2.2.2.2 hs.2.2.1 hs.2.2.2.1 hs.2.1⟩))
  · exact step_read hn h
  · have k : Pr (F_PF_fault n 1 σ) (fun r => KR r.2) := by
      rcases hp with rfl | rfl
      · exact (k38_PF_fault_1 (h.ki r1)).mono (fun x hx => hx.kr hR)
      · exact (k50_PF_fault_1 (h.ki r1)).mono (fun x hx => hx.kr hR)
    exact ((step_fault (n := n) hC h.2.2.2.1).seq k (fun r hr => (pr_Md_fault (CM_IM r.2) (IM_0 hr.1 hr.2)).mono (fun x hx => hx.2.1))).mono (fun r hr => hr.mono (fun s hs => ⟨hs.1.1, h.ask hs.1.2 hs.2⟩))
  · intro a b c d e he
    have k : Pr (F_Lw_make n 1 a b c d e σ) (fun r => KR r.2) := by
      rcases hp with rfl | rfl
      · exact (k38_Lw_make_1 (h.ki r1)).mono (fun x hx => hx.kr hR)
      · exact (k50_Lw_make_1 (h.ki r1)).mono (fun x hx => hx.kr hR)
    refine ((step_make (n := n) (by omega) he hC hM hS hP).seq k (fun r hr => (pr_Md_make (CM_IM r.2) (IM_0 hr.1 hr.2)).mono (fun x hx => hx.2.1))).mono (fun r hr => hr.mono ?_)
    rintro s ⟨⟨e1, e2, p', hp', e3⟩, e4⟩
    exact ⟨e1, h.pic hp' e3 e2 e4⟩
  · intro a
    have k : Pr (F_Lw_about n 1 a 62 σ) (fun r => KR r.2) := by
      rcases hp with rfl | rfl
      · exact (k38_Lw_about_1_62 (h.ki r1)).mono (fun x hx => hx.kr hR)
      · exact (k50_Lw_about_1_62 (h.ki r1)).mono (fun x hx => hx.kr hR)
    exact ((step_about (n := n) (by omega) hC hM hP).seq k (fun r hr => (pr_Md_about (CM_IM r.2) (IM_0 hr.1 hr.2)).mono (fun x hx => hx.2.1))).mono (fun r hr => hr.mono (fun s hs => ⟨hs.1.1, hs.1.2.1, h.ask hs.1.2.2 hs.2⟩))
  · intro a b c
    have k : Pr (F_Lw_sample n 1 a b c 62 σ) (fun r => KR r.2) := by
      rcases hp with rfl | rfl
      · exact (k38_Lw_sample_1_62 (h.ki r1)).mono (fun x hx => hx.kr hR)
      · exact (k50_Lw_sample_1_62 (h.ki r1)).mono (fun x hx => hx.kr hR)
    exact ((step_sample (n := n) hC hM hP).seq k (fun r hr => (pr_Md_sample (CM_IM r.2) (IM_0 hr.1 hr.2)).mono (fun x hx => hx.2.1))).mono (fun r hr => hr.mono (fun s hs => ⟨hs.1.1, hs.1.2.1, h.ask hs.1.2.2 hs.2⟩))
  · intro a b c d
    have k : Pr (F_Lw_set n 1 a b c d σ) (fun r => KR r.2) := by
      rcases hp with rfl | rfl
      · exact (k38_Lw_set_1 (h.ki r1)).mono (fun x hx => hx.kr hR)
      · exact (k50_Lw_set_1 (h.ki r1)).mono (fun x hx => hx.kr hR)
    refine ((step_set (n := n) hC hM hP).seq k (fun r hr => (pr_Md_set (CM_IM r.2) (IM_0 hr.1 hr.2)).mono (fun x hx => hx.2.1))).mono (fun r hr => hr.mono ?_)
    rintro s ⟨⟨e1, e2, p', hp', e3⟩, e4⟩
    exact ⟨e1, h.pic hp' e3 e2 e4⟩
  · intro a b c d e f
    have k : Pr (F_Lw_fill n 1 a b c d e f σ) (fun r => KR r.2) := by
      rcases hp with rfl | rfl
      · exact (k38_Lw_fill_1 (h.ki r1)).mono (fun x hx => hx.kr hR)
      · exact (k50_Lw_fill_1 (h.ki r1)).mono (fun x hx => hx.kr hR)
    refine ((step_fill (n := n) (by omega) hC hM hP).seq k (fun r hr => (pr_Md_fill (CM_IM r.2) (IM_0 hr.1 hr.2)).mono (fun x hx => hx.2.1))).mono (fun r hr => hr.mono ?_)
    rintro s ⟨⟨e1, e2, p', hp', e3⟩, e4⟩
    exact ⟨e1, h.pic hp' e3 e2 e4⟩
  · intro a b c
    have k : Pr (F_Lw_colour n 1 a b c 62 σ) (fun r => KR r.2) := by
      rcases hp with rfl | rfl
      · exact (k38_Lw_colour_1_62 (h.ki r1)).mono (fun x hx => hx.kr hR)
      · exact (k50_Lw_colour_1_62 (h.ki r1)).mono (fun x hx => hx.kr hR)
    refine ((step_colour (n := n) hC hM hP).seq k (fun r hr => (pr_Md_colour (CM_IM r.2) (IM_0 hr.1 hr.2)).mono (fun x hx => hx.2.1))).mono (fun r hr => hr.mono ?_)
    rintro s ⟨⟨e1, e0, e2, p', hp', e3⟩, e4⟩
    exact ⟨e1, e0, h.pic hp' e3 e2 e4⟩
  · intro a b
    have k : Pr (F_Lw_ofColour n 1 a b 62 σ) (fun r => KR r.2) := by
      rcases hp with rfl | rfl
      · exact (k38_Lw_ofColour_1_62 (h.ki r1)).mono (fun x hx => hx.kr hR)
      · exact (k50_Lw_ofColour_1_62 (h.ki r1)).mono (fun x hx => hx.kr hR)
    exact ((step_ofColour (n := n) hC hM hP).seq k (fun r hr => (pr_Md_ofColour (CM_IM r.2) (IM_0 hr.1 hr.2)).mono (fun x hx => hx.2.1))).mono (fun r hr => hr.mono (fun s hs => ⟨hs.1.1, hs.1.2.1, h.ask hs.1.2.2 hs.2⟩))
  · intro a b c
    have k : Pr (F_Lw_thin n 1 a b c 62 σ) (fun r => KR r.2) := by
      rcases hp with rfl | rfl
      · exact (k38_Lw_thin_1_62 (h.ki r1)).mono (fun x hx => hx.kr hR)
      · exact (k50_Lw_thin_1_62 (h.ki r1)).mono (fun x hx => hx.kr hR)
    refine ((step_thin (n := n) hC hM hP).seq k (fun r hr => (pr_Md_thin (CM_IM r.2) (IM_0 hr.1 hr.2)).mono (fun x hx => hx.2.1))).mono (fun r hr => hr.mono ?_)
    rintro s ⟨⟨e1, e0, e2, p', hp', e3⟩, e4⟩
    exact ⟨e1, e0, h.pic hp' e3 e2 e4⟩
  · intro a
    have k : Pr (F_Lw_ofThin n 1 a 62 σ) (fun r => KR r.2) := by
      rcases hp with rfl | rfl
      · exact (k38_Lw_ofThin_1_62 (h.ki r1)).mono (fun x hx => hx.kr hR)
      · exact (k50_Lw_ofThin_1_62 (h.ki r1)).mono (fun x hx => hx.kr hR)
    exact ((step_ofThin (n := n) hC hM hP).seq k (fun r hr => (pr_Md_ofThin (CM_IM r.2) (IM_0 hr.1 hr.2)).mono (fun x hx => hx.2.1))).mono (fun r hr => hr.mono (fun s hs => ⟨hs.1.1, hs.1.2.1, h.ask hs.1.2.2 hs.2⟩))
  · intro a
    have k : Pr (F_Lw_filter n 1 a 62 σ) (fun r => KR r.2) := by
      rcases hp with rfl | rfl
      · exact (k38_Lw_filter_1_62 (h.ki r1)).mono (fun x hx => hx.kr hR)
      · exact (k50_Lw_filter_1_62 (h.ki r1)).mono (fun x hx => hx.kr hR)
    exact ((step_filter (n := n) (by omega) hC hM hP).seq k (fun r hr => (pr_Md_filter (CM_IM r.2) (IM_0 hr.1 hr.2)).mono (fun x hx => hx.2.1))).mono (fun r hr => hr.mono (fun s hs => ⟨hs.1.1, hs.1.2.1, h.ask hs.1.2.2 hs.2⟩))
  · intro a ha
    exact (step_write (n := n) (by omega) ha hC hM hS hTu hR hT hP).mono (fun r hr => hr.mono (fun s hs => ⟨hs.1, hs.2.1, h.wri hs.2.2.2.2 hs.2.2.1 hs.2.2.2.1⟩))
  · intro a
    exact (step_byteAt hC hM hT).mono (fun r hr => hr.mono (fun s hs => ⟨hs.1, hs.2.1, h.tape hs.2.2.2.2.2 hs.2.2.2.1 hs.2.2.2.2.1 hs.2.2.1⟩))
  · intro a b
    exact (step_spoil hC hM hT).mono (fun r hr => hr.mono (fun s hs => ⟨hs.1, h.tape hs.2.2.2.2 hs.2.2.1 hs.2.2.2.1 hs.2.1⟩))
  · intro a b
    exact (step_mend (n := n) (by omega) hC hM hTu hT).mono (fun r hr => hr.mono (fun s hs => ⟨hs.1, h.tape hs.2.2.2.2 hs.2.2.1 hs.2.2.2.1 hs.2.1⟩))
