theorem in_s {v lo hi : Int32} {S : zS} {L : zL} {P : Int32 → zS → zL → Prop} (h : P (if lo ≤ v ∧ v ≤ hi then 1 else 0) S L) : zCi mX11_in S L [.int v, .int lo, .int hi] P := by
  refine e_X11_in (fun X => b_X11_in_0 ⟨fun q => ?_, fun q1 => ⟨fun q => ?_, fun q2 => ?_⟩⟩)
  · rw [if_neg (fun z => i32_nlt z.1 q)] at h; exact h
  · rw [if_neg (fun z => i32_nlt z.2 q)] at h; exact h
  · rw [if_pos ⟨i32_le q1, i32_le q2⟩] at h; exact h
theorem isIn_s {b k : Int32} {S : zS} {L : zL} {P : Int32 → zS → zL → Prop} (h : P (if (b >>> (k &&& 31)) &&& 1 = 1 then 1 else 0) S L) : zCi mX11_isIn S L [.int b, .int k] P := by
  refine e_X11_isIn (fun X => b_X11_isIn_0 ⟨fun q => ?_, fun q => ?_⟩)
  · rw [if_neg q] at h; exact h
  · rw [if_pos q] at h; exact h
theorem weightOf_s {w : Int32} {S : zS} {L : zL} {P : Int32 → zS → zL → Prop} (h : P (pWt w) S L) : zCi mX11_weightOf S L [.int w] P := by
  unfold pWt at h
  refine e_X11_weightOf (fun X => b_X11_weightOf_0 ⟨fun q0 => ⟨fun q1 => ⟨fun q2 => ?_, fun q2 => ?_⟩, fun q1 => ?_⟩, fun q0 => ?_⟩)
  · rw [if_neg q0, if_neg q1, if_neg q2] at h; exact h
  · rw [if_neg q0, if_neg q1, if_pos q2] at h; exact h
  · rw [if_neg q0, if_pos q1] at h; exact h
  · rw [if_pos q0] at h; exact h
theorem nar_if {c : Prop} [Decidable c] : narrow .boolean (.int (if c then 1 else 0)) = .int (if c then 1 else 0) := by split <;> rfl
