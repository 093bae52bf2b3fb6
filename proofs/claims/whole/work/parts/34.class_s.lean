theorem within_s {v lo hi : Int32} {S : zS} {L : zL} {P : Int32 → zS → zL → Prop} (h : P (if lo ≤ v ∧ v ≤ hi then 1 else 0) S L) : zCi mX10_within S L [.int v, .int lo, .int hi] P := by
  refine e_X10_within (fun X => b_X10_within_0 ⟨fun q => ?_, fun q1 => ⟨fun q => ?_, fun q2 => ?_⟩⟩)
  · rw [if_neg (fun z => i32_nlt z.1 q)] at h; exact h
  · rw [if_neg (fun z => i32_nlt z.2 q)] at h; exact h
  · rw [if_pos ⟨i32_le q1, i32_le q2⟩] at h; exact h
theorem textOf_s {x : Int32} {S : zS} {L : zL} {P : Nat → zS → zL → Prop} (h : P (if x = 0 then 1 else 3) S L) : zCr mX10_textOf S L [.ref 0, .int x] P := by
  refine e_X10_textOf (fun X => b_X10_textOf_0 ⟨fun q => ?_, fun q => ?_⟩)
  · rw [if_neg q] at h; exact h
  · rw [if_pos q] at h; exact h
