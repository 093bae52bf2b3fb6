theorem indexOf_s {i : Nat} (hi : i < zSn) {n : Nat} (hn : n < 256) {S : zS} {L : zL} {P : Int32 → zS → zL → Prop} (h : P (pIx i (nI n)) S L) : zCi mJ0_indexOf_0f7a4 S L [.ref (1000 + i), .int (nI n)] P :=
  e_J0_indexOf_0f7a4 (fun X => b_J0_indexOf_0f7a4_0 hi (e_J0_indexOf_7cf53 (fun X => b_J0_indexOf_7cf53_0 hi (fun y2 e2 => by rw [e2]; exact ix1_s hi hn h))))
theorem signsAt1_s {x : Int32} {S : zS} {L : zL} {P : Nat → zS → zL → Prop} (h : P (if x = 0 then 1000 else if x = 1 then 1001 else if x = 2 then 1002 else 1006) S L) : zCr mX7_signsAt S L [.ref 1, .int x] P := by
  refine e_X7_signsAt_1 (fun X => b_X7_signsAt_1_0 ⟨fun q => ?_, fun q => ?_, fun q => ?_, fun q0 q1 q2 => ?_⟩)
  · rw [if_pos q] at h; exact h
  · rw [if_neg (by rw [q]; decide), if_pos q] at h; exact h
  · rw [if_neg (by rw [q]; decide), if_neg (by rw [q]; decide), if_pos q] at h; exact h
  · rw [if_neg q0, if_neg q1, if_neg q2] at h; exact h
theorem signsAt3_s {x : Int32} {S : zS} {L : zL} {P : Nat → zS → zL → Prop} (h : P (if x = 0 then 1003 else if x = 1 then 1004 else if x = 2 then 1005 else 1006) S L) : zCr mX7_signsAt S L [.ref 3, .int x] P := by
  refine e_X7_signsAt_3 (fun X => b_X7_signsAt_3_0 ⟨fun q => ?_, fun q => ?_, fun q => ?_, fun q0 q1 q2 => ?_⟩)
  · rw [if_pos q] at h; exact h
  · rw [if_neg (by rw [q]; decide), if_pos q] at h; exact h
  · rw [if_neg (by rw [q]; decide), if_neg (by rw [q]; decide), if_pos q] at h; exact h
  · rw [if_neg q0, if_neg q1, if_neg q2] at h; exact h
theorem xMonth_s {x : Int32} {S : zS} {L : zL} {P : Int32 → zS → zL → Prop} (h : P (if (0 : Int32) ≤ x ∧ x ≤ (23 : Int32) then 1 else 0) S L) : zCi mX10_isMonth S L [.int x] P := e_X10_isMonth (fun X => b_X10_isMonth_0 (fun y e => by subst e; exact ⟨nar_if, h⟩))
theorem xCounty_s {x : Int32} {S : zS} {L : zL} {P : Int32 → zS → zL → Prop} (h : P (if (0 : Int32) ≤ x ∧ x ≤ (3 : Int32) then 1 else 0) S L) : zCi mX10_isCounty S L [.int x] P := e_X10_isCounty (fun X => b_X10_isCounty_0 (fun y e => by subst e; exact ⟨nar_if, h⟩))
theorem xSheet_s {x : Int32} {S : zS} {L : zL} {P : Int32 → zS → zL → Prop} (h : P (if (0 : Int32) ≤ x ∧ x ≤ (3 : Int32) then 1 else 0) S L) : zCi mX10_isSheet S L [.int x] P := e_X10_isSheet (fun X => b_X10_isSheet_0 (fun y e => by subst e; exact ⟨nar_if, h⟩))
theorem xPerson_s {x : Int32} {S : zS} {L : zL} {P : Int32 → zS → zL → Prop} (h : P (if (0 : Int32) ≤ x ∧ x ≤ (S 6 3) - (1 : Int32) then 1 else 0) S L) : zCi mX10_isPerson S L [.ref 0, .int x] P := e_X10_isPerson (fun X => b_X10_isPerson_0 (fun y e => by subst e; exact ⟨nar_if, h⟩))
theorem xDeed_s {x : Int32} {S : zS} {L : zL} {P : Int32 → zS → zL → Prop} (h : P (if (0 : Int32) ≤ x ∧ x ≤ (S 10 3) - (1 : Int32) then 1 else 0) S L) : zCi mX10_isDeed S L [.ref 0, .int x] P := e_X10_isDeed (fun X => b_X10_isDeed_0 (fun y e => by subst e; exact ⟨nar_if, h⟩))
