set_option maxHeartbeats 2000000 in
theorem b_X10_isMonth_0 {x : Int32} {X : Nat × (Nat → Int32)} {S : zS} {L : zL} {P : Int32 → zS → zL → Prop} (h : ∀ y1 : Int32, y1 = (if ((0 : Int32) ≤ x ∧ x ≤ (23 : Int32)) then (1 : Int32) else 0) → (narrow .boolean (.int y1) = .int y1 ∧ P y1 S L)) : zU mX10_isMonth X S L 0 [some (.int x)] [] (zpi P) := by
  refine zi_iload_n dX10_isMonth_0 rfl rfl ?_
  refine zi_iconst (v := 0) dX10_isMonth_1 (by decide) ?_
  refine zi_bipush (v := 23) dX10_isMonth_2 (by decide) ?_
  refine zt_Si (As := [.int x, .int (0 : Int32), .int (23 : Int32)]) dX10_isMonth_4 lk_X10_90 ⟨⟨by decide, by decide⟩, rfl, rfl⟩ rfl ⟨Nat.le_of_ble_eq_true rfl, rfl, rfl⟩ (within_s (P := fun y S9 L9 => y = (if ((0 : Int32) ≤ x ∧ x ≤ (23 : Int32)) then (1 : Int32) else 0) ∧ S = S9 ∧ L = L9) ⟨rfl, rfl, rfl⟩) (fun y1 S9 L9 q9 => ?_)
  obtain ⟨ey1, rfl, rfl⟩ := q9
  replace h := h y1 ey1
  exact zt_zret (ty := .boolean) dX10_isMonth_7 rfl h.1 h.2
theorem e_X10_isMonth {x : Int32} {S : zS} {L : zL} {P : Int32 → zS → zL → Prop} (h : ∀ X, zU mX10_isMonth X S L 0 [some (.int x)] [] (zpi P)) : zCi mX10_isMonth S L [.int x] P := zCi_of pn_X10_isMonth (Nat.le_of_ble_eq_true rfl) (fun X => zt_pad (j := 0) rfl (h X))
set_option maxHeartbeats 2000000 in
theorem b_X10_isCounty_0 {x : Int32} {X : Nat × (Nat → Int32)} {S : zS} {L : zL} {P : Int32 → zS → zL → Prop} (h : ∀ y1 : Int32, y1 = (if ((0 : Int32) ≤ x ∧ x ≤ (3 : Int32)) then (1 : Int32) else 0) → (narrow .boolean (.int y1) = .int y1 ∧ P y1 S L)) : zU mX10_isCounty X S L 0 [some (.int x)] [] (zpi P) := by
  refine zi_iload_n dX10_isCounty_0 rfl rfl ?_
  refine zi_iconst (v := 0) dX10_isCounty_1 (by decide) ?_
  refine zi_iconst (v := 3) dX10_isCounty_2 (by decide) ?_
  refine zt_Si (As := [.int x, .int (0 : Int32), .int (3 : Int32)]) dX10_isCounty_3 lk_X10_90 ⟨⟨by decide, by decide⟩, rfl, rfl⟩ rfl ⟨Nat.le_of_ble_eq_true rfl, rfl, rfl⟩ (within_s (P := fun y S9 L9 => y = (if ((0 : Int32) ≤ x ∧ x ≤ (3 : Int32)) then (1 : Int32) else 0) ∧ S = S9 ∧ L = L9) ⟨rfl, rfl, rfl⟩) (fun y1 S9 L9 q9 => ?_)
  obtain ⟨ey1, rfl, rfl⟩ := q9
  replace h := h y1 ey1
  exact zt_zret (ty := .boolean) dX10_isCounty_6 rfl h.1 h.2
theorem e_X10_isCounty {x : Int32} {S : zS} {L : zL} {P : Int32 → zS → zL → Prop} (h : ∀ X, zU mX10_isCounty X S L 0 [some (.int x)] [] (zpi P)) : zCi mX10_isCounty S L [.int x] P := zCi_of pn_X10_isCounty (Nat.le_of_ble_eq_true rfl) (fun X => zt_pad (j := 0) rfl (h X))
set_option maxHeartbeats 2000000 in
theorem b_X10_isSheet_0 {x : Int32} {X : Nat × (Nat → Int32)} {S : zS} {L : zL} {P : Int32 → zS → zL → Prop} (h : ∀ y1 : Int32, y1 = (if ((0 : Int32) ≤ x ∧ x ≤ (3 : Int32)) then (1 : Int32) else 0) → (narrow .boolean (.int y1) = .int y1 ∧ P y1 S L)) : zU mX10_isSheet X S L 0 [some (.int x)] [] (zpi P) := by
  refine zi_iload_n dX10_isSheet_0 rfl rfl ?_
  refine zi_iconst (v := 0) dX10_isSheet_1 (by decide) ?_
  refine zi_iconst (v := 3) dX10_isSheet_2 (by decide) ?_
  refine zt_Si (As := [.int x, .int (0 : Int32), .int (3 : Int32)]) dX10_isSheet_3 lk_X10_90 ⟨⟨by decide, by decide⟩, rfl, rfl⟩ rfl ⟨Nat.le_of_ble_eq_true rfl, rfl, rfl⟩ (within_s (P := fun y S9 L9 => y = (if ((0 : Int32) ≤ x ∧ x ≤ (3 : Int32)) then (1 : Int32) else 0) ∧ S = S9 ∧ L = L9) ⟨rfl, rfl, rfl⟩) (fun y1 S9 L9 q9 => ?_)
  obtain ⟨ey1, rfl, rfl⟩ := q9
  replace h := h y1 ey1
  exact zt_zret (ty := .boolean) dX10_isSheet_6 rfl h.1 h.2
theorem e_X10_isSheet {x : Int32} {S : zS} {L : zL} {P : Int32 → zS → zL → Prop} (h : ∀ X, zU mX10_isSheet X S L 0 [some (.int x)] [] (zpi P)) : zCi mX10_isSheet S L [.int x] P := zCi_of pn_X10_isSheet (Nat.le_of_ble_eq_true rfl) (fun X => zt_pad (j := 0) rfl (h X))
set_option maxHeartbeats 2000000 in
theorem b_X10_isPerson_0 {x : Int32} {X : Nat × (Nat → Int32)} {S : zS} {L : zL} {P : Int32 → zS → zL → Prop} (h : ∀ y1 : Int32, y1 = (if ((0 : Int32) ≤ x ∧ x ≤ ((S 6 3) - (1 : Int32))) then (1 : Int32) else 0) → (narrow .boolean (.int y1) = .int y1 ∧ P y1 S L)) : zU mX10_isPerson X S L 0 [some (.ref 0), some (.int x)] [] (zpi P) := by
  refine zi_iload_n dX10_isPerson_0 rfl rfl ?_
  refine zi_iconst (v := 0) dX10_isPerson_1 (by decide) ?_
  refine zi_aload_n dX10_isPerson_2 rfl rfl ?_
  refine zi_getr fl_X10_36 sk0 rfl dX10_isPerson_3 ?_
  refine zi_getr fl_X10_117 sk5 rfl dX10_isPerson_6 ?_
  refine zi_geti fl_X10_151 sk6 rfl dX10_isPerson_9 ?_
  refine zi_iconst (v := 1) dX10_isPerson_12 (by decide) ?_
  refine zi_isub dX10_isPerson_13 ?_
  refine zt_Si (As := [.int x, .int (0 : Int32), .int ((S 6 3) - (1 : Int32))]) dX10_isPerson_14 lk_X10_90 ⟨⟨by decide, by decide⟩, rfl, rfl⟩ rfl ⟨Nat.le_of_ble_eq_true rfl, rfl, rfl⟩ (within_s (P := fun y S9 L9 => y = (if ((0 : Int32) ≤ x ∧ x ≤ ((S 6 3) - (1 : Int32))) then (1 : Int32) else 0) ∧ S = S9 ∧ L = L9) ⟨rfl, rfl, rfl⟩) (fun y1 S9 L9 q9 => ?_)
  obtain ⟨ey1, rfl, rfl⟩ := q9
  replace h := h y1 ey1
  exact zt_zret (ty := .boolean) dX10_isPerson_17 rfl h.1 h.2
theorem e_X10_isPerson {x : Int32} {S : zS} {L : zL} {P : Int32 → zS → zL → Prop} (h : ∀ X, zU mX10_isPerson X S L 0 [some (.ref 0), some (.int x)] [] (zpi P)) : zCi mX10_isPerson S L [.ref 0, .int x] P := zCi_of pn_X10_isPerson (Nat.le_of_ble_eq_true rfl) (fun X => zt_pad (j := 0) rfl (h X))
set_option maxHeartbeats 2000000 in
theorem b_X10_isDeed_0 {x : Int32} {X : Nat × (Nat → Int32)} {S : zS} {L : zL} {P : Int32 → zS → zL → Prop} (h : ∀ y1 : Int32, y1 = (if ((0 : Int32) ≤ x ∧ x ≤ ((S 10 3) - (1 : Int32))) then (1 : Int32) else 0) → (narrow .boolean (.int y1) = .int y1 ∧ P y1 S L)) : zU mX10_isDeed X S L 0 [some (.ref 0), some (.int x)] [] (zpi P) := by
  refine zi_iload_n dX10_isDeed_0 rfl rfl ?_
  refine zi_iconst (v := 0) dX10_isDeed_1 (by decide) ?_
  refine zi_aload_n dX10_isDeed_2 rfl rfl ?_
  refine zi_getr fl_X10_36 sk0 rfl dX10_isDeed_3 ?_
  refine zi_getr fl_X10_130 sk5 rfl dX10_isDeed_6 ?_
  refine zi_geti fl_X10_151 sk10 rfl dX10_isDeed_9 ?_
  refine zi_iconst (v := 1) dX10_isDeed_12 (by decide) ?_
  refine zi_isub dX10_isDeed_13 ?_
  refine zt_Si (As := [.int x, .int (0 : Int32), .int ((S 10 3) - (1 : Int32))]) dX10_isDeed_14 lk_X10_90 ⟨⟨by decide, by decide⟩, rfl, rfl⟩ rfl ⟨Nat.le_of_ble_eq_true rfl, rfl, rfl⟩ (within_s (P := fun y S9 L9 => y = (if ((0 : Int32) ≤ x ∧ x ≤ ((S 10 3) - (1 : Int32))) then (1 : Int32) else 0) ∧ S = S9 ∧ L = L9) ⟨rfl, rfl, rfl⟩) (fun y1 S9 L9 q9 => ?_)
  obtain ⟨ey1, rfl, rfl⟩ := q9
  replace h := h y1 ey1
  exact zt_zret (ty := .boolean) dX10_isDeed_17 rfl h.1 h.2
theorem e_X10_isDeed {x : Int32} {S : zS} {L : zL} {P : Int32 → zS → zL → Prop} (h : ∀ X, zU mX10_isDeed X S L 0 [some (.ref 0), some (.int x)] [] (zpi P)) : zCi mX10_isDeed S L [.ref 0, .int x] P := zCi_of pn_X10_isDeed (Nat.le_of_ble_eq_true rfl) (fun X => zt_pad (j := 0) rfl (h X))
set_option maxHeartbeats 2000000 in
theorem b_X7_signsAt_1_0 {place : Int32} {X : Nat × (Nat → Int32)} {S : zS} {L : zL} {P : Nat → zS → zL → Prop} (h : ((place = 0 → P 1000 S L) ∧ (place = 1 → P 1001 S L) ∧ (place = 2 → P 1002 S L) ∧ (¬ place = 0 → ¬ place = 1 → ¬ place = 2 → P 1006 S L))) : zU mX7_signsAt X S L 0 [some (.ref 1), some (.int place)] [] (zpr P) := by
  refine zi_iload_n dX7_signsAt_0 rfl rfl ?_
  by_cases q0 : place = 0
  · replace h := h.1 q0
    refine zi_tableIn (off := 27) (tgt := 28) dX7_signsAt_1 (by rw [q0]; decide) (by rw [q0]; decide) (by rw [q0]; rfl) (by decide) ?_
    refine zi_aload_n dX7_signsAt_28 rfl rfl ?_
    refine zi_getr fl_X7_25 sk1 rfl dX7_signsAt_29 ?_
    exact zt_aret dX7_signsAt_32 rfl h
  replace h := h.2
  by_cases q1 : place = 1
  · replace h := h.1 q1
    refine zi_tableIn (off := 32) (tgt := 33) dX7_signsAt_1 (by rw [q1]; decide) (by rw [q1]; decide) (by rw [q1]; rfl) (by decide) ?_
    refine zi_aload_n dX7_signsAt_33 rfl rfl ?_
    refine zi_getr fl_X7_29 sk1 rfl dX7_signsAt_34 ?_
    exact zt_aret dX7_signsAt_37 rfl h
  replace h := h.2
  by_cases q2 : place = 2
  · replace h := h.1 q2
    refine zi_tableIn (off := 37) (tgt := 38) dX7_signsAt_1 (by rw [q2]; decide) (by rw [q2]; decide) (by rw [q2]; rfl) (by decide) ?_
    refine zi_aload_n dX7_signsAt_38 rfl rfl ?_
    refine zi_getr fl_X7_32 sk1 rfl dX7_signsAt_39 ?_
    exact zt_aret dX7_signsAt_42 rfl h
  replace h := h.2
  replace h := h q0 q1 q2
  have q0t := lv_neT q0 (show (0 : Int32).toInt = 0 by decide)
  have q1t := lv_neT q1 (show (1 : Int32).toInt = 1 by decide)
  have q2t := lv_neT q2 (show (2 : Int32).toInt = 2 by decide)
  refine zi_tableOut (tgt := 43) dX7_signsAt_1 (by omega) (by decide) ?_
  refine zi_ldcS (j := 6) (by decide) ⟨rfl, rfl⟩ dX7_signsAt_43 ?_
  exact zt_aret dX7_signsAt_45 rfl h
theorem e_X7_signsAt_1 {place : Int32} {S : zS} {L : zL} {P : Nat → zS → zL → Prop} (h : ∀ X, zU mX7_signsAt X S L 0 [some (.ref 1), some (.int place)] [] (zpr P)) : zCr mX7_signsAt S L [.ref 1, .int place] P := zCr_of pn_X7_signsAt (Nat.le_of_ble_eq_true rfl) (fun X => zt_pad (j := 0) rfl (h X))
set_option maxHeartbeats 2000000 in
theorem b_X7_signsAt_3_0 {place : Int32} {X : Nat × (Nat → Int32)} {S : zS} {L : zL} {P : Nat → zS → zL → Prop} (h : ((place = 0 → P 1003 S L) ∧ (place = 1 → P 1004 S L) ∧ (place = 2 → P 1005 S L) ∧ (¬ place = 0 → ¬ place = 1 → ¬ place = 2 → P 1006 S L))) : zU mX7_signsAt X S L 0 [some (.ref 3), some (.int place)] [] (zpr P) := by
  refine zi_iload_n dX7_signsAt_0 rfl rfl ?_
  by_cases q0 : place = 0
  · replace h := h.1 q0
    refine zi_tableIn (off := 27) (tgt := 28) dX7_signsAt_1 (by rw [q0]; decide) (by rw [q0]; decide) (by rw [q0]; rfl) (by decide) ?_
    refine zi_aload_n dX7_signsAt_28 rfl rfl ?_
    refine zi_getr fl_X7_25 sk3 rfl dX7_signsAt_29 ?_
    exact zt_aret dX7_signsAt_32 rfl h
  replace h := h.2
  by_cases q1 : place = 1
  · replace h := h.1 q1
    refine zi_tableIn (off := 32) (tgt := 33) dX7_signsAt_1 (by rw [q1]; decide) (by rw [q1]; decide) (by rw [q1]; rfl) (by decide) ?_
    refine zi_aload_n dX7_signsAt_33 rfl rfl ?_
    refine zi_getr fl_X7_29 sk3 rfl dX7_signsAt_34 ?_
    exact zt_aret dX7_signsAt_37 rfl h
  replace h := h.2
  by_cases q2 : place = 2
  · replace h := h.1 q2
    refine zi_tableIn (off := 37) (tgt := 38) dX7_signsAt_1 (by rw [q2]; decide) (by rw [q2]; decide) (by rw [q2]; rfl) (by decide) ?_
    refine zi_aload_n dX7_signsAt_38 rfl rfl ?_
    refine zi_getr fl_X7_32 sk3 rfl dX7_signsAt_39 ?_
    exact zt_aret dX7_signsAt_42 rfl h
  replace h := h.2
  replace h := h q0 q1 q2
  have q0t := lv_neT q0 (show (0 : Int32).toInt = 0 by decide)
  have q1t := lv_neT q1 (show (1 : Int32).toInt = 1 by decide)
  have q2t := lv_neT q2 (show (2 : Int32).toInt = 2 by decide)
  refine zi_tableOut (tgt := 43) dX7_signsAt_1 (by omega) (by decide) ?_
  refine zi_ldcS (j := 6) (by decide) ⟨rfl, rfl⟩ dX7_signsAt_43 ?_
  exact zt_aret dX7_signsAt_45 rfl h
theorem e_X7_signsAt_3 {place : Int32} {S : zS} {L : zL} {P : Nat → zS → zL → Prop} (h : ∀ X, zU mX7_signsAt X S L 0 [some (.ref 3), some (.int place)] [] (zpr P)) : zCr mX7_signsAt S L [.ref 3, .int place] P := zCr_of pn_X7_signsAt (Nat.le_of_ble_eq_true rfl) (fun X => zt_pad (j := 0) rfl (h X))
