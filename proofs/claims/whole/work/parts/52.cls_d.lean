set_option maxHeartbeats 2000000 in
theorem b_X10_wool_0 {month : Int32} {p : Int32} {what : Int32} {X : Nat × (Nat → Int32)} {S : zS} {L : zL} {P : Int32 → zS → zL → Prop} (h : ((((0 : Int32) ≤ month ∧ month ≤ (23 : Int32)) → ((((0 : Int32) ≤ p ∧ p ≤ (S 6 3) - (1 : Int32)) → ((((0 : Int32) ≤ what ∧ what ≤ (2 : Int32)) → zCv mX10_settle S L [.ref 0] (fun S1 L1 => ((¬ what = 0 → ((¬ what = (1 : Int32) → zCi mX2_behind S1 L1 [.ref 26, .int month, .int ((16 : Int32) + p)] (fun y5 S2 L2 => P y5 S2 L2)) ∧ (what = (1 : Int32) → zCi mX2_behind S1 L1 [.ref 26, .int month, .int ((8 : Int32) + p)] (fun y5 S2 L2 => P y5 S2 L2)))) ∧ (what = 0 → zCi mX2_behind S1 L1 [.ref 26, .int month, .int ((0 : Int32) + p)] (fun y5 S2 L2 => P y5 S2 L2))))) ∧ (¬ ((0 : Int32) ≤ what ∧ what ≤ (2 : Int32)) → P (-2 : Int32) S L))) ∧ (¬ ((0 : Int32) ≤ p ∧ p ≤ (S 6 3) - (1 : Int32)) → P (-2 : Int32) S L))) ∧ (¬ ((0 : Int32) ≤ month ∧ month ≤ (23 : Int32)) → P (-2 : Int32) S L))) : zU mX10_wool X S L 0 [some (.ref 0), some (.int month), some (.int p), some (.int what)] [] (zpi P) := by
  refine zi_iload_n dX10_wool_0 rfl rfl ?_
  refine zt_Si (As := [.int month]) dX10_wool_1 lk_X10_142 ⟨⟨by decide, by decide⟩, rfl, rfl⟩ rfl ⟨Nat.le_of_ble_eq_true rfl, rfl, rfl⟩ (xMonth_s (P := fun y S9 L9 => y = (if ((0 : Int32) ≤ month ∧ month ≤ (23 : Int32)) then (1 : Int32) else 0) ∧ S = S9 ∧ L = L9) ⟨rfl, rfl, rfl⟩) (fun y1 S9 L9 q9 => ?_)
  obtain ⟨ey1, rfl, rfl⟩ := q9
  by_cases q9 : ((0 : Int32) ≤ month ∧ month ≤ (23 : Int32))
  · replace h := h.1 q9
    rw [if_pos q9] at ey1
    subst ey1
    refine zi_if_eq (tgt := 24) dX10_wool_4 (by decide) (fun z9 => absurd z9 (by decide)) (fun _ => ?_)
    refine zi_aload_n dX10_wool_7 rfl rfl ?_
    refine zi_iload_n dX10_wool_8 rfl rfl ?_
    refine zt_Vi (As := [.int p]) dX10_wool_9 lk_X10_113 sk0 rfl ⟨⟨by decide, by decide⟩, rfl, rfl⟩ rfl ⟨Nat.le_of_ble_eq_true rfl, rfl, rfl⟩ (xPerson_s (P := fun y S9 L9 => y = (if ((0 : Int32) ≤ p ∧ p ≤ (S 6 3) - (1 : Int32)) then (1 : Int32) else 0) ∧ S = S9 ∧ L = L9) ⟨rfl, rfl, rfl⟩) (fun y2 S9 L9 q9 => ?_)
    obtain ⟨ey2, rfl, rfl⟩ := q9
    by_cases q9 : ((0 : Int32) ≤ p ∧ p ≤ (S 6 3) - (1 : Int32))
    · replace h := h.1 q9
      rw [if_pos q9] at ey2
      subst ey2
      refine zi_if_eq (tgt := 24) dX10_wool_12 (by decide) (fun z9 => absurd z9 (by decide)) (fun _ => ?_)
      refine zi_iload_n dX10_wool_15 rfl rfl ?_
      refine zi_iconst (v := 0) dX10_wool_16 (by decide) ?_
      refine zi_iconst (v := 2) dX10_wool_17 (by decide) ?_
      refine zt_Si (As := [.int what, .int (0 : Int32), .int (2 : Int32)]) dX10_wool_18 lk_X10_90 ⟨⟨by decide, by decide⟩, rfl, rfl⟩ rfl ⟨Nat.le_of_ble_eq_true rfl, rfl, rfl⟩ (within_s (P := fun y S9 L9 => y = (if ((0 : Int32) ≤ what ∧ what ≤ (2 : Int32)) then (1 : Int32) else 0) ∧ S = S9 ∧ L = L9) ⟨rfl, rfl, rfl⟩) (fun y3 S9 L9 q9 => ?_)
      obtain ⟨ey3, rfl, rfl⟩ := q9
      by_cases q9 : ((0 : Int32) ≤ what ∧ what ≤ (2 : Int32))
      · replace h := h.1 q9
        rw [if_pos q9] at ey3
        subst ey3
        refine zi_if_ne (tgt := 27) dX10_wool_21 (by decide) (fun _ => ?_) (fun z9 => absurd z9 (by decide))
        refine zi_aload_n dX10_wool_27 rfl rfl ?_
        refine zt_Vv (As := []) dX10_wool_28 lk_X10_180 sk0 rfl ⟨⟨by decide, by decide⟩, rfl, rfl⟩ rfl ⟨Nat.le_of_ble_eq_true rfl, rfl, rfl⟩ h (fun S1 L1 h => ?_)
        refine zi_aload_n dX10_wool_31 rfl rfl ?_
        refine zi_getr fl_X10_45 sk0 rfl dX10_wool_32 ?_
        refine zi_iload_n dX10_wool_35 rfl rfl ?_
        refine zi_iload_n dX10_wool_36 rfl rfl ?_
        refine zi_if_ne (tgt := 44) dX10_wool_37 (by decide) (fun q9 => ?_) (fun q9 => ?_)
        · replace h := h.1 q9
          refine zi_iload_n dX10_wool_44 rfl rfl ?_
          refine zi_iconst (v := 1) dX10_wool_45 (by decide) ?_
          refine zi_icmp_ne (tgt := 54) dX10_wool_46 (by decide) (fun q9 => ?_) (fun q9 => ?_)
          · replace h := h.1 q9
            refine zi_bipush (v := 16) dX10_wool_54 (by decide) ?_
            refine zi_iload_n dX10_wool_56 rfl rfl ?_
            refine zi_iadd dX10_wool_57 ?_
            refine zt_Vi (As := [.int month, .int ((16 : Int32) + p)]) dX10_wool_58 lk_X10_183 sk26 rfl ⟨⟨by decide, by decide⟩, rfl, rfl⟩ rfl ⟨Nat.le_of_ble_eq_true rfl, rfl, rfl⟩ h (fun y5 S2 L2 h => ?_)
            exact zt_iret dX10_wool_61 rfl h
          · replace h := h.2 q9
            refine zi_bipush (v := 8) dX10_wool_49 (by decide) ?_
            refine zi_goto (tgt := 56) dX10_wool_51 (by decide) ?_
            refine zi_iload_n dX10_wool_56 rfl rfl ?_
            refine zi_iadd dX10_wool_57 ?_
            refine zt_Vi (As := [.int month, .int ((8 : Int32) + p)]) dX10_wool_58 lk_X10_183 sk26 rfl ⟨⟨by decide, by decide⟩, rfl, rfl⟩ rfl ⟨Nat.le_of_ble_eq_true rfl, rfl, rfl⟩ h (fun y5 S2 L2 h => ?_)
            exact zt_iret dX10_wool_61 rfl h
        · replace h := h.2 q9
          refine zi_iconst (v := 0) dX10_wool_40 (by decide) ?_
          refine zi_goto (tgt := 56) dX10_wool_41 (by decide) ?_
          refine zi_iload_n dX10_wool_56 rfl rfl ?_
          refine zi_iadd dX10_wool_57 ?_
          refine zt_Vi (As := [.int month, .int ((0 : Int32) + p)]) dX10_wool_58 lk_X10_183 sk26 rfl ⟨⟨by decide, by decide⟩, rfl, rfl⟩ rfl ⟨Nat.le_of_ble_eq_true rfl, rfl, rfl⟩ h (fun y5 S2 L2 h => ?_)
          exact zt_iret dX10_wool_61 rfl h
      · replace h := h.2 q9
        rw [if_neg q9] at ey3
        subst ey3
        refine zi_if_ne (tgt := 27) dX10_wool_21 (by decide) (fun z9 => absurd rfl z9) (fun _ => ?_)
        refine zi_bipush (v := -2) dX10_wool_24 (by decide) ?_
        exact zt_iret dX10_wool_26 rfl h
    · replace h := h.2 q9
      rw [if_neg q9] at ey2
      subst ey2
      refine zi_if_eq (tgt := 24) dX10_wool_12 (by decide) (fun _ => ?_) (fun z9 => absurd rfl z9)
      refine zi_bipush (v := -2) dX10_wool_24 (by decide) ?_
      exact zt_iret dX10_wool_26 rfl h
  · replace h := h.2 q9
    rw [if_neg q9] at ey1
    subst ey1
    refine zi_if_eq (tgt := 24) dX10_wool_4 (by decide) (fun _ => ?_) (fun z9 => absurd rfl z9)
    refine zi_bipush (v := -2) dX10_wool_24 (by decide) ?_
    exact zt_iret dX10_wool_26 rfl h
theorem e_X10_wool {month : Int32} {p : Int32} {what : Int32} {S : zS} {L : zL} {P : Int32 → zS → zL → Prop} (h : ∀ X, zU mX10_wool X S L 0 [some (.ref 0), some (.int month), some (.int p), some (.int what)] [] (zpi P)) : zCi mX10_wool S L [.ref 0, .int month, .int p, .int what] P := zCi_of pn_X10_wool (Nat.le_of_ble_eq_true rfl) (fun X => zt_pad (j := 0) rfl (h X))
set_option maxHeartbeats 2000000 in
theorem b_X10_dies_0 {p : Int32} {X : Nat × (Nat → Int32)} {S : zS} {L : zL} {P : Int32 → zS → zL → Prop} (h : ((((0 : Int32) ≤ p ∧ p ≤ (S 6 3) - (1 : Int32)) → zCv mX10_settle S L [.ref 0] (fun S1 L1 => zCi mX2_deathOf S1 L1 [.ref 26, .int p] (fun y3 S2 L2 => P y3 S2 L2))) ∧ (¬ ((0 : Int32) ≤ p ∧ p ≤ (S 6 3) - (1 : Int32)) → P (-2 : Int32) S L))) : zU mX10_dies X S L 0 [some (.ref 0), some (.int p)] [] (zpi P) := by
  refine zi_aload_n dX10_dies_0 rfl rfl ?_
  refine zi_iload_n dX10_dies_1 rfl rfl ?_
  refine zt_Vi (As := [.int p]) dX10_dies_2 lk_X10_113 sk0 rfl ⟨⟨by decide, by decide⟩, rfl, rfl⟩ rfl ⟨Nat.le_of_ble_eq_true rfl, rfl, rfl⟩ (xPerson_s (P := fun y S9 L9 => y = (if ((0 : Int32) ≤ p ∧ p ≤ (S 6 3) - (1 : Int32)) then (1 : Int32) else 0) ∧ S = S9 ∧ L = L9) ⟨rfl, rfl, rfl⟩) (fun y1 S9 L9 q9 => ?_)
  obtain ⟨ey1, rfl, rfl⟩ := q9
  by_cases q9 : ((0 : Int32) ≤ p ∧ p ≤ (S 6 3) - (1 : Int32))
  · replace h := h.1 q9
    rw [if_pos q9] at ey1
    subst ey1
    refine zi_if_ne (tgt := 11) dX10_dies_5 (by decide) (fun _ => ?_) (fun z9 => absurd z9 (by decide))
    refine zi_aload_n dX10_dies_11 rfl rfl ?_
    refine zt_Vv (As := []) dX10_dies_12 lk_X10_180 sk0 rfl ⟨⟨by decide, by decide⟩, rfl, rfl⟩ rfl ⟨Nat.le_of_ble_eq_true rfl, rfl, rfl⟩ h (fun S1 L1 h => ?_)
    refine zi_aload_n dX10_dies_15 rfl rfl ?_
    refine zi_getr fl_X10_45 sk0 rfl dX10_dies_16 ?_
    refine zi_iload_n dX10_dies_19 rfl rfl ?_
    refine zt_Vi (As := [.int p]) dX10_dies_20 lk_X10_186 sk26 rfl ⟨⟨by decide, by decide⟩, rfl, rfl⟩ rfl ⟨Nat.le_of_ble_eq_true rfl, rfl, rfl⟩ h (fun y3 S2 L2 h => ?_)
    exact zt_iret dX10_dies_23 rfl h
  · replace h := h.2 q9
    rw [if_neg q9] at ey1
    subst ey1
    refine zi_if_ne (tgt := 11) dX10_dies_5 (by decide) (fun z9 => absurd rfl z9) (fun _ => ?_)
    refine zi_bipush (v := -2) dX10_dies_8 (by decide) ?_
    exact zt_iret dX10_dies_10 rfl h
theorem e_X10_dies {p : Int32} {S : zS} {L : zL} {P : Int32 → zS → zL → Prop} (h : ∀ X, zU mX10_dies X S L 0 [some (.ref 0), some (.int p)] [] (zpi P)) : zCi mX10_dies S L [.ref 0, .int p] P := zCi_of pn_X10_dies (Nat.le_of_ble_eq_true rfl) (fun X => zt_pad (j := 0) rfl (h X))
set_option maxHeartbeats 2000000 in
theorem b_X10_cloth_0 {month : Int32} {county : Int32} {what : Int32} {X : Nat × (Nat → Int32)} {S : zS} {L : zL} {P : Int32 → zS → zL → Prop} (h : ((((0 : Int32) ≤ month ∧ month ≤ (23 : Int32)) → ((((0 : Int32) ≤ county ∧ county ≤ (3 : Int32)) → ((((0 : Int32) ≤ what ∧ what ≤ (1 : Int32)) → zCv mX10_settle S L [.ref 0] (fun S1 L1 => ((¬ what = 0 → zCi mX2_behind S1 L1 [.ref 26, .int month, .int ((28 : Int32) + county)] (fun y5 S2 L2 => P y5 S2 L2)) ∧ (what = 0 → zCi mX2_behind S1 L1 [.ref 26, .int month, .int ((24 : Int32) + county)] (fun y5 S2 L2 => P y5 S2 L2))))) ∧ (¬ ((0 : Int32) ≤ what ∧ what ≤ (1 : Int32)) → P (-2 : Int32) S L))) ∧ (¬ ((0 : Int32) ≤ county ∧ county ≤ (3 : Int32)) → P (-2 : Int32) S L))) ∧ (¬ ((0 : Int32) ≤ month ∧ month ≤ (23 : Int32)) → P (-2 : Int32) S L))) : zU mX10_cloth X S L 0 [some (.ref 0), some (.int month), some (.int county), some (.int what)] [] (zpi P) := by
  refine zi_iload_n dX10_cloth_0 rfl rfl ?_
  refine zt_Si (As := [.int month]) dX10_cloth_1 lk_X10_142 ⟨⟨by decide, by decide⟩, rfl, rfl⟩ rfl ⟨Nat.le_of_ble_eq_true rfl, rfl, rfl⟩ (xMonth_s (P := fun y S9 L9 => y = (if ((0 : Int32) ≤ month ∧ month ≤ (23 : Int32)) then (1 : Int32) else 0) ∧ S = S9 ∧ L = L9) ⟨rfl, rfl, rfl⟩) (fun y1 S9 L9 q9 => ?_)
  obtain ⟨ey1, rfl, rfl⟩ := q9
  by_cases q9 : ((0 : Int32) ≤ month ∧ month ≤ (23 : Int32))
  · replace h := h.1 q9
    rw [if_pos q9] at ey1
    subst ey1
    refine zi_if_eq (tgt := 23) dX10_cloth_4 (by decide) (fun z9 => absurd z9 (by decide)) (fun _ => ?_)
    refine zi_iload_n dX10_cloth_7 rfl rfl ?_
    refine zt_Si (As := [.int county]) dX10_cloth_8 lk_X10_145 ⟨⟨by decide, by decide⟩, rfl, rfl⟩ rfl ⟨Nat.le_of_ble_eq_true rfl, rfl, rfl⟩ (xCounty_s (P := fun y S9 L9 => y = (if ((0 : Int32) ≤ county ∧ county ≤ (3 : Int32)) then (1 : Int32) else 0) ∧ S = S9 ∧ L = L9) ⟨rfl, rfl, rfl⟩) (fun y2 S9 L9 q9 => ?_)
    obtain ⟨ey2, rfl, rfl⟩ := q9
    by_cases q9 : ((0 : Int32) ≤ county ∧ county ≤ (3 : Int32))
    · replace h := h.1 q9
      rw [if_pos q9] at ey2
      subst ey2
      refine zi_if_eq (tgt := 23) dX10_cloth_11 (by decide) (fun z9 => absurd z9 (by decide)) (fun _ => ?_)
      refine zi_iload_n dX10_cloth_14 rfl rfl ?_
      refine zi_iconst (v := 0) dX10_cloth_15 (by decide) ?_
      refine zi_iconst (v := 1) dX10_cloth_16 (by decide) ?_
      refine zt_Si (As := [.int what, .int (0 : Int32), .int (1 : Int32)]) dX10_cloth_17 lk_X10_90 ⟨⟨by decide, by decide⟩, rfl, rfl⟩ rfl ⟨Nat.le_of_ble_eq_true rfl, rfl, rfl⟩ (within_s (P := fun y S9 L9 => y = (if ((0 : Int32) ≤ what ∧ what ≤ (1 : Int32)) then (1 : Int32) else 0) ∧ S = S9 ∧ L = L9) ⟨rfl, rfl, rfl⟩) (fun y3 S9 L9 q9 => ?_)
      obtain ⟨ey3, rfl, rfl⟩ := q9
      by_cases q9 : ((0 : Int32) ≤ what ∧ what ≤ (1 : Int32))
      · replace h := h.1 q9
        rw [if_pos q9] at ey3
        subst ey3
        refine zi_if_ne (tgt := 26) dX10_cloth_20 (by decide) (fun _ => ?_) (fun z9 => absurd z9 (by decide))
        refine zi_aload_n dX10_cloth_26 rfl rfl ?_
        refine zt_Vv (As := []) dX10_cloth_27 lk_X10_180 sk0 rfl ⟨⟨by decide, by decide⟩, rfl, rfl⟩ rfl ⟨Nat.le_of_ble_eq_true rfl, rfl, rfl⟩ h (fun S1 L1 h => ?_)
        refine zi_aload_n dX10_cloth_30 rfl rfl ?_
        refine zi_getr fl_X10_45 sk0 rfl dX10_cloth_31 ?_
        refine zi_iload_n dX10_cloth_34 rfl rfl ?_
        refine zi_iload_n dX10_cloth_35 rfl rfl ?_
        refine zi_if_ne (tgt := 44) dX10_cloth_36 (by decide) (fun q9 => ?_) (fun q9 => ?_)
        · replace h := h.1 q9
          refine zi_bipush (v := 28) dX10_cloth_44 (by decide) ?_
          refine zi_iload_n dX10_cloth_46 rfl rfl ?_
          refine zi_iadd dX10_cloth_47 ?_
          refine zt_Vi (As := [.int month, .int ((28 : Int32) + county)]) dX10_cloth_48 lk_X10_183 sk26 rfl ⟨⟨by decide, by decide⟩, rfl, rfl⟩ rfl ⟨Nat.le_of_ble_eq_true rfl, rfl, rfl⟩ h (fun y5 S2 L2 h => ?_)
          exact zt_iret dX10_cloth_51 rfl h
        · replace h := h.2 q9
          refine zi_bipush (v := 24) dX10_cloth_39 (by decide) ?_
          refine zi_goto (tgt := 46) dX10_cloth_41 (by decide) ?_
          refine zi_iload_n dX10_cloth_46 rfl rfl ?_
          refine zi_iadd dX10_cloth_47 ?_
          refine zt_Vi (As := [.int month, .int ((24 : Int32) + county)]) dX10_cloth_48 lk_X10_183 sk26 rfl ⟨⟨by decide, by decide⟩, rfl, rfl⟩ rfl ⟨Nat.le_of_ble_eq_true rfl, rfl, rfl⟩ h (fun y5 S2 L2 h => ?_)
          exact zt_iret dX10_cloth_51 rfl h
      · replace h := h.2 q9
        rw [if_neg q9] at ey3
        subst ey3
        refine zi_if_ne (tgt := 26) dX10_cloth_20 (by decide) (fun z9 => absurd rfl z9) (fun _ => ?_)
        refine zi_bipush (v := -2) dX10_cloth_23 (by decide) ?_
        exact zt_iret dX10_cloth_25 rfl h
    · replace h := h.2 q9
      rw [if_neg q9] at ey2
      subst ey2
      refine zi_if_eq (tgt := 23) dX10_cloth_11 (by decide) (fun _ => ?_) (fun z9 => absurd rfl z9)
      refine zi_bipush (v := -2) dX10_cloth_23 (by decide) ?_
      exact zt_iret dX10_cloth_25 rfl h
  · replace h := h.2 q9
    rw [if_neg q9] at ey1
    subst ey1
    refine zi_if_eq (tgt := 23) dX10_cloth_4 (by decide) (fun _ => ?_) (fun z9 => absurd rfl z9)
    refine zi_bipush (v := -2) dX10_cloth_23 (by decide) ?_
    exact zt_iret dX10_cloth_25 rfl h
theorem e_X10_cloth {month : Int32} {county : Int32} {what : Int32} {S : zS} {L : zL} {P : Int32 → zS → zL → Prop} (h : ∀ X, zU mX10_cloth X S L 0 [some (.ref 0), some (.int month), some (.int county), some (.int what)] [] (zpi P)) : zCi mX10_cloth S L [.ref 0, .int month, .int county, .int what] P := zCi_of pn_X10_cloth (Nat.le_of_ble_eq_true rfl) (fun X => zt_pad (j := 0) rfl (h X))
set_option maxHeartbeats 2000000 in
theorem b_X10_thorn_0 {month : Int32} {X : Nat × (Nat → Int32)} {S : zS} {L : zL} {P : Int32 → zS → zL → Prop} (h : ((((0 : Int32) ≤ month ∧ month ≤ (23 : Int32)) → zCv mX10_settle S L [.ref 0] (fun S1 L1 => zCi mX2_behind S1 L1 [.ref 26, .int month, .int (32 : Int32)] (fun y3 S2 L2 => P y3 S2 L2))) ∧ (¬ ((0 : Int32) ≤ month ∧ month ≤ (23 : Int32)) → P (-2 : Int32) S L))) : zU mX10_thorn X S L 0 [some (.ref 0), some (.int month)] [] (zpi P) := by
  refine zi_iload_n dX10_thorn_0 rfl rfl ?_
  refine zt_Si (As := [.int month]) dX10_thorn_1 lk_X10_142 ⟨⟨by decide, by decide⟩, rfl, rfl⟩ rfl ⟨Nat.le_of_ble_eq_true rfl, rfl, rfl⟩ (xMonth_s (P := fun y S9 L9 => y = (if ((0 : Int32) ≤ month ∧ month ≤ (23 : Int32)) then (1 : Int32) else 0) ∧ S = S9 ∧ L = L9) ⟨rfl, rfl, rfl⟩) (fun y1 S9 L9 q9 => ?_)
  obtain ⟨ey1, rfl, rfl⟩ := q9
  by_cases q9 : ((0 : Int32) ≤ month ∧ month ≤ (23 : Int32))
  · replace h := h.1 q9
    rw [if_pos q9] at ey1
    subst ey1
    refine zi_if_ne (tgt := 10) dX10_thorn_4 (by decide) (fun _ => ?_) (fun z9 => absurd z9 (by decide))
    refine zi_aload_n dX10_thorn_10 rfl rfl ?_
    refine zt_Vv (As := []) dX10_thorn_11 lk_X10_180 sk0 rfl ⟨⟨by decide, by decide⟩, rfl, rfl⟩ rfl ⟨Nat.le_of_ble_eq_true rfl, rfl, rfl⟩ h (fun S1 L1 h => ?_)
    refine zi_aload_n dX10_thorn_14 rfl rfl ?_
    refine zi_getr fl_X10_45 sk0 rfl dX10_thorn_15 ?_
    refine zi_iload_n dX10_thorn_18 rfl rfl ?_
    refine zi_bipush (v := 32) dX10_thorn_19 (by decide) ?_
    refine zt_Vi (As := [.int month, .int (32 : Int32)]) dX10_thorn_21 lk_X10_183 sk26 rfl ⟨⟨by decide, by decide⟩, rfl, rfl⟩ rfl ⟨Nat.le_of_ble_eq_true rfl, rfl, rfl⟩ h (fun y3 S2 L2 h => ?_)
    exact zt_iret dX10_thorn_24 rfl h
  · replace h := h.2 q9
    rw [if_neg q9] at ey1
    subst ey1
    refine zi_if_ne (tgt := 10) dX10_thorn_4 (by decide) (fun z9 => absurd rfl z9) (fun _ => ?_)
    refine zi_bipush (v := -2) dX10_thorn_7 (by decide) ?_
    exact zt_iret dX10_thorn_9 rfl h
theorem e_X10_thorn {month : Int32} {S : zS} {L : zL} {P : Int32 → zS → zL → Prop} (h : ∀ X, zU mX10_thorn X S L 0 [some (.ref 0), some (.int month)] [] (zpi P)) : zCi mX10_thorn S L [.ref 0, .int month] P := zCi_of pn_X10_thorn (Nat.le_of_ble_eq_true rfl) (fun X => zt_pad (j := 0) rfl (h X))
set_option maxHeartbeats 2000000 in
theorem b_X10_tax_0 {which : Int32} {X : Nat × (Nat → Int32)} {S : zS} {L : zL} {P : Int32 → zS → zL → Prop} (h : ((((0 : Int32) ≤ which ∧ which ≤ (1 : Int32)) → zCv mX10_settle S L [.ref 0] (fun S1 L1 => ((¬ which = 0 → zCi mX2_taxBehind S1 L1 [.ref 26, .int (23 : Int32)] (fun y3 S2 L2 => P y3 S2 L2)) ∧ (which = 0 → zCi mX2_taxBehind S1 L1 [.ref 26, .int (11 : Int32)] (fun y3 S2 L2 => P y3 S2 L2))))) ∧ (¬ ((0 : Int32) ≤ which ∧ which ≤ (1 : Int32)) → P (-2 : Int32) S L))) : zU mX10_tax X S L 0 [some (.ref 0), some (.int which)] [] (zpi P) := by
  refine zi_iload_n dX10_tax_0 rfl rfl ?_
  refine zi_iconst (v := 0) dX10_tax_1 (by decide) ?_
  refine zi_iconst (v := 1) dX10_tax_2 (by decide) ?_
  refine zt_Si (As := [.int which, .int (0 : Int32), .int (1 : Int32)]) dX10_tax_3 lk_X10_90 ⟨⟨by decide, by decide⟩, rfl, rfl⟩ rfl ⟨Nat.le_of_ble_eq_true rfl, rfl, rfl⟩ (within_s (P := fun y S9 L9 => y = (if ((0 : Int32) ≤ which ∧ which ≤ (1 : Int32)) then (1 : Int32) else 0) ∧ S = S9 ∧ L = L9) ⟨rfl, rfl, rfl⟩) (fun y1 S9 L9 q9 => ?_)
  obtain ⟨ey1, rfl, rfl⟩ := q9
  by_cases q9 : ((0 : Int32) ≤ which ∧ which ≤ (1 : Int32))
  · replace h := h.1 q9
    rw [if_pos q9] at ey1
    subst ey1
    refine zi_if_ne (tgt := 12) dX10_tax_6 (by decide) (fun _ => ?_) (fun z9 => absurd z9 (by decide))
    refine zi_aload_n dX10_tax_12 rfl rfl ?_
    refine zt_Vv (As := []) dX10_tax_13 lk_X10_180 sk0 rfl ⟨⟨by decide, by decide⟩, rfl, rfl⟩ rfl ⟨Nat.le_of_ble_eq_true rfl, rfl, rfl⟩ h (fun S1 L1 h => ?_)
    refine zi_aload_n dX10_tax_16 rfl rfl ?_
    refine zi_getr fl_X10_45 sk0 rfl dX10_tax_17 ?_
    refine zi_iload_n dX10_tax_20 rfl rfl ?_
    refine zi_if_ne (tgt := 29) dX10_tax_21 (by decide) (fun q9 => ?_) (fun q9 => ?_)
    · replace h := h.1 q9
      refine zi_bipush (v := 23) dX10_tax_29 (by decide) ?_
      refine zt_Vi (As := [.int (23 : Int32)]) dX10_tax_31 lk_X10_189 sk26 rfl ⟨⟨by decide, by decide⟩, rfl, rfl⟩ rfl ⟨Nat.le_of_ble_eq_true rfl, rfl, rfl⟩ h (fun y3 S2 L2 h => ?_)
      exact zt_iret dX10_tax_34 rfl h
    · replace h := h.2 q9
      refine zi_bipush (v := 11) dX10_tax_24 (by decide) ?_
      refine zi_goto (tgt := 31) dX10_tax_26 (by decide) ?_
      refine zt_Vi (As := [.int (11 : Int32)]) dX10_tax_31 lk_X10_189 sk26 rfl ⟨⟨by decide, by decide⟩, rfl, rfl⟩ rfl ⟨Nat.le_of_ble_eq_true rfl, rfl, rfl⟩ h (fun y3 S2 L2 h => ?_)
      exact zt_iret dX10_tax_34 rfl h
  · replace h := h.2 q9
    rw [if_neg q9] at ey1
    subst ey1
    refine zi_if_ne (tgt := 12) dX10_tax_6 (by decide) (fun z9 => absurd rfl z9) (fun _ => ?_)
    refine zi_bipush (v := -2) dX10_tax_9 (by decide) ?_
    exact zt_iret dX10_tax_11 rfl h
theorem e_X10_tax {which : Int32} {S : zS} {L : zL} {P : Int32 → zS → zL → Prop} (h : ∀ X, zU mX10_tax X S L 0 [some (.ref 0), some (.int which)] [] (zpi P)) : zCi mX10_tax S L [.ref 0, .int which] P := zCi_of pn_X10_tax (Nat.le_of_ble_eq_true rfl) (fun X => zt_pad (j := 0) rfl (h X))
set_option maxHeartbeats 2000000 in
theorem b_X10_heaviest_0 {month : Int32} {X : Nat × (Nat → Int32)} {S : zS} {L : zL} {P : Int32 → zS → zL → Prop} (h : ((((0 : Int32) ≤ month ∧ month ≤ (23 : Int32)) → zCv mX10_settle S L [.ref 0] (fun S1 L1 => zCi mX2_heaviestBehind S1 L1 [.ref 26, .int month] (fun y3 S2 L2 => P y3 S2 L2))) ∧ (¬ ((0 : Int32) ≤ month ∧ month ≤ (23 : Int32)) → P (-2 : Int32) S L))) : zU mX10_heaviest X S L 0 [some (.ref 0), some (.int month)] [] (zpi P) := by
  refine zi_iload_n dX10_heaviest_0 rfl rfl ?_
  refine zt_Si (As := [.int month]) dX10_heaviest_1 lk_X10_142 ⟨⟨by decide, by decide⟩, rfl, rfl⟩ rfl ⟨Nat.le_of_ble_eq_true rfl, rfl, rfl⟩ (xMonth_s (P := fun y S9 L9 => y = (if ((0 : Int32) ≤ month ∧ month ≤ (23 : Int32)) then (1 : Int32) else 0) ∧ S = S9 ∧ L = L9) ⟨rfl, rfl, rfl⟩) (fun y1 S9 L9 q9 => ?_)
  obtain ⟨ey1, rfl, rfl⟩ := q9
  by_cases q9 : ((0 : Int32) ≤ month ∧ month ≤ (23 : Int32))
  · replace h := h.1 q9
    rw [if_pos q9] at ey1
    subst ey1
    refine zi_if_ne (tgt := 10) dX10_heaviest_4 (by decide) (fun _ => ?_) (fun z9 => absurd z9 (by decide))
    refine zi_aload_n dX10_heaviest_10 rfl rfl ?_
    refine zt_Vv (As := []) dX10_heaviest_11 lk_X10_180 sk0 rfl ⟨⟨by decide, by decide⟩, rfl, rfl⟩ rfl ⟨Nat.le_of_ble_eq_true rfl, rfl, rfl⟩ h (fun S1 L1 h => ?_)
    refine zi_aload_n dX10_heaviest_14 rfl rfl ?_
    refine zi_getr fl_X10_45 sk0 rfl dX10_heaviest_15 ?_
    refine zi_iload_n dX10_heaviest_18 rfl rfl ?_
    refine zt_Vi (As := [.int month]) dX10_heaviest_19 lk_X10_192 sk26 rfl ⟨⟨by decide, by decide⟩, rfl, rfl⟩ rfl ⟨Nat.le_of_ble_eq_true rfl, rfl, rfl⟩ h (fun y3 S2 L2 h => ?_)
    exact zt_iret dX10_heaviest_22 rfl h
  · replace h := h.2 q9
    rw [if_neg q9] at ey1
    subst ey1
    refine zi_if_ne (tgt := 10) dX10_heaviest_4 (by decide) (fun z9 => absurd rfl z9) (fun _ => ?_)
    refine zi_bipush (v := -2) dX10_heaviest_7 (by decide) ?_
    exact zt_iret dX10_heaviest_9 rfl h
theorem e_X10_heaviest {month : Int32} {S : zS} {L : zL} {P : Int32 → zS → zL → Prop} (h : ∀ X, zU mX10_heaviest X S L 0 [some (.ref 0), some (.int month)] [] (zpi P)) : zCi mX10_heaviest S L [.ref 0, .int month] P := zCi_of pn_X10_heaviest (Nat.le_of_ble_eq_true rfl) (fun X => zt_pad (j := 0) rfl (h X))
set_option maxHeartbeats 2000000 in
theorem b_X10_first_0 {what : Int32} {X : Nat × (Nat → Int32)} {S : zS} {L : zL} {P : Int32 → zS → zL → Prop} (h : ((((0 : Int32) ≤ what ∧ what ≤ (1 : Int32)) → zCv mX10_settle S L [.ref 0] (fun S1 L1 => ((¬ what = 0 → P (S1 26 5) S1 L1) ∧ (what = 0 → P (S1 26 4) S1 L1)))) ∧ (¬ ((0 : Int32) ≤ what ∧ what ≤ (1 : Int32)) → P (-2 : Int32) S L))) : zU mX10_first X S L 0 [some (.ref 0), some (.int what)] [] (zpi P) := by
  refine zi_iload_n dX10_first_0 rfl rfl ?_
  refine zi_iconst (v := 0) dX10_first_1 (by decide) ?_
  refine zi_iconst (v := 1) dX10_first_2 (by decide) ?_
  refine zt_Si (As := [.int what, .int (0 : Int32), .int (1 : Int32)]) dX10_first_3 lk_X10_90 ⟨⟨by decide, by decide⟩, rfl, rfl⟩ rfl ⟨Nat.le_of_ble_eq_true rfl, rfl, rfl⟩ (within_s (P := fun y S9 L9 => y = (if ((0 : Int32) ≤ what ∧ what ≤ (1 : Int32)) then (1 : Int32) else 0) ∧ S = S9 ∧ L = L9) ⟨rfl, rfl, rfl⟩) (fun y1 S9 L9 q9 => ?_)
  obtain ⟨ey1, rfl, rfl⟩ := q9
  by_cases q9 : ((0 : Int32) ≤ what ∧ what ≤ (1 : Int32))
  · replace h := h.1 q9
    rw [if_pos q9] at ey1
    subst ey1
    refine zi_if_ne (tgt := 12) dX10_first_6 (by decide) (fun _ => ?_) (fun z9 => absurd z9 (by decide))
    refine zi_aload_n dX10_first_12 rfl rfl ?_
    refine zt_Vv (As := []) dX10_first_13 lk_X10_180 sk0 rfl ⟨⟨by decide, by decide⟩, rfl, rfl⟩ rfl ⟨Nat.le_of_ble_eq_true rfl, rfl, rfl⟩ h (fun S1 L1 h => ?_)
    refine zi_iload_n dX10_first_16 rfl rfl ?_
    refine zi_if_ne (tgt := 30) dX10_first_17 (by decide) (fun q9 => ?_) (fun q9 => ?_)
    · replace h := h.1 q9
      refine zi_aload_n dX10_first_30 rfl rfl ?_
      refine zi_getr fl_X10_45 sk0 rfl dX10_first_31 ?_
      refine zi_geti fl_X10_198 sk26 rfl dX10_first_34 ?_
      exact zt_iret dX10_first_37 rfl h
    · replace h := h.2 q9
      refine zi_aload_n dX10_first_20 rfl rfl ?_
      refine zi_getr fl_X10_45 sk0 rfl dX10_first_21 ?_
      refine zi_geti fl_X10_195 sk26 rfl dX10_first_24 ?_
      refine zi_goto (tgt := 37) dX10_first_27 (by decide) ?_
      exact zt_iret dX10_first_37 rfl h
  · replace h := h.2 q9
    rw [if_neg q9] at ey1
    subst ey1
    refine zi_if_ne (tgt := 12) dX10_first_6 (by decide) (fun z9 => absurd rfl z9) (fun _ => ?_)
    refine zi_bipush (v := -2) dX10_first_9 (by decide) ?_
    exact zt_iret dX10_first_11 rfl h
theorem e_X10_first {what : Int32} {S : zS} {L : zL} {P : Int32 → zS → zL → Prop} (h : ∀ X, zU mX10_first X S L 0 [some (.ref 0), some (.int what)] [] (zpi P)) : zCi mX10_first S L [.ref 0, .int what] P := zCi_of pn_X10_first (Nat.le_of_ble_eq_true rfl) (fun X => zt_pad (j := 0) rfl (h X))
set_option maxHeartbeats 2000000 in
theorem b_X10_plan_0 {pace : Int32} {what : Int32} {X : Nat × (Nat → Int32)} {S : zS} {L : zL} {P : Int32 → zS → zL → Prop} (h : ((((1 : Int32) ≤ pace ∧ pace ≤ (4 : Int32)) → ((((0 : Int32) ≤ what ∧ what ≤ (2 : Int32)) → zCv mX4_findRound S L [.ref 56, .int pace] (fun S1 L1 => ((¬ what = 0 → ((¬ what = (1 : Int32) → P (S1 56 7) S1 L1) ∧ (what = (1 : Int32) → P (S1 56 6) S1 L1))) ∧ (what = 0 → P (S1 56 5) S1 L1)))) ∧ (¬ ((0 : Int32) ≤ what ∧ what ≤ (2 : Int32)) → P (-2 : Int32) S L))) ∧ (¬ ((1 : Int32) ≤ pace ∧ pace ≤ (4 : Int32)) → P (-2 : Int32) S L))) : zU mX10_plan X S L 0 [some (.ref 0), some (.int pace), some (.int what)] [] (zpi P) := by
  refine zi_iload_n dX10_plan_0 rfl rfl ?_
  refine zi_iconst (v := 1) dX10_plan_1 (by decide) ?_
  refine zi_iconst (v := 4) dX10_plan_2 (by decide) ?_
  refine zt_Si (As := [.int pace, .int (1 : Int32), .int (4 : Int32)]) dX10_plan_3 lk_X10_90 ⟨⟨by decide, by decide⟩, rfl, rfl⟩ rfl ⟨Nat.le_of_ble_eq_true rfl, rfl, rfl⟩ (within_s (P := fun y S9 L9 => y = (if ((1 : Int32) ≤ pace ∧ pace ≤ (4 : Int32)) then (1 : Int32) else 0) ∧ S = S9 ∧ L = L9) ⟨rfl, rfl, rfl⟩) (fun y1 S9 L9 q9 => ?_)
  obtain ⟨ey1, rfl, rfl⟩ := q9
  by_cases q9 : ((1 : Int32) ≤ pace ∧ pace ≤ (4 : Int32))
  · replace h := h.1 q9
    rw [if_pos q9] at ey1
    subst ey1
    refine zi_if_eq (tgt := 18) dX10_plan_6 (by decide) (fun z9 => absurd z9 (by decide)) (fun _ => ?_)
    refine zi_iload_n dX10_plan_9 rfl rfl ?_
    refine zi_iconst (v := 0) dX10_plan_10 (by decide) ?_
    refine zi_iconst (v := 2) dX10_plan_11 (by decide) ?_
    refine zt_Si (As := [.int what, .int (0 : Int32), .int (2 : Int32)]) dX10_plan_12 lk_X10_90 ⟨⟨by decide, by decide⟩, rfl, rfl⟩ rfl ⟨Nat.le_of_ble_eq_true rfl, rfl, rfl⟩ (within_s (P := fun y S9 L9 => y = (if ((0 : Int32) ≤ what ∧ what ≤ (2 : Int32)) then (1 : Int32) else 0) ∧ S = S9 ∧ L = L9) ⟨rfl, rfl, rfl⟩) (fun y2 S9 L9 q9 => ?_)
    obtain ⟨ey2, rfl, rfl⟩ := q9
    by_cases q9 : ((0 : Int32) ≤ what ∧ what ≤ (2 : Int32))
    · replace h := h.1 q9
      rw [if_pos q9] at ey2
      subst ey2
      refine zi_if_ne (tgt := 21) dX10_plan_15 (by decide) (fun _ => ?_) (fun z9 => absurd z9 (by decide))
      refine zi_aload_n dX10_plan_21 rfl rfl ?_
      refine zi_getr fl_X10_61 sk0 rfl dX10_plan_22 ?_
      refine zi_iload_n dX10_plan_25 rfl rfl ?_
      refine zt_Vv (As := [.int pace]) dX10_plan_26 lk_X10_201 sk56 rfl ⟨⟨by decide, by decide⟩, rfl, rfl⟩ rfl ⟨Nat.le_of_ble_eq_true rfl, rfl, rfl⟩ h (fun S1 L1 h => ?_)
      refine zi_iload_n dX10_plan_29 rfl rfl ?_
      refine zi_if_ne (tgt := 43) dX10_plan_30 (by decide) (fun q9 => ?_) (fun q9 => ?_)
      · replace h := h.1 q9
        refine zi_iload_n dX10_plan_43 rfl rfl ?_
        refine zi_iconst (v := 1) dX10_plan_44 (by decide) ?_
        refine zi_icmp_ne (tgt := 58) dX10_plan_45 (by decide) (fun q9 => ?_) (fun q9 => ?_)
        · replace h := h.1 q9
          refine zi_aload_n dX10_plan_58 rfl rfl ?_
          refine zi_getr fl_X10_61 sk0 rfl dX10_plan_59 ?_
          refine zi_geti fl_X10_211 sk56 rfl dX10_plan_62 ?_
          exact zt_iret dX10_plan_65 rfl h
        · replace h := h.2 q9
          refine zi_aload_n dX10_plan_48 rfl rfl ?_
          refine zi_getr fl_X10_61 sk0 rfl dX10_plan_49 ?_
          refine zi_geti fl_X10_208 sk56 rfl dX10_plan_52 ?_
          refine zi_goto (tgt := 65) dX10_plan_55 (by decide) ?_
          exact zt_iret dX10_plan_65 rfl h
      · replace h := h.2 q9
        refine zi_aload_n dX10_plan_33 rfl rfl ?_
        refine zi_getr fl_X10_61 sk0 rfl dX10_plan_34 ?_
        refine zi_geti fl_X10_205 sk56 rfl dX10_plan_37 ?_
        refine zi_goto (tgt := 65) dX10_plan_40 (by decide) ?_
        exact zt_iret dX10_plan_65 rfl h
    · replace h := h.2 q9
      rw [if_neg q9] at ey2
      subst ey2
      refine zi_if_ne (tgt := 21) dX10_plan_15 (by decide) (fun z9 => absurd rfl z9) (fun _ => ?_)
      refine zi_bipush (v := -2) dX10_plan_18 (by decide) ?_
      exact zt_iret dX10_plan_20 rfl h
  · replace h := h.2 q9
    rw [if_neg q9] at ey1
    subst ey1
    refine zi_if_eq (tgt := 18) dX10_plan_6 (by decide) (fun _ => ?_) (fun z9 => absurd rfl z9)
    refine zi_bipush (v := -2) dX10_plan_18 (by decide) ?_
    exact zt_iret dX10_plan_20 rfl h
theorem e_X10_plan {pace : Int32} {what : Int32} {S : zS} {L : zL} {P : Int32 → zS → zL → Prop} (h : ∀ X, zU mX10_plan X S L 0 [some (.ref 0), some (.int pace), some (.int what)] [] (zpi P)) : zCi mX10_plan S L [.ref 0, .int pace, .int what] P := zCi_of pn_X10_plan (Nat.le_of_ble_eq_true rfl) (fun X => zt_pad (j := 0) rfl (h X))
set_option maxHeartbeats 2000000 in
theorem b_X10_light_0 {p : Int32} {most : Int32} {i : Int32} {X : Nat × (Nat → Int32)} {S : zS} {L : zL} {P : Int32 → zS → zL → Prop} (h : ((((0 : Int32) ≤ p ∧ p ≤ (S 6 3) - (1 : Int32)) → ((((0 : Int32) ≤ most ∧ most ≤ (99 : Int32)) → ((((-1 : Int32) ≤ i ∧ i ≤ (1 : Int32)) → zCi mX4_fewestDeeds S L [.ref 56, .int p, .int most, .int i] (fun y4 S1 L1 => P y4 S1 L1)) ∧ (¬ ((-1 : Int32) ≤ i ∧ i ≤ (1 : Int32)) → P (-2 : Int32) S L))) ∧ (¬ ((0 : Int32) ≤ most ∧ most ≤ (99 : Int32)) → P (-2 : Int32) S L))) ∧ (¬ ((0 : Int32) ≤ p ∧ p ≤ (S 6 3) - (1 : Int32)) → P (-2 : Int32) S L))) : zU mX10_light X S L 0 [some (.ref 0), some (.int p), some (.int most), some (.int i)] [] (zpi P) := by
  refine zi_aload_n dX10_light_0 rfl rfl ?_
  refine zi_iload_n dX10_light_1 rfl rfl ?_
  refine zt_Vi (As := [.int p]) dX10_light_2 lk_X10_113 sk0 rfl ⟨⟨by decide, by decide⟩, rfl, rfl⟩ rfl ⟨Nat.le_of_ble_eq_true rfl, rfl, rfl⟩ (xPerson_s (P := fun y S9 L9 => y = (if ((0 : Int32) ≤ p ∧ p ≤ (S 6 3) - (1 : Int32)) then (1 : Int32) else 0) ∧ S = S9 ∧ L = L9) ⟨rfl, rfl, rfl⟩) (fun y1 S9 L9 q9 => ?_)
  obtain ⟨ey1, rfl, rfl⟩ := q9
  by_cases q9 : ((0 : Int32) ≤ p ∧ p ≤ (S 6 3) - (1 : Int32))
  · replace h := h.1 q9
    rw [if_pos q9] at ey1
    subst ey1
    refine zi_if_eq (tgt := 27) dX10_light_5 (by decide) (fun z9 => absurd z9 (by decide)) (fun _ => ?_)
    refine zi_iload_n dX10_light_8 rfl rfl ?_
    refine zi_iconst (v := 0) dX10_light_9 (by decide) ?_
    refine zi_bipush (v := 99) dX10_light_10 (by decide) ?_
    refine zt_Si (As := [.int most, .int (0 : Int32), .int (99 : Int32)]) dX10_light_12 lk_X10_90 ⟨⟨by decide, by decide⟩, rfl, rfl⟩ rfl ⟨Nat.le_of_ble_eq_true rfl, rfl, rfl⟩ (within_s (P := fun y S9 L9 => y = (if ((0 : Int32) ≤ most ∧ most ≤ (99 : Int32)) then (1 : Int32) else 0) ∧ S = S9 ∧ L = L9) ⟨rfl, rfl, rfl⟩) (fun y2 S9 L9 q9 => ?_)
    obtain ⟨ey2, rfl, rfl⟩ := q9
    by_cases q9 : ((0 : Int32) ≤ most ∧ most ≤ (99 : Int32))
    · replace h := h.1 q9
      rw [if_pos q9] at ey2
      subst ey2
      refine zi_if_eq (tgt := 27) dX10_light_15 (by decide) (fun z9 => absurd z9 (by decide)) (fun _ => ?_)
      refine zi_iload_n dX10_light_18 rfl rfl ?_
      refine zi_iconst (v := -1) dX10_light_19 (by decide) ?_
      refine zi_iconst (v := 1) dX10_light_20 (by decide) ?_
      refine zt_Si (As := [.int i, .int (-1 : Int32), .int (1 : Int32)]) dX10_light_21 lk_X10_90 ⟨⟨by decide, by decide⟩, rfl, rfl⟩ rfl ⟨Nat.le_of_ble_eq_true rfl, rfl, rfl⟩ (within_s (P := fun y S9 L9 => y = (if ((-1 : Int32) ≤ i ∧ i ≤ (1 : Int32)) then (1 : Int32) else 0) ∧ S = S9 ∧ L = L9) ⟨rfl, rfl, rfl⟩) (fun y3 S9 L9 q9 => ?_)
      obtain ⟨ey3, rfl, rfl⟩ := q9
      by_cases q9 : ((-1 : Int32) ≤ i ∧ i ≤ (1 : Int32))
      · replace h := h.1 q9
        rw [if_pos q9] at ey3
        subst ey3
        refine zi_if_ne (tgt := 30) dX10_light_24 (by decide) (fun _ => ?_) (fun z9 => absurd z9 (by decide))
        refine zi_aload_n dX10_light_30 rfl rfl ?_
        refine zi_getr fl_X10_61 sk0 rfl dX10_light_31 ?_
        refine zi_iload_n dX10_light_34 rfl rfl ?_
        refine zi_iload_n dX10_light_35 rfl rfl ?_
        refine zi_iload_n dX10_light_36 rfl rfl ?_
        refine zt_Vi (As := [.int p, .int most, .int i]) dX10_light_37 lk_X10_214 sk56 rfl ⟨⟨by decide, by decide⟩, rfl, rfl⟩ rfl ⟨Nat.le_of_ble_eq_true rfl, rfl, rfl⟩ h (fun y4 S1 L1 h => ?_)
        exact zt_iret dX10_light_40 rfl h
      · replace h := h.2 q9
        rw [if_neg q9] at ey3
        subst ey3
        refine zi_if_ne (tgt := 30) dX10_light_24 (by decide) (fun z9 => absurd rfl z9) (fun _ => ?_)
        refine zi_bipush (v := -2) dX10_light_27 (by decide) ?_
        exact zt_iret dX10_light_29 rfl h
    · replace h := h.2 q9
      rw [if_neg q9] at ey2
      subst ey2
      refine zi_if_eq (tgt := 27) dX10_light_15 (by decide) (fun _ => ?_) (fun z9 => absurd rfl z9)
      refine zi_bipush (v := -2) dX10_light_27 (by decide) ?_
      exact zt_iret dX10_light_29 rfl h
  · replace h := h.2 q9
    rw [if_neg q9] at ey1
    subst ey1
    refine zi_if_eq (tgt := 27) dX10_light_5 (by decide) (fun _ => ?_) (fun z9 => absurd rfl z9)
    refine zi_bipush (v := -2) dX10_light_27 (by decide) ?_
    exact zt_iret dX10_light_29 rfl h
theorem e_X10_light {p : Int32} {most : Int32} {i : Int32} {S : zS} {L : zL} {P : Int32 → zS → zL → Prop} (h : ∀ X, zU mX10_light X S L 0 [some (.ref 0), some (.int p), some (.int most), some (.int i)] [] (zpi P)) : zCi mX10_light S L [.ref 0, .int p, .int most, .int i] P := zCi_of pn_X10_light (Nat.le_of_ble_eq_true rfl) (fun X => zt_pad (j := 0) rfl (h X))
set_option maxHeartbeats 2000000 in
theorem b_X10_spare_0 {i : Int32} {X : Nat × (Nat → Int32)} {S : zS} {L : zL} {P : Int32 → zS → zL → Prop} (h : ((((-1 : Int32) ≤ i ∧ i ≤ (1 : Int32)) → zCi mX4_fewestRounds S L [.ref 56, .int i] (fun y2 S1 L1 => P y2 S1 L1)) ∧ (¬ ((-1 : Int32) ≤ i ∧ i ≤ (1 : Int32)) → P (-2 : Int32) S L))) : zU mX10_spare X S L 0 [some (.ref 0), some (.int i)] [] (zpi P) := by
  refine zi_iload_n dX10_spare_0 rfl rfl ?_
  refine zi_iconst (v := -1) dX10_spare_1 (by decide) ?_
  refine zi_iconst (v := 1) dX10_spare_2 (by decide) ?_
  refine zt_Si (As := [.int i, .int (-1 : Int32), .int (1 : Int32)]) dX10_spare_3 lk_X10_90 ⟨⟨by decide, by decide⟩, rfl, rfl⟩ rfl ⟨Nat.le_of_ble_eq_true rfl, rfl, rfl⟩ (within_s (P := fun y S9 L9 => y = (if ((-1 : Int32) ≤ i ∧ i ≤ (1 : Int32)) then (1 : Int32) else 0) ∧ S = S9 ∧ L = L9) ⟨rfl, rfl, rfl⟩) (fun y1 S9 L9 q9 => ?_)
  obtain ⟨ey1, rfl, rfl⟩ := q9
  by_cases q9 : ((-1 : Int32) ≤ i ∧ i ≤ (1 : Int32))
  · replace h := h.1 q9
    rw [if_pos q9] at ey1
    subst ey1
    refine zi_if_eq (tgt := 20) dX10_spare_6 (by decide) (fun z9 => absurd z9 (by decide)) (fun _ => ?_)
    refine zi_aload_n dX10_spare_9 rfl rfl ?_
    refine zi_getr fl_X10_61 sk0 rfl dX10_spare_10 ?_
    refine zi_iload_n dX10_spare_13 rfl rfl ?_
    refine zt_Vi (As := [.int i]) dX10_spare_14 lk_X10_217 sk56 rfl ⟨⟨by decide, by decide⟩, rfl, rfl⟩ rfl ⟨Nat.le_of_ble_eq_true rfl, rfl, rfl⟩ h (fun y2 S1 L1 h => ?_)
    refine zi_goto (tgt := 22) dX10_spare_17 (by decide) ?_
    exact zt_iret dX10_spare_22 rfl h
  · replace h := h.2 q9
    rw [if_neg q9] at ey1
    subst ey1
    refine zi_if_eq (tgt := 20) dX10_spare_6 (by decide) (fun _ => ?_) (fun z9 => absurd rfl z9)
    refine zi_bipush (v := -2) dX10_spare_20 (by decide) ?_
    exact zt_iret dX10_spare_22 rfl h
theorem e_X10_spare {i : Int32} {S : zS} {L : zL} {P : Int32 → zS → zL → Prop} (h : ∀ X, zU mX10_spare X S L 0 [some (.ref 0), some (.int i)] [] (zpi P)) : zCi mX10_spare S L [.ref 0, .int i] P := zCi_of pn_X10_spare (Nat.le_of_ble_eq_true rfl) (fun X => zt_pad (j := 0) rfl (h X))
set_option maxHeartbeats 2000000 in
theorem b_X10_home_0 {p : Int32} {what : Int32} {X : Nat × (Nat → Int32)} {S : zS} {L : zL} {P : Int32 → zS → zL → Prop} (h : ((((0 : Int32) ≤ p ∧ p ≤ (S 6 3) - (1 : Int32)) → ((((0 : Int32) ≤ what ∧ what ≤ (1 : Int32)) → zCv mX4_findHome S L [.ref 56, .int p] (fun S1 L1 => ((¬ what = 0 → P (S1 56 10) S1 L1) ∧ (what = 0 → P (S1 56 9) S1 L1)))) ∧ (¬ ((0 : Int32) ≤ what ∧ what ≤ (1 : Int32)) → P (-2 : Int32) S L))) ∧ (¬ ((0 : Int32) ≤ p ∧ p ≤ (S 6 3) - (1 : Int32)) → P (-2 : Int32) S L))) : zU mX10_home X S L 0 [some (.ref 0), some (.int p), some (.int what)] [] (zpi P) := by
  refine zi_aload_n dX10_home_0 rfl rfl ?_
  refine zi_iload_n dX10_home_1 rfl rfl ?_
  refine zt_Vi (As := [.int p]) dX10_home_2 lk_X10_113 sk0 rfl ⟨⟨by decide, by decide⟩, rfl, rfl⟩ rfl ⟨Nat.le_of_ble_eq_true rfl, rfl, rfl⟩ (xPerson_s (P := fun y S9 L9 => y = (if ((0 : Int32) ≤ p ∧ p ≤ (S 6 3) - (1 : Int32)) then (1 : Int32) else 0) ∧ S = S9 ∧ L = L9) ⟨rfl, rfl, rfl⟩) (fun y1 S9 L9 q9 => ?_)
  obtain ⟨ey1, rfl, rfl⟩ := q9
  by_cases q9 : ((0 : Int32) ≤ p ∧ p ≤ (S 6 3) - (1 : Int32))
  · replace h := h.1 q9
    rw [if_pos q9] at ey1
    subst ey1
    refine zi_if_eq (tgt := 17) dX10_home_5 (by decide) (fun z9 => absurd z9 (by decide)) (fun _ => ?_)
    refine zi_iload_n dX10_home_8 rfl rfl ?_
    refine zi_iconst (v := 0) dX10_home_9 (by decide) ?_
    refine zi_iconst (v := 1) dX10_home_10 (by decide) ?_
    refine zt_Si (As := [.int what, .int (0 : Int32), .int (1 : Int32)]) dX10_home_11 lk_X10_90 ⟨⟨by decide, by decide⟩, rfl, rfl⟩ rfl ⟨Nat.le_of_ble_eq_true rfl, rfl, rfl⟩ (within_s (P := fun y S9 L9 => y = (if ((0 : Int32) ≤ what ∧ what ≤ (1 : Int32)) then (1 : Int32) else 0) ∧ S = S9 ∧ L = L9) ⟨rfl, rfl, rfl⟩) (fun y2 S9 L9 q9 => ?_)
    obtain ⟨ey2, rfl, rfl⟩ := q9
    by_cases q9 : ((0 : Int32) ≤ what ∧ what ≤ (1 : Int32))
    · replace h := h.1 q9
      rw [if_pos q9] at ey2
      subst ey2
      refine zi_if_ne (tgt := 20) dX10_home_14 (by decide) (fun _ => ?_) (fun z9 => absurd z9 (by decide))
      refine zi_aload_n dX10_home_20 rfl rfl ?_
      refine zi_getr fl_X10_61 sk0 rfl dX10_home_21 ?_
      refine zi_iload_n dX10_home_24 rfl rfl ?_
      refine zt_Vv (As := [.int p]) dX10_home_25 lk_X10_220 sk56 rfl ⟨⟨by decide, by decide⟩, rfl, rfl⟩ rfl ⟨Nat.le_of_ble_eq_true rfl, rfl, rfl⟩ h (fun S1 L1 h => ?_)
      refine zi_iload_n dX10_home_28 rfl rfl ?_
      refine zi_if_ne (tgt := 42) dX10_home_29 (by decide) (fun q9 => ?_) (fun q9 => ?_)
      · replace h := h.1 q9
        refine zi_aload_n dX10_home_42 rfl rfl ?_
        refine zi_getr fl_X10_61 sk0 rfl dX10_home_43 ?_
        refine zi_geti fl_X10_226 sk56 rfl dX10_home_46 ?_
        exact zt_iret dX10_home_49 rfl h
      · replace h := h.2 q9
        refine zi_aload_n dX10_home_32 rfl rfl ?_
        refine zi_getr fl_X10_61 sk0 rfl dX10_home_33 ?_
        refine zi_geti fl_X10_223 sk56 rfl dX10_home_36 ?_
        refine zi_goto (tgt := 49) dX10_home_39 (by decide) ?_
        exact zt_iret dX10_home_49 rfl h
    · replace h := h.2 q9
      rw [if_neg q9] at ey2
      subst ey2
      refine zi_if_ne (tgt := 20) dX10_home_14 (by decide) (fun z9 => absurd rfl z9) (fun _ => ?_)
      refine zi_bipush (v := -2) dX10_home_17 (by decide) ?_
      exact zt_iret dX10_home_19 rfl h
  · replace h := h.2 q9
    rw [if_neg q9] at ey1
    subst ey1
    refine zi_if_eq (tgt := 17) dX10_home_5 (by decide) (fun _ => ?_) (fun z9 => absurd rfl z9)
    refine zi_bipush (v := -2) dX10_home_17 (by decide) ?_
    exact zt_iret dX10_home_19 rfl h
theorem e_X10_home {p : Int32} {what : Int32} {S : zS} {L : zL} {P : Int32 → zS → zL → Prop} (h : ∀ X, zU mX10_home X S L 0 [some (.ref 0), some (.int p), some (.int what)] [] (zpi P)) : zCi mX10_home S L [.ref 0, .int p, .int what] P := zCi_of pn_X10_home (Nat.le_of_ble_eq_true rfl) (fun X => zt_pad (j := 0) rfl (h X))
set_option maxHeartbeats 2000000 in
theorem b_X10_never_0 {X : Nat × (Nat → Int32)} {S : zS} {L : zL} {P : Int32 → zS → zL → Prop} (h : zCv mX9_survey S L [.ref 59] (fun S1 L1 => P (S1 59 1) S1 L1)) : zU mX10_never X S L 0 [some (.ref 0)] [] (zpi P) := by
  refine zi_aload_n dX10_never_0 rfl rfl ?_
  refine zi_getr fl_X10_68 sk0 rfl dX10_never_1 ?_
  refine zt_Vv (As := []) dX10_never_4 lk_X10_233 sk59 rfl ⟨⟨by decide, by decide⟩, rfl, rfl⟩ rfl ⟨Nat.le_of_ble_eq_true rfl, rfl, rfl⟩ h (fun S1 L1 h => ?_)
  refine zi_aload_n dX10_never_7 rfl rfl ?_
  refine zi_getr fl_X10_68 sk0 rfl dX10_never_8 ?_
  refine zi_geti fl_X10_236 sk59 rfl dX10_never_11 ?_
  exact zt_iret dX10_never_14 rfl h
theorem e_X10_never {S : zS} {L : zL} {P : Int32 → zS → zL → Prop} (h : ∀ X, zU mX10_never X S L 0 [some (.ref 0)] [] (zpi P)) : zCi mX10_never S L [.ref 0] P := zCi_of pn_X10_never (Nat.le_of_ble_eq_true rfl) (fun X => zt_pad (j := 0) rfl (h X))
set_option maxHeartbeats 2000000 in
theorem b_X10_was_0 {d : Int32} {what : Int32} {X : Nat × (Nat → Int32)} {S : zS} {L : zL} {P : Int32 → zS → zL → Prop} (h : ((((0 : Int32) ≤ d ∧ d ≤ (S 10 3) - (1 : Int32)) → ((((0 : Int32) ≤ what ∧ what ≤ (1 : Int32)) → ((¬ what = 0 → zCi mX9_fitting S L [.ref 59, .int d, .int (1 : Int32), .int (S 6 3)] (fun y3 S1 L1 => P y3 S1 L1)) ∧ (what = 0 → zCi mX9_fitting S L [.ref 59, .int d, .int (2 : Int32), .int (4 : Int32)] (fun y3 S1 L1 => P y3 S1 L1)))) ∧ (¬ ((0 : Int32) ≤ what ∧ what ≤ (1 : Int32)) → P (-2 : Int32) S L))) ∧ (¬ ((0 : Int32) ≤ d ∧ d ≤ (S 10 3) - (1 : Int32)) → P (-2 : Int32) S L))) : zU mX10_was X S L 0 [some (.ref 0), some (.int d), some (.int what)] [] (zpi P) := by
  refine zi_aload_n dX10_was_0 rfl rfl ?_
  refine zi_iload_n dX10_was_1 rfl rfl ?_
  refine zt_Vi (As := [.int d]) dX10_was_2 lk_X10_127 sk0 rfl ⟨⟨by decide, by decide⟩, rfl, rfl⟩ rfl ⟨Nat.le_of_ble_eq_true rfl, rfl, rfl⟩ (xDeed_s (P := fun y S9 L9 => y = (if ((0 : Int32) ≤ d ∧ d ≤ (S 10 3) - (1 : Int32)) then (1 : Int32) else 0) ∧ S = S9 ∧ L = L9) ⟨rfl, rfl, rfl⟩) (fun y1 S9 L9 q9 => ?_)
  obtain ⟨ey1, rfl, rfl⟩ := q9
  by_cases q9 : ((0 : Int32) ≤ d ∧ d ≤ (S 10 3) - (1 : Int32))
  · replace h := h.1 q9
    rw [if_pos q9] at ey1
    subst ey1
    refine zi_if_eq (tgt := 17) dX10_was_5 (by decide) (fun z9 => absurd z9 (by decide)) (fun _ => ?_)
    refine zi_iload_n dX10_was_8 rfl rfl ?_
    refine zi_iconst (v := 0) dX10_was_9 (by decide) ?_
    refine zi_iconst (v := 1) dX10_was_10 (by decide) ?_
    refine zt_Si (As := [.int what, .int (0 : Int32), .int (1 : Int32)]) dX10_was_11 lk_X10_90 ⟨⟨by decide, by decide⟩, rfl, rfl⟩ rfl ⟨Nat.le_of_ble_eq_true rfl, rfl, rfl⟩ (within_s (P := fun y S9 L9 => y = (if ((0 : Int32) ≤ what ∧ what ≤ (1 : Int32)) then (1 : Int32) else 0) ∧ S = S9 ∧ L = L9) ⟨rfl, rfl, rfl⟩) (fun y2 S9 L9 q9 => ?_)
    obtain ⟨ey2, rfl, rfl⟩ := q9
    by_cases q9 : ((0 : Int32) ≤ what ∧ what ≤ (1 : Int32))
    · replace h := h.1 q9
      rw [if_pos q9] at ey2
      subst ey2
      refine zi_if_ne (tgt := 20) dX10_was_14 (by decide) (fun _ => ?_) (fun z9 => absurd z9 (by decide))
      refine zi_iload_n dX10_was_20 rfl rfl ?_
      refine zi_if_ne (tgt := 37) dX10_was_21 (by decide) (fun q9 => ?_) (fun q9 => ?_)
      · replace h := h.1 q9
        refine zi_aload_n dX10_was_37 rfl rfl ?_
        refine zi_getr fl_X10_68 sk0 rfl dX10_was_38 ?_
        refine zi_iload_n dX10_was_41 rfl rfl ?_
        refine zi_iconst (v := 1) dX10_was_42 (by decide) ?_
        refine zi_aload_n dX10_was_43 rfl rfl ?_
        refine zi_getr fl_X10_36 sk0 rfl dX10_was_44 ?_
        refine zi_getr fl_X10_117 sk5 rfl dX10_was_47 ?_
        refine zi_geti fl_X10_151 sk6 rfl dX10_was_50 ?_
        refine zt_Vi (As := [.int d, .int (1 : Int32), .int (S 6 3)]) dX10_was_53 lk_X10_239 sk59 rfl ⟨⟨by decide, by decide⟩, rfl, rfl⟩ rfl ⟨Nat.le_of_ble_eq_true rfl, rfl, rfl⟩ h (fun y3 S1 L1 h => ?_)
        exact zt_iret dX10_was_56 rfl h
      · replace h := h.2 q9
        refine zi_aload_n dX10_was_24 rfl rfl ?_
        refine zi_getr fl_X10_68 sk0 rfl dX10_was_25 ?_
        refine zi_iload_n dX10_was_28 rfl rfl ?_
        refine zi_iconst (v := 2) dX10_was_29 (by decide) ?_
        refine zi_iconst (v := 4) dX10_was_30 (by decide) ?_
        refine zt_Vi (As := [.int d, .int (2 : Int32), .int (4 : Int32)]) dX10_was_31 lk_X10_239 sk59 rfl ⟨⟨by decide, by decide⟩, rfl, rfl⟩ rfl ⟨Nat.le_of_ble_eq_true rfl, rfl, rfl⟩ h (fun y3 S1 L1 h => ?_)
        refine zi_goto (tgt := 56) dX10_was_34 (by decide) ?_
        exact zt_iret dX10_was_56 rfl h
    · replace h := h.2 q9
      rw [if_neg q9] at ey2
      subst ey2
      refine zi_if_ne (tgt := 20) dX10_was_14 (by decide) (fun z9 => absurd rfl z9) (fun _ => ?_)
      refine zi_bipush (v := -2) dX10_was_17 (by decide) ?_
      exact zt_iret dX10_was_19 rfl h
  · replace h := h.2 q9
    rw [if_neg q9] at ey1
    subst ey1
    refine zi_if_eq (tgt := 17) dX10_was_5 (by decide) (fun _ => ?_) (fun z9 => absurd rfl z9)
    refine zi_bipush (v := -2) dX10_was_17 (by decide) ?_
    exact zt_iret dX10_was_19 rfl h
theorem e_X10_was {d : Int32} {what : Int32} {S : zS} {L : zL} {P : Int32 → zS → zL → Prop} (h : ∀ X, zU mX10_was X S L 0 [some (.ref 0), some (.int d), some (.int what)] [] (zpi P)) : zCi mX10_was S L [.ref 0, .int d, .int what] P := zCi_of pn_X10_was (Nat.le_of_ble_eq_true rfl) (fun X => zt_pad (j := 0) rfl (h X))
set_option maxHeartbeats 2000000 in
theorem b_X10_ask_0 {p : Int32} {X : Nat × (Nat → Int32)} {S : zS} {L : zL} {P : Int32 → zS → zL → Prop} (h : ((((0 : Int32) ≤ p ∧ p ≤ (S 6 3) - (1 : Int32)) → zCv mX9_survey S L [.ref 59] (fun S1 L1 => zCi mX9_monthToAsk S1 L1 [.ref 59, .int p] (fun y3 S2 L2 => P y3 S2 L2))) ∧ (¬ ((0 : Int32) ≤ p ∧ p ≤ (S 6 3) - (1 : Int32)) → P (-2 : Int32) S L))) : zU mX10_ask X S L 0 [some (.ref 0), some (.int p)] [] (zpi P) := by
  refine zi_aload_n dX10_ask_0 rfl rfl ?_
  refine zi_iload_n dX10_ask_1 rfl rfl ?_
  refine zt_Vi (As := [.int p]) dX10_ask_2 lk_X10_113 sk0 rfl ⟨⟨by decide, by decide⟩, rfl, rfl⟩ rfl ⟨Nat.le_of_ble_eq_true rfl, rfl, rfl⟩ (xPerson_s (P := fun y S9 L9 => y = (if ((0 : Int32) ≤ p ∧ p ≤ (S 6 3) - (1 : Int32)) then (1 : Int32) else 0) ∧ S = S9 ∧ L = L9) ⟨rfl, rfl, rfl⟩) (fun y1 S9 L9 q9 => ?_)
  obtain ⟨ey1, rfl, rfl⟩ := q9
  by_cases q9 : ((0 : Int32) ≤ p ∧ p ≤ (S 6 3) - (1 : Int32))
  · replace h := h.1 q9
    rw [if_pos q9] at ey1
    subst ey1
    refine zi_if_ne (tgt := 11) dX10_ask_5 (by decide) (fun _ => ?_) (fun z9 => absurd z9 (by decide))
    refine zi_aload_n dX10_ask_11 rfl rfl ?_
    refine zi_getr fl_X10_68 sk0 rfl dX10_ask_12 ?_
    refine zt_Vv (As := []) dX10_ask_15 lk_X10_233 sk59 rfl ⟨⟨by decide, by decide⟩, rfl, rfl⟩ rfl ⟨Nat.le_of_ble_eq_true rfl, rfl, rfl⟩ h (fun S1 L1 h => ?_)
    refine zi_aload_n dX10_ask_18 rfl rfl ?_
    refine zi_getr fl_X10_68 sk0 rfl dX10_ask_19 ?_
    refine zi_iload_n dX10_ask_22 rfl rfl ?_
    refine zt_Vi (As := [.int p]) dX10_ask_23 lk_X10_242 sk59 rfl ⟨⟨by decide, by decide⟩, rfl, rfl⟩ rfl ⟨Nat.le_of_ble_eq_true rfl, rfl, rfl⟩ h (fun y3 S2 L2 h => ?_)
    exact zt_iret dX10_ask_26 rfl h
  · replace h := h.2 q9
    rw [if_neg q9] at ey1
    subst ey1
    refine zi_if_ne (tgt := 11) dX10_ask_5 (by decide) (fun z9 => absurd rfl z9) (fun _ => ?_)
    refine zi_bipush (v := -2) dX10_ask_8 (by decide) ?_
    exact zt_iret dX10_ask_10 rfl h
theorem e_X10_ask {p : Int32} {S : zS} {L : zL} {P : Int32 → zS → zL → Prop} (h : ∀ X, zU mX10_ask X S L 0 [some (.ref 0), some (.int p)] [] (zpi P)) : zCi mX10_ask S L [.ref 0, .int p] P := zCi_of pn_X10_ask (Nat.le_of_ble_eq_true rfl) (fun X => zt_pad (j := 0) rfl (h X))
set_option maxHeartbeats 2000000 in
theorem b_X10_virtue_0 {c : Int32} {last : Int32} {p : Int32} {what : Int32} {X : Nat × (Nat → Int32)} {S : zS} {L : zL} {P : Int64 → zS → zL → Prop} (h : ((((0 : Int32) ≤ c ∧ c ≤ (16 : Int32)) → ((((0 : Int32) ≤ last ∧ last ≤ (9 : Int32)) → ((((0 : Int32) ≤ p ∧ p ≤ (S 6 3) - (1 : Int32)) → ((((0 : Int32) ≤ what ∧ what ≤ (1 : Int32)) → zCv mX0_findLiving S L [.ref 65, .int c, .int last] (fun S1 L1 => ((¬ what = 0 → zCl mX0_below S1 L1 [.ref 65, .int p] (fun y6 S2 L2 => P y6 S2 L2)) ∧ (what = 0 → zCl mX0_above S1 L1 [.ref 65, .int p] (fun y6 S2 L2 => P y6 S2 L2))))) ∧ (¬ ((0 : Int32) ≤ what ∧ what ≤ (1 : Int32)) → P (-9223372036854775806 : Int64) S L))) ∧ (¬ ((0 : Int32) ≤ p ∧ p ≤ (S 6 3) - (1 : Int32)) → P (-9223372036854775806 : Int64) S L))) ∧ (¬ ((0 : Int32) ≤ last ∧ last ≤ (9 : Int32)) → P (-9223372036854775806 : Int64) S L))) ∧ (¬ ((0 : Int32) ≤ c ∧ c ≤ (16 : Int32)) → P (-9223372036854775806 : Int64) S L))) : zU mX10_virtue X S L 0 [some (.ref 0), some (.int c), some (.int last), some (.int p), some (.int what)] [] (zpl P) := by
  refine zi_iload_n dX10_virtue_0 rfl rfl ?_
  refine zi_iconst (v := 0) dX10_virtue_1 (by decide) ?_
  refine zi_bipush (v := 16) dX10_virtue_2 (by decide) ?_
  refine zt_Si (As := [.int c, .int (0 : Int32), .int (16 : Int32)]) dX10_virtue_4 lk_X10_90 ⟨⟨by decide, by decide⟩, rfl, rfl⟩ rfl ⟨Nat.le_of_ble_eq_true rfl, rfl, rfl⟩ (within_s (P := fun y S9 L9 => y = (if ((0 : Int32) ≤ c ∧ c ≤ (16 : Int32)) then (1 : Int32) else 0) ∧ S = S9 ∧ L = L9) ⟨rfl, rfl, rfl⟩) (fun y1 S9 L9 q9 => ?_)
  obtain ⟨ey1, rfl, rfl⟩ := q9
  by_cases q9 : ((0 : Int32) ≤ c ∧ c ≤ (16 : Int32))
  · replace h := h.1 q9
    rw [if_pos q9] at ey1
    subst ey1
    refine zi_if_eq (tgt := 38) dX10_virtue_7 (by decide) (fun z9 => absurd z9 (by decide)) (fun _ => ?_)
    refine zi_iload_n dX10_virtue_10 rfl rfl ?_
    refine zi_iconst (v := 0) dX10_virtue_11 (by decide) ?_
    refine zi_bipush (v := 9) dX10_virtue_12 (by decide) ?_
    refine zt_Si (As := [.int last, .int (0 : Int32), .int (9 : Int32)]) dX10_virtue_14 lk_X10_90 ⟨⟨by decide, by decide⟩, rfl, rfl⟩ rfl ⟨Nat.le_of_ble_eq_true rfl, rfl, rfl⟩ (within_s (P := fun y S9 L9 => y = (if ((0 : Int32) ≤ last ∧ last ≤ (9 : Int32)) then (1 : Int32) else 0) ∧ S = S9 ∧ L = L9) ⟨rfl, rfl, rfl⟩) (fun y2 S9 L9 q9 => ?_)
    obtain ⟨ey2, rfl, rfl⟩ := q9
    by_cases q9 : ((0 : Int32) ≤ last ∧ last ≤ (9 : Int32))
    · replace h := h.1 q9
      rw [if_pos q9] at ey2
      subst ey2
      refine zi_if_eq (tgt := 38) dX10_virtue_17 (by decide) (fun z9 => absurd z9 (by decide)) (fun _ => ?_)
      refine zi_aload_n dX10_virtue_20 rfl rfl ?_
      refine zi_iload_n dX10_virtue_21 rfl rfl ?_
      refine zt_Vi (As := [.int p]) dX10_virtue_22 lk_X10_113 sk0 rfl ⟨⟨by decide, by decide⟩, rfl, rfl⟩ rfl ⟨Nat.le_of_ble_eq_true rfl, rfl, rfl⟩ (xPerson_s (P := fun y S9 L9 => y = (if ((0 : Int32) ≤ p ∧ p ≤ (S 6 3) - (1 : Int32)) then (1 : Int32) else 0) ∧ S = S9 ∧ L = L9) ⟨rfl, rfl, rfl⟩) (fun y3 S9 L9 q9 => ?_)
      obtain ⟨ey3, rfl, rfl⟩ := q9
      by_cases q9 : ((0 : Int32) ≤ p ∧ p ≤ (S 6 3) - (1 : Int32))
      · replace h := h.1 q9
        rw [if_pos q9] at ey3
        subst ey3
        refine zi_if_eq (tgt := 38) dX10_virtue_25 (by decide) (fun z9 => absurd z9 (by decide)) (fun _ => ?_)
        refine zi_iload dX10_virtue_28 rfl ?_
        refine zi_iconst (v := 0) dX10_virtue_30 (by decide) ?_
        refine zi_iconst (v := 1) dX10_virtue_31 (by decide) ?_
        refine zt_Si (As := [.int what, .int (0 : Int32), .int (1 : Int32)]) dX10_virtue_32 lk_X10_90 ⟨⟨by decide, by decide⟩, rfl, rfl⟩ rfl ⟨Nat.le_of_ble_eq_true rfl, rfl, rfl⟩ (within_s (P := fun y S9 L9 => y = (if ((0 : Int32) ≤ what ∧ what ≤ (1 : Int32)) then (1 : Int32) else 0) ∧ S = S9 ∧ L = L9) ⟨rfl, rfl, rfl⟩) (fun y4 S9 L9 q9 => ?_)
        obtain ⟨ey4, rfl, rfl⟩ := q9
        by_cases q9 : ((0 : Int32) ≤ what ∧ what ≤ (1 : Int32))
        · replace h := h.1 q9
          rw [if_pos q9] at ey4
          subst ey4
          refine zi_if_ne (tgt := 42) dX10_virtue_35 (by decide) (fun _ => ?_) (fun z9 => absurd z9 (by decide))
          refine zi_aload_n dX10_virtue_42 rfl rfl ?_
          refine zi_getr fl_X10_75 sk0 rfl dX10_virtue_43 ?_
          refine zi_iload_n dX10_virtue_46 rfl rfl ?_
          refine zi_iload_n dX10_virtue_47 rfl rfl ?_
          refine zt_Vv (As := [.int c, .int last]) dX10_virtue_48 lk_X10_249 sk65 rfl ⟨⟨by decide, by decide⟩, rfl, rfl⟩ rfl ⟨Nat.le_of_ble_eq_true rfl, rfl, rfl⟩ h (fun S1 L1 h => ?_)
          refine zi_iload dX10_virtue_51 rfl ?_
          refine zi_if_ne (tgt := 67) dX10_virtue_53 (by decide) (fun q9 => ?_) (fun q9 => ?_)
          · replace h := h.1 q9
            refine zi_aload_n dX10_virtue_67 rfl rfl ?_
            refine zi_getr fl_X10_75 sk0 rfl dX10_virtue_68 ?_
            refine zi_iload_n dX10_virtue_71 rfl rfl ?_
            refine zt_Vl (As := [.int p]) dX10_virtue_72 lk_X10_257 sk65 rfl ⟨⟨by decide, by decide⟩, rfl, rfl⟩ rfl ⟨Nat.le_of_ble_eq_true rfl, rfl, rfl⟩ h (fun y6 S2 L2 h => ?_)
            exact zt_lret dX10_virtue_75 rfl h
          · replace h := h.2 q9
            refine zi_aload_n dX10_virtue_56 rfl rfl ?_
            refine zi_getr fl_X10_75 sk0 rfl dX10_virtue_57 ?_
            refine zi_iload_n dX10_virtue_60 rfl rfl ?_
            refine zt_Vl (As := [.int p]) dX10_virtue_61 lk_X10_253 sk65 rfl ⟨⟨by decide, by decide⟩, rfl, rfl⟩ rfl ⟨Nat.le_of_ble_eq_true rfl, rfl, rfl⟩ h (fun y6 S2 L2 h => ?_)
            refine zi_goto (tgt := 75) dX10_virtue_64 (by decide) ?_
            exact zt_lret dX10_virtue_75 rfl h
        · replace h := h.2 q9
          rw [if_neg q9] at ey4
          subst ey4
          refine zi_if_ne (tgt := 42) dX10_virtue_35 (by decide) (fun z9 => absurd rfl z9) (fun _ => ?_)
          refine zi_ldc2 (v := -9223372036854775806) dX10_virtue_38 (zme 4 129 (by decide +kernel) rfl) ?_
          exact zt_lret dX10_virtue_41 rfl h
      · replace h := h.2 q9
        rw [if_neg q9] at ey3
        subst ey3
        refine zi_if_eq (tgt := 38) dX10_virtue_25 (by decide) (fun _ => ?_) (fun z9 => absurd rfl z9)
        refine zi_ldc2 (v := -9223372036854775806) dX10_virtue_38 (zme 4 129 (by decide +kernel) rfl) ?_
        exact zt_lret dX10_virtue_41 rfl h
    · replace h := h.2 q9
      rw [if_neg q9] at ey2
      subst ey2
      refine zi_if_eq (tgt := 38) dX10_virtue_17 (by decide) (fun _ => ?_) (fun z9 => absurd rfl z9)
      refine zi_ldc2 (v := -9223372036854775806) dX10_virtue_38 (zme 4 129 (by decide +kernel) rfl) ?_
      exact zt_lret dX10_virtue_41 rfl h
  · replace h := h.2 q9
    rw [if_neg q9] at ey1
    subst ey1
    refine zi_if_eq (tgt := 38) dX10_virtue_7 (by decide) (fun _ => ?_) (fun z9 => absurd rfl z9)
    refine zi_ldc2 (v := -9223372036854775806) dX10_virtue_38 (zme 4 129 (by decide +kernel) rfl) ?_
    exact zt_lret dX10_virtue_41 rfl h
theorem e_X10_virtue {c : Int32} {last : Int32} {p : Int32} {what : Int32} {S : zS} {L : zL} {P : Int64 → zS → zL → Prop} (h : ∀ X, zU mX10_virtue X S L 0 [some (.ref 0), some (.int c), some (.int last), some (.int p), some (.int what)] [] (zpl P)) : zCl mX10_virtue S L [.ref 0, .int c, .int last, .int p, .int what] P := zCl_of pn_X10_virtue (Nat.le_of_ble_eq_true rfl) (fun X => zt_pad (j := 0) rfl (h X))
set_option maxHeartbeats 2000000 in
theorem b_X10_years_0 {seed : Int32} {n : Int32} {what : Int32} {X : Nat × (Nat → Int32)} {S : zS} {L : zL} {P : Int32 → zS → zL → Prop} (h : ((((1 : Int32) ≤ n ∧ n ≤ (10 : Int32)) → ((((0 : Int32) ≤ what ∧ what ≤ (1 : Int32)) → zCv mX0_runYears S L [.ref 65, .int seed, .int n] (fun S1 L1 => ((¬ what = 0 → zCi mX2_taxBehind S1 L1 [.ref 52, .int (11 : Int32)] (fun y4 S2 L2 => zCi mX2_taxBehind S2 L2 [.ref 52, .int (23 : Int32)] (fun y5 S3 L3 => P (y4 + y5) S3 L3))) ∧ (what = 0 → zCi mX2_worthInAll S1 L1 [.ref 52] (fun y4 S2 L2 => P y4 S2 L2))))) ∧ (¬ ((0 : Int32) ≤ what ∧ what ≤ (1 : Int32)) → P (-2 : Int32) S L))) ∧ (¬ ((1 : Int32) ≤ n ∧ n ≤ (10 : Int32)) → P (-2 : Int32) S L))) : zU mX10_years X S L 0 [some (.ref 0), some (.int seed), some (.int n), some (.int what), none] [] (zpi P) := by
  refine zi_iload_n dX10_years_0 rfl rfl ?_
  refine zi_iconst (v := 1) dX10_years_1 (by decide) ?_
  refine zi_bipush (v := 10) dX10_years_2 (by decide) ?_
  refine zt_Si (As := [.int n, .int (1 : Int32), .int (10 : Int32)]) dX10_years_4 lk_X10_90 ⟨⟨by decide, by decide⟩, rfl, rfl⟩ rfl ⟨Nat.le_of_ble_eq_true rfl, rfl, rfl⟩ (within_s (P := fun y S9 L9 => y = (if ((1 : Int32) ≤ n ∧ n ≤ (10 : Int32)) then (1 : Int32) else 0) ∧ S = S9 ∧ L = L9) ⟨rfl, rfl, rfl⟩) (fun y1 S9 L9 q9 => ?_)
  obtain ⟨ey1, rfl, rfl⟩ := q9
  by_cases q9 : ((1 : Int32) ≤ n ∧ n ≤ (10 : Int32))
  · replace h := h.1 q9
    rw [if_pos q9] at ey1
    subst ey1
    refine zi_if_eq (tgt := 19) dX10_years_7 (by decide) (fun z9 => absurd z9 (by decide)) (fun _ => ?_)
    refine zi_iload_n dX10_years_10 rfl rfl ?_
    refine zi_iconst (v := 0) dX10_years_11 (by decide) ?_
    refine zi_iconst (v := 1) dX10_years_12 (by decide) ?_
    refine zt_Si (As := [.int what, .int (0 : Int32), .int (1 : Int32)]) dX10_years_13 lk_X10_90 ⟨⟨by decide, by decide⟩, rfl, rfl⟩ rfl ⟨Nat.le_of_ble_eq_true rfl, rfl, rfl⟩ (within_s (P := fun y S9 L9 => y = (if ((0 : Int32) ≤ what ∧ what ≤ (1 : Int32)) then (1 : Int32) else 0) ∧ S = S9 ∧ L = L9) ⟨rfl, rfl, rfl⟩) (fun y2 S9 L9 q9 => ?_)
    obtain ⟨ey2, rfl, rfl⟩ := q9
    by_cases q9 : ((0 : Int32) ≤ what ∧ what ≤ (1 : Int32))
    · replace h := h.1 q9
      rw [if_pos q9] at ey2
      subst ey2
      refine zi_if_ne (tgt := 22) dX10_years_16 (by decide) (fun _ => ?_) (fun z9 => absurd z9 (by decide))
      refine zi_aload_n dX10_years_22 rfl rfl ?_
      refine zi_getr fl_X10_75 sk0 rfl dX10_years_23 ?_
      refine zi_iload_n dX10_years_26 rfl rfl ?_
      refine zi_iload_n dX10_years_27 rfl rfl ?_
      refine zt_Vv (As := [.int seed, .int n]) dX10_years_28 lk_X10_260 sk65 rfl ⟨⟨by decide, by decide⟩, rfl, rfl⟩ rfl ⟨Nat.le_of_ble_eq_true rfl, rfl, rfl⟩ h (fun S1 L1 h => ?_)
      refine zi_aload_n dX10_years_31 rfl rfl ?_
      refine zi_getr fl_X10_52 sk0 rfl dX10_years_32 ?_
      refine zi_getr fl_X10_263 sk30 rfl dX10_years_35 ?_
      refine zi_astore dX10_years_38 (by decide) rfl ?_
      refine zi_iload_n dX10_years_40 rfl rfl ?_
      refine zi_if_ne (tgt := 52) dX10_years_41 (by decide) (fun q9 => ?_) (fun q9 => ?_)
      · replace h := h.1 q9
        refine zi_aload dX10_years_52 rfl ?_
        refine zi_bipush (v := 11) dX10_years_54 (by decide) ?_
        refine zt_Vi (As := [.int (11 : Int32)]) dX10_years_56 lk_X10_189 sk52 rfl ⟨⟨by decide, by decide⟩, rfl, rfl⟩ rfl ⟨Nat.le_of_ble_eq_true rfl, rfl, rfl⟩ h (fun y4 S2 L2 h => ?_)
        refine zi_aload dX10_years_59 rfl ?_
        refine zi_bipush (v := 23) dX10_years_61 (by decide) ?_
        refine zt_Vi (As := [.int (23 : Int32)]) dX10_years_63 lk_X10_189 sk52 rfl ⟨⟨by decide, by decide⟩, rfl, rfl⟩ rfl ⟨Nat.le_of_ble_eq_true rfl, rfl, rfl⟩ h (fun y5 S3 L3 h => ?_)
        refine zi_iadd dX10_years_66 ?_
        exact zt_iret dX10_years_67 rfl h
      · replace h := h.2 q9
        refine zi_aload dX10_years_44 rfl ?_
        refine zt_Vi (As := []) dX10_years_46 lk_X10_264 sk52 rfl ⟨⟨by decide, by decide⟩, rfl, rfl⟩ rfl ⟨Nat.le_of_ble_eq_true rfl, rfl, rfl⟩ h (fun y4 S2 L2 h => ?_)
        refine zi_goto (tgt := 67) dX10_years_49 (by decide) ?_
        exact zt_iret dX10_years_67 rfl h
    · replace h := h.2 q9
      rw [if_neg q9] at ey2
      subst ey2
      refine zi_if_ne (tgt := 22) dX10_years_16 (by decide) (fun z9 => absurd rfl z9) (fun _ => ?_)
      refine zi_bipush (v := -2) dX10_years_19 (by decide) ?_
      exact zt_iret dX10_years_21 rfl h
  · replace h := h.2 q9
    rw [if_neg q9] at ey1
    subst ey1
    refine zi_if_eq (tgt := 19) dX10_years_7 (by decide) (fun _ => ?_) (fun z9 => absurd rfl z9)
    refine zi_bipush (v := -2) dX10_years_19 (by decide) ?_
    exact zt_iret dX10_years_21 rfl h
theorem e_X10_years {seed : Int32} {n : Int32} {what : Int32} {S : zS} {L : zL} {P : Int32 → zS → zL → Prop} (h : ∀ X, zU mX10_years X S L 0 [some (.ref 0), some (.int seed), some (.int n), some (.int what), none] [] (zpi P)) : zCi mX10_years S L [.ref 0, .int seed, .int n, .int what] P := zCi_of pn_X10_years (Nat.le_of_ble_eq_true rfl) (fun X => zt_pad (j := 1) rfl (h X))
set_option maxHeartbeats 2000000 in
theorem b_X10_write_0 {p : Int32} {s : Int32} {X : Nat × (Nat → Int32)} {S : zS} {L : zL} {P : Int32 → zS → zL → Prop} (h : ((((0 : Int32) ≤ p ∧ p ≤ (S 6 3) - (1 : Int32)) → ((((0 : Int32) ≤ s ∧ s ≤ (3 : Int32)) → zCi mX6_isLost S L [.ref 68, .int s] (fun y3 S1 L1 => ((y3 = 0 → zCv mX10_settle S1 L1 [.ref 0] (fun S2 L2 => zCi mX6_length S2 L2 [.ref 68, .int s] (fun y5 S3 L3 => ∀ x1 : Int32, x1 = (if (24 : Int32) < y5 then (24 : Int32) else y5) → zU mX10_write X S3 L3 59 [some (.ref 0), some (.int p), some (.int s), some (.int x1), some (.int (0 : Int32))] [] (zpi P)))) ∧ (¬ y3 = 0 → zCi mX6_finding S1 L1 [.ref 68, .int (1 : Int32)] (fun y4 S2 L2 => P y4 S2 L2))))) ∧ (¬ ((0 : Int32) ≤ s ∧ s ≤ (3 : Int32)) → P (-2 : Int32) S L))) ∧ (¬ ((0 : Int32) ≤ p ∧ p ≤ (S 6 3) - (1 : Int32)) → P (-2 : Int32) S L))) : zU mX10_write X S L 0 [some (.ref 0), some (.int p), some (.int s), none, none] [] (zpi P) := by
  refine zi_aload_n dX10_write_0 rfl rfl ?_
  refine zi_iload_n dX10_write_1 rfl rfl ?_
  refine zt_Vi (As := [.int p]) dX10_write_2 lk_X10_113 sk0 rfl ⟨⟨by decide, by decide⟩, rfl, rfl⟩ rfl ⟨Nat.le_of_ble_eq_true rfl, rfl, rfl⟩ (xPerson_s (P := fun y S9 L9 => y = (if ((0 : Int32) ≤ p ∧ p ≤ (S 6 3) - (1 : Int32)) then (1 : Int32) else 0) ∧ S = S9 ∧ L = L9) ⟨rfl, rfl, rfl⟩) (fun y1 S9 L9 q9 => ?_)
  obtain ⟨ey1, rfl, rfl⟩ := q9
  by_cases q9 : ((0 : Int32) ≤ p ∧ p ≤ (S 6 3) - (1 : Int32))
  · replace h := h.1 q9
    rw [if_pos q9] at ey1
    subst ey1
    refine zi_if_eq (tgt := 15) dX10_write_5 (by decide) (fun z9 => absurd z9 (by decide)) (fun _ => ?_)
    refine zi_iload_n dX10_write_8 rfl rfl ?_
    refine zt_Si (As := [.int s]) dX10_write_9 lk_X10_163 ⟨⟨by decide, by decide⟩, rfl, rfl⟩ rfl ⟨Nat.le_of_ble_eq_true rfl, rfl, rfl⟩ (xSheet_s (P := fun y S9 L9 => y = (if ((0 : Int32) ≤ s ∧ s ≤ (3 : Int32)) then (1 : Int32) else 0) ∧ S = S9 ∧ L = L9) ⟨rfl, rfl, rfl⟩) (fun y2 S9 L9 q9 => ?_)
    obtain ⟨ey2, rfl, rfl⟩ := q9
    by_cases q9 : ((0 : Int32) ≤ s ∧ s ≤ (3 : Int32))
    · replace h := h.1 q9
      rw [if_pos q9] at ey2
      subst ey2
      refine zi_if_ne (tgt := 18) dX10_write_12 (by decide) (fun _ => ?_) (fun z9 => absurd z9 (by decide))
      refine zi_aload_n dX10_write_18 rfl rfl ?_
      refine zi_getr fl_X10_82 sk0 rfl dX10_write_19 ?_
      refine zi_iload_n dX10_write_22 rfl rfl ?_
      refine zt_Vi (As := [.int s]) dX10_write_23 lk_X10_166 sk68 rfl ⟨⟨by decide, by decide⟩, rfl, rfl⟩ rfl ⟨Nat.le_of_ble_eq_true rfl, rfl, rfl⟩ h (fun y3 S1 L1 h => ?_)
      refine zi_if_eq (tgt := 38) dX10_write_26 (by decide) (fun q9 => ?_) (fun q9 => ?_)
      · replace h := h.1 q9
        refine zi_aload_n dX10_write_38 rfl rfl ?_
        refine zt_Vv (As := []) dX10_write_39 lk_X10_180 sk0 rfl ⟨⟨by decide, by decide⟩, rfl, rfl⟩ rfl ⟨Nat.le_of_ble_eq_true rfl, rfl, rfl⟩ h (fun S2 L2 h => ?_)
        refine zi_aload_n dX10_write_42 rfl rfl ?_
        refine zi_getr fl_X10_82 sk0 rfl dX10_write_43 ?_
        refine zi_iload_n dX10_write_46 rfl rfl ?_
        refine zt_Vi (As := [.int s]) dX10_write_47 lk_X10_172 sk68 rfl ⟨⟨by decide, by decide⟩, rfl, rfl⟩ rfl ⟨Nat.le_of_ble_eq_true rfl, rfl, rfl⟩ h (fun y5 S3 L3 h => ?_)
        refine zi_bipush (v := 24) dX10_write_50 (by decide) ?_
        refine zi_mmin dX10_write_52 lm_X10_294 ⟨by decide, by decide, by decide⟩ (Nat.le_of_ble_eq_true rfl) ?_
        refine zt_nmi (fun x1 ex1 => ?_)
        replace h := h x1 ex1
        refine zi_istore_n dX10_write_55 rfl (by decide) rfl ?_
        refine zi_iconst (v := 0) dX10_write_56 (by decide) ?_
        refine zi_istore dX10_write_57 (by decide) rfl ?_
        refine zt_drop (lv' := [some (.ref 0), some (.int p), some (.int s), some (.int x1), some (.int (0 : Int32))]) [true, true, true, true, true] rfl ?_
        exact h
      · replace h := h.2 q9
        refine zi_aload_n dX10_write_29 rfl rfl ?_
        refine zi_getr fl_X10_82 sk0 rfl dX10_write_30 ?_
        refine zi_iconst (v := 1) dX10_write_33 (by decide) ?_
        refine zt_Vi (As := [.int (1 : Int32)]) dX10_write_34 lk_X10_169 sk68 rfl ⟨⟨by decide, by decide⟩, rfl, rfl⟩ rfl ⟨Nat.le_of_ble_eq_true rfl, rfl, rfl⟩ h (fun y4 S2 L2 h => ?_)
        exact zt_iret dX10_write_37 rfl h
    · replace h := h.2 q9
      rw [if_neg q9] at ey2
      subst ey2
      refine zi_if_ne (tgt := 18) dX10_write_12 (by decide) (fun z9 => absurd rfl z9) (fun _ => ?_)
      refine zi_bipush (v := -2) dX10_write_15 (by decide) ?_
      exact zt_iret dX10_write_17 rfl h
  · replace h := h.2 q9
    rw [if_neg q9] at ey1
    subst ey1
    refine zi_if_eq (tgt := 15) dX10_write_5 (by decide) (fun _ => ?_) (fun z9 => absurd rfl z9)
    refine zi_bipush (v := -2) dX10_write_15 (by decide) ?_
    exact zt_iret dX10_write_17 rfl h
set_option maxHeartbeats 2000000 in
theorem b_X10_write_59 {v1 : Int32} {v2 : Int32} {v3 : Int32} {v4 : Int32} {X : Nat × (Nat → Int32)} {S : zS} {L : zL} {P : Int32 → zS → zL → Prop} (h : ((v3 ≤ v4 → P v3 S L) ∧ (¬ v3 ≤ v4 → zCi mX2_behind S L [.ref 26, .int v4, .int ((0 : Int32) + v1)] (fun y1 S1 L1 => zCv mX6_store S1 L1 [.ref 68, .int v2, .int v4, .int y1] (fun S2 L2 => ∀ x1 : Int32, x1 = v4 + (1 : Int32) → zU mX10_write X S2 L2 59 [some (.ref 0), some (.int v1), some (.int v2), some (.int v3), some (.int x1)] [] (zpi P)))))) : zU mX10_write X S L 59 [some (.ref 0), some (.int v1), some (.int v2), some (.int v3), some (.int v4)] [] (zpi P) := by
  refine zi_iload dX10_write_59 rfl ?_
  refine zi_iload_n dX10_write_61 rfl rfl ?_
  refine zi_icmp_ge (tgt := 93) dX10_write_62 (by decide) (fun q9 => ?_) (fun q9 => ?_)
  · replace h := h.1 q9
    refine zi_iload_n dX10_write_93 rfl rfl ?_
    exact zt_iret dX10_write_94 rfl h
  · replace h := h.2 q9
    refine zi_aload_n dX10_write_65 rfl rfl ?_
    refine zi_getr fl_X10_82 sk0 rfl dX10_write_66 ?_
    refine zi_iload_n dX10_write_69 rfl rfl ?_
    refine zi_iload dX10_write_70 rfl ?_
    refine zi_aload_n dX10_write_72 rfl rfl ?_
    refine zi_getr fl_X10_45 sk0 rfl dX10_write_73 ?_
    refine zi_iload dX10_write_76 rfl ?_
    refine zi_iconst (v := 0) dX10_write_78 (by decide) ?_
    refine zi_iload_n dX10_write_79 rfl rfl ?_
    refine zi_iadd dX10_write_80 ?_
    refine zt_Vi (As := [.int v4, .int ((0 : Int32) + v1)]) dX10_write_81 lk_X10_183 sk26 rfl ⟨⟨by decide, by decide⟩, rfl, rfl⟩ rfl ⟨Nat.le_of_ble_eq_true rfl, rfl, rfl⟩ h (fun y1 S1 L1 h => ?_)
    refine zt_Vv (As := [.int v2, .int v4, .int y1]) dX10_write_84 lk_X10_276 sk68 rfl ⟨⟨by decide, by decide⟩, rfl, rfl⟩ rfl ⟨Nat.le_of_ble_eq_true rfl, rfl, rfl⟩ h (fun S2 L2 h => ?_)
    obtain ⟨x1, ex1⟩ : ∃ y : Int32, y = v4 + (1 : Int32) := ⟨_, rfl⟩
    replace h := h x1 ex1
    refine zi_iinc (v := x1) dX10_write_87 rfl (by rw [ex1]; rfl) (by decide) rfl ?_
    refine zi_goto (tgt := 59) dX10_write_90 (by decide) ?_
    refine zt_drop (lv' := [some (.ref 0), some (.int v1), some (.int v2), some (.int v3), some (.int x1)]) [true, true, true, true, true] rfl ?_
    exact h
theorem e_X10_write {p : Int32} {s : Int32} {S : zS} {L : zL} {P : Int32 → zS → zL → Prop} (h : ∀ X, zU mX10_write X S L 0 [some (.ref 0), some (.int p), some (.int s), none, none] [] (zpi P)) : zCi mX10_write S L [.ref 0, .int p, .int s] P := zCi_of pn_X10_write (Nat.le_of_ble_eq_true rfl) (fun X => zt_pad (j := 2) rfl (h X))
set_option maxHeartbeats 2000000 in
theorem b_X10_count_0 {what : Int32} {X : Nat × (Nat → Int32)} {S : zS} {L : zL} {P : Int32 → zS → zL → Prop} (h : ((what = 0 → P (S 6 3) S L) ∧ (what = 1 → P (S 10 3) S L) ∧ (what = 2 → P (S 1 4) S L) ∧ (what = 3 → P (S 3 4) S L) ∧ (what = 4 → P (S 14 3) S L) ∧ (what = 5 → P ((S 18 3) + (S 22 3)) S L) ∧ (what = 6 → zCv mX10_settle S L [.ref 0] (fun S1 L1 => zCi mX2_living S1 L1 [.ref 26] (fun y2 S2 L2 => P y2 S2 L2))) ∧ (what = 7 → P (S 60 3) S L) ∧ (what = 8 → P (S 68 3) S L) ∧ (¬ what = 0 → ¬ what = 1 → ¬ what = 2 → ¬ what = 3 → ¬ what = 4 → ¬ what = 5 → ¬ what = 6 → ¬ what = 7 → ¬ what = 8 → P (-2 : Int32) S L))) : zU mX10_count X S L 0 [some (.ref 0), some (.int what)] [] (zpi P) := by
  refine zi_iload_n dX10_count_0 rfl rfl ?_
  by_cases q0 : what = 0
  · replace h := h.1 q0
    refine zi_tableIn (off := 51) (tgt := 52) dX10_count_1 (by rw [q0]; decide) (by rw [q0]; decide) (by rw [q0]; rfl) (by decide) ?_
    refine zi_aload_n dX10_count_52 rfl rfl ?_
    refine zi_getr fl_X10_36 sk0 rfl dX10_count_53 ?_
    refine zi_getr fl_X10_117 sk5 rfl dX10_count_56 ?_
    refine zi_geti fl_X10_151 sk6 rfl dX10_count_59 ?_
    exact zt_iret dX10_count_62 rfl h
  replace h := h.2
  by_cases q1 : what = 1
  · replace h := h.1 q1
    refine zi_tableIn (off := 62) (tgt := 63) dX10_count_1 (by rw [q1]; decide) (by rw [q1]; decide) (by rw [q1]; rfl) (by decide) ?_
    refine zi_aload_n dX10_count_63 rfl rfl ?_
    refine zi_getr fl_X10_36 sk0 rfl dX10_count_64 ?_
    refine zi_getr fl_X10_130 sk5 rfl dX10_count_67 ?_
    refine zi_geti fl_X10_151 sk10 rfl dX10_count_70 ?_
    exact zt_iret dX10_count_73 rfl h
  replace h := h.2
  by_cases q2 : what = 2
  · replace h := h.1 q2
    refine zi_tableIn (off := 73) (tgt := 74) dX10_count_1 (by rw [q2]; decide) (by rw [q2]; decide) (by rw [q2]; rfl) (by decide) ?_
    refine zi_aload_n dX10_count_74 rfl rfl ?_
    refine zi_getr fl_X10_20 sk0 rfl dX10_count_75 ?_
    refine zi_geti fl_X10_105 sk1 rfl dX10_count_78 ?_
    exact zt_iret dX10_count_81 rfl h
  replace h := h.2
  by_cases q3 : what = 3
  · replace h := h.1 q3
    refine zi_tableIn (off := 81) (tgt := 82) dX10_count_1 (by rw [q3]; decide) (by rw [q3]; decide) (by rw [q3]; rfl) (by decide) ?_
    refine zi_aload_n dX10_count_82 rfl rfl ?_
    refine zi_getr fl_X10_30 sk0 rfl dX10_count_83 ?_
    refine zi_geti fl_X10_105 sk3 rfl dX10_count_86 ?_
    exact zt_iret dX10_count_89 rfl h
  replace h := h.2
  by_cases q4 : what = 4
  · replace h := h.1 q4
    refine zi_tableIn (off := 89) (tgt := 90) dX10_count_1 (by rw [q4]; decide) (by rw [q4]; decide) (by rw [q4]; rfl) (by decide) ?_
    refine zi_aload_n dX10_count_90 rfl rfl ?_
    refine zi_getr fl_X10_36 sk0 rfl dX10_count_91 ?_
    refine zi_getr fl_X10_148 sk5 rfl dX10_count_94 ?_
    refine zi_geti fl_X10_151 sk14 rfl dX10_count_97 ?_
    exact zt_iret dX10_count_100 rfl h
  replace h := h.2
  by_cases q5 : what = 5
  · replace h := h.1 q5
    refine zi_tableIn (off := 100) (tgt := 101) dX10_count_1 (by rw [q5]; decide) (by rw [q5]; decide) (by rw [q5]; rfl) (by decide) ?_
    refine zi_aload_n dX10_count_101 rfl rfl ?_
    refine zi_getr fl_X10_36 sk0 rfl dX10_count_102 ?_
    refine zi_getr fl_X10_157 sk5 rfl dX10_count_105 ?_
    refine zi_geti fl_X10_151 sk18 rfl dX10_count_108 ?_
    refine zi_aload_n dX10_count_111 rfl rfl ?_
    refine zi_getr fl_X10_36 sk0 rfl dX10_count_112 ?_
    refine zi_getr fl_X10_160 sk5 rfl dX10_count_115 ?_
    refine zi_geti fl_X10_151 sk22 rfl dX10_count_118 ?_
    refine zi_iadd dX10_count_121 ?_
    exact zt_iret dX10_count_122 rfl h
  replace h := h.2
  by_cases q6 : what = 6
  · replace h := h.1 q6
    refine zi_tableIn (off := 122) (tgt := 123) dX10_count_1 (by rw [q6]; decide) (by rw [q6]; decide) (by rw [q6]; rfl) (by decide) ?_
    refine zi_aload_n dX10_count_123 rfl rfl ?_
    refine zt_Vv (As := []) dX10_count_124 lk_X10_180 sk0 rfl ⟨⟨by decide, by decide⟩, rfl, rfl⟩ rfl ⟨Nat.le_of_ble_eq_true rfl, rfl, rfl⟩ h (fun S1 L1 h => ?_)
    refine zi_aload_n dX10_count_127 rfl rfl ?_
    refine zi_getr fl_X10_45 sk0 rfl dX10_count_128 ?_
    refine zt_Vi (As := []) dX10_count_131 lk_X10_299 sk26 rfl ⟨⟨by decide, by decide⟩, rfl, rfl⟩ rfl ⟨Nat.le_of_ble_eq_true rfl, rfl, rfl⟩ h (fun y2 S2 L2 h => ?_)
    exact zt_iret dX10_count_134 rfl h
  replace h := h.2
  by_cases q7 : what = 7
  · replace h := h.1 q7
    refine zi_tableIn (off := 134) (tgt := 135) dX10_count_1 (by rw [q7]; decide) (by rw [q7]; decide) (by rw [q7]; rfl) (by decide) ?_
    refine zi_aload_n dX10_count_135 rfl rfl ?_
    refine zi_getr fl_X10_68 sk0 rfl dX10_count_136 ?_
    refine zi_getr fl_X10_229 sk59 rfl dX10_count_139 ?_
    refine zi_geti fl_X10_151 sk60 rfl dX10_count_142 ?_
    exact zt_iret dX10_count_145 rfl h
  replace h := h.2
  by_cases q8 : what = 8
  · replace h := h.1 q8
    refine zi_tableIn (off := 145) (tgt := 146) dX10_count_1 (by rw [q8]; decide) (by rw [q8]; decide) (by rw [q8]; rfl) (by decide) ?_
    refine zi_aload_n dX10_count_146 rfl rfl ?_
    refine zi_getr fl_X10_82 sk0 rfl dX10_count_147 ?_
    refine zi_geti fl_X10_302 sk68 rfl dX10_count_150 ?_
    exact zt_iret dX10_count_153 rfl h
  replace h := h.2
  replace h := h q0 q1 q2 q3 q4 q5 q6 q7 q8
  have q0t := lv_neT q0 (show (0 : Int32).toInt = 0 by decide)
  have q1t := lv_neT q1 (show (1 : Int32).toInt = 1 by decide)
  have q2t := lv_neT q2 (show (2 : Int32).toInt = 2 by decide)
  have q3t := lv_neT q3 (show (3 : Int32).toInt = 3 by decide)
  have q4t := lv_neT q4 (show (4 : Int32).toInt = 4 by decide)
  have q5t := lv_neT q5 (show (5 : Int32).toInt = 5 by decide)
  have q6t := lv_neT q6 (show (6 : Int32).toInt = 6 by decide)
  have q7t := lv_neT q7 (show (7 : Int32).toInt = 7 by decide)
  have q8t := lv_neT q8 (show (8 : Int32).toInt = 8 by decide)
  refine zi_tableOut (tgt := 154) dX10_count_1 (by omega) (by decide) ?_
  refine zi_bipush (v := -2) dX10_count_154 (by decide) ?_
  exact zt_iret dX10_count_156 rfl h
theorem e_X10_count {what : Int32} {S : zS} {L : zL} {P : Int32 → zS → zL → Prop} (h : ∀ X, zU mX10_count X S L 0 [some (.ref 0), some (.int what)] [] (zpi P)) : zCi mX10_count S L [.ref 0, .int what] P := zCi_of pn_X10_count (Nat.le_of_ble_eq_true rfl) (fun X => zt_pad (j := 0) rfl (h X))
