set_option maxHeartbeats 2000000 in
theorem b_X7_append_1_0 {b : Int32} {X : Nat × (Nat → Int32)} {S : zS} {L : zL} {P : Int32 → zS → zL → Prop} (h : (((S 1 4) < 0 → P (-4 : Int32) S L) ∧ (¬ (S 1 4) < 0 → (((S 1 4) < (31 : Int32) → vp_in (S 1 4) 31 ∧ ∀ S1 : zS, S1 = zc S 2 (upd (S 2) (S 1 4).toNatClampNeg b) → ∀ S2 : zS, S2 = zc S1 1 (upd (S1 1) 4 ((S1 1 4) + (1 : Int32))) → P (S2 1 4) S2 L) ∧ (¬ (S 1 4) < (31 : Int32) → P (-4 : Int32) S L))))) : zU mX7_append X S L 0 [some (.ref 1), some (.int b)] [] (zpi P) := by
  refine zi_aload_n dX7_append_0 rfl rfl ?_
  refine zi_geti fl_X7_9 sk1 rfl dX7_append_1 ?_
  refine zi_if_lt (tgt := 19) dX7_append_4 (by decide) (fun q9 => ?_) (fun q9 => ?_)
  · replace h := h.1 q9
    refine zi_bipush (v := -4) dX7_append_19 (by decide) ?_
    exact zt_iret dX7_append_21 rfl h
  · replace h := h.2 q9
    refine zi_aload_n dX7_append_7 rfl rfl ?_
    refine zi_geti fl_X7_9 sk1 rfl dX7_append_8 ?_
    refine zi_aload_n dX7_append_11 rfl rfl ?_
    refine zi_getr fl_X7_21 sk1 rfl dX7_append_12 ?_
    refine zi_alen (v := 31) sk2 (by decide) dX7_append_15 ?_
    refine zi_icmp_lt (tgt := 22) dX7_append_16 (by decide) (fun q9 => ?_) (fun q9 => ?_)
    · replace h := h.1 q9
      refine zi_aload_n dX7_append_22 rfl rfl ?_
      refine zi_getr fl_X7_21 sk1 rfl dX7_append_23 ?_
      refine zi_aload_n dX7_append_26 rfl rfl ?_
      refine zi_geti fl_X7_9 sk1 rfl dX7_append_27 ?_
      refine zi_iload_n dX7_append_30 rfl rfl ?_
      refine zi_iast sk2 h.1 dX7_append_31 ?_
      replace h := h.2
      refine zt_nmS (fun S1 eS1 => ?_)
      replace h := h S1 eS1
      refine zi_aload_n dX7_append_32 rfl rfl ?_
      refine zi_dup dX7_append_33 rfl ?_
      refine zi_geti fl_X7_9 sk1 rfl dX7_append_34 ?_
      refine zi_iconst (v := 1) dX7_append_37 (by decide) ?_
      refine zi_iadd dX7_append_38 ?_
      refine zi_puti fp_X7_9 sk1 rfl dX7_append_39 ?_
      refine zt_nmS (fun S2 eS2 => ?_)
      replace h := h S2 eS2
      refine zi_aload_n dX7_append_42 rfl rfl ?_
      refine zi_geti fl_X7_9 sk1 rfl dX7_append_43 ?_
      exact zt_iret dX7_append_46 rfl h
    · replace h := h.2 q9
      refine zi_bipush (v := -4) dX7_append_19 (by decide) ?_
      exact zt_iret dX7_append_21 rfl h
theorem e_X7_append_1 {b : Int32} {S : zS} {L : zL} {P : Int32 → zS → zL → Prop} (h : ∀ X, zU mX7_append X S L 0 [some (.ref 1), some (.int b)] [] (zpi P)) : zCi mX7_append S L [.ref 1, .int b] P := zCi_of pn_X7_append (Nat.le_of_ble_eq_true rfl) (fun X => zt_pad (j := 0) rfl (h X))
set_option maxHeartbeats 2000000 in
theorem b_X7_append_3_0 {b : Int32} {X : Nat × (Nat → Int32)} {S : zS} {L : zL} {P : Int32 → zS → zL → Prop} (h : (((S 3 4) < 0 → P (-4 : Int32) S L) ∧ (¬ (S 3 4) < 0 → (((S 3 4) < (39 : Int32) → vp_in (S 3 4) 39 ∧ ∀ S1 : zS, S1 = zc S 4 (upd (S 4) (S 3 4).toNatClampNeg b) → ∀ S2 : zS, S2 = zc S1 3 (upd (S1 3) 4 ((S1 3 4) + (1 : Int32))) → P (S2 3 4) S2 L) ∧ (¬ (S 3 4) < (39 : Int32) → P (-4 : Int32) S L))))) : zU mX7_append X S L 0 [some (.ref 3), some (.int b)] [] (zpi P) := by
  refine zi_aload_n dX7_append_0 rfl rfl ?_
  refine zi_geti fl_X7_9 sk3 rfl dX7_append_1 ?_
  refine zi_if_lt (tgt := 19) dX7_append_4 (by decide) (fun q9 => ?_) (fun q9 => ?_)
  · replace h := h.1 q9
    refine zi_bipush (v := -4) dX7_append_19 (by decide) ?_
    exact zt_iret dX7_append_21 rfl h
  · replace h := h.2 q9
    refine zi_aload_n dX7_append_7 rfl rfl ?_
    refine zi_geti fl_X7_9 sk3 rfl dX7_append_8 ?_
    refine zi_aload_n dX7_append_11 rfl rfl ?_
    refine zi_getr fl_X7_21 sk3 rfl dX7_append_12 ?_
    refine zi_alen (v := 39) sk4 (by decide) dX7_append_15 ?_
    refine zi_icmp_lt (tgt := 22) dX7_append_16 (by decide) (fun q9 => ?_) (fun q9 => ?_)
    · replace h := h.1 q9
      refine zi_aload_n dX7_append_22 rfl rfl ?_
      refine zi_getr fl_X7_21 sk3 rfl dX7_append_23 ?_
      refine zi_aload_n dX7_append_26 rfl rfl ?_
      refine zi_geti fl_X7_9 sk3 rfl dX7_append_27 ?_
      refine zi_iload_n dX7_append_30 rfl rfl ?_
      refine zi_iast sk4 h.1 dX7_append_31 ?_
      replace h := h.2
      refine zt_nmS (fun S1 eS1 => ?_)
      replace h := h S1 eS1
      refine zi_aload_n dX7_append_32 rfl rfl ?_
      refine zi_dup dX7_append_33 rfl ?_
      refine zi_geti fl_X7_9 sk3 rfl dX7_append_34 ?_
      refine zi_iconst (v := 1) dX7_append_37 (by decide) ?_
      refine zi_iadd dX7_append_38 ?_
      refine zi_puti fp_X7_9 sk3 rfl dX7_append_39 ?_
      refine zt_nmS (fun S2 eS2 => ?_)
      replace h := h S2 eS2
      refine zi_aload_n dX7_append_42 rfl rfl ?_
      refine zi_geti fl_X7_9 sk3 rfl dX7_append_43 ?_
      exact zt_iret dX7_append_46 rfl h
    · replace h := h.2 q9
      refine zi_bipush (v := -4) dX7_append_19 (by decide) ?_
      exact zt_iret dX7_append_21 rfl h
theorem e_X7_append_3 {b : Int32} {S : zS} {L : zL} {P : Int32 → zS → zL → Prop} (h : ∀ X, zU mX7_append X S L 0 [some (.ref 3), some (.int b)] [] (zpi P)) : zCi mX7_append S L [.ref 3, .int b] P := zCi_of pn_X7_append (Nat.le_of_ble_eq_true rfl) (fun X => zt_pad (j := 0) rfl (h X))
set_option maxHeartbeats 2000000 in
theorem b_X7_meaningAt_1_0 {i : Int32} {X : Nat × (Nat → Int32)} {S : zS} {L : zL} {P : Int32 → zS → zL → Prop} (h : ((i < 0 → P (-1 : Int32) S L) ∧ (¬ i < 0 → ((i < (31 : Int32) → (((i - i / (4 : Int32) * (4 : Int32)) = 0 → vp_in i 31 ∧ zCi mJ0_indexOf_0f7a4 S L [.ref 1000, .int (((S 2 i.toNatClampNeg).toUInt32 % 65536).toInt32)] (fun y2 S1 L1 => P y2 S1 L1)) ∧ (¬ ((i - i / (4 : Int32) * (4 : Int32)) = 0) → (((i - i / (4 : Int32) * (4 : Int32)) = 1 → vp_in i 31 ∧ zCi mJ0_indexOf_0f7a4 S L [.ref 1001, .int (((S 2 i.toNatClampNeg).toUInt32 % 65536).toInt32)] (fun y2 S1 L1 => P y2 S1 L1)) ∧ (¬ ((i - i / (4 : Int32) * (4 : Int32)) = 1) → (((i - i / (4 : Int32) * (4 : Int32)) = 2 → vp_in i 31 ∧ zCi mJ0_indexOf_0f7a4 S L [.ref 1002, .int (((S 2 i.toNatClampNeg).toUInt32 % 65536).toInt32)] (fun y2 S1 L1 => P y2 S1 L1)) ∧ (¬ ((i - i / (4 : Int32) * (4 : Int32)) = 2) → vp_in i 31 ∧ zCi mJ0_indexOf_0f7a4 S L [.ref 1006, .int (((S 2 i.toNatClampNeg).toUInt32 % 65536).toInt32)] (fun y2 S1 L1 => P y2 S1 L1)))))))) ∧ (¬ i < (31 : Int32) → P (-1 : Int32) S L))))) : zU mX7_meaningAt X S L 0 [some (.ref 1), some (.int i)] [] (zpi P) := by
  refine zi_iload_n dX7_meaningAt_0 rfl rfl ?_
  refine zi_if_lt (tgt := 13) dX7_meaningAt_1 (by decide) (fun q9 => ?_) (fun q9 => ?_)
  · replace h := h.1 q9
    refine zi_iconst (v := -1) dX7_meaningAt_13 (by decide) ?_
    exact zt_iret dX7_meaningAt_14 rfl h
  · replace h := h.2 q9
    refine zi_iload_n dX7_meaningAt_4 rfl rfl ?_
    refine zi_aload_n dX7_meaningAt_5 rfl rfl ?_
    refine zi_getr fl_X7_21 sk1 rfl dX7_meaningAt_6 ?_
    refine zi_alen (v := 31) sk2 (by decide) dX7_meaningAt_9 ?_
    refine zi_icmp_lt (tgt := 15) dX7_meaningAt_10 (by decide) (fun q9 => ?_) (fun q9 => ?_)
    · replace h := h.1 q9
      refine zi_aload_n dX7_meaningAt_15 rfl rfl ?_
      refine zi_iload_n dX7_meaningAt_16 rfl rfl ?_
      refine zi_iconst (v := 4) dX7_meaningAt_17 (by decide) ?_
      refine zi_irem dX7_meaningAt_18 (by decide) ?_
      refine zt_Vr (As := [.int (i - i / (4 : Int32) * (4 : Int32))]) dX7_meaningAt_19 lk_X7_52 sk1 rfl ⟨⟨by decide, by decide⟩, rfl, rfl⟩ rfl ⟨Nat.le_of_ble_eq_true rfl, rfl, rfl⟩ (signsAt1_s (P := fun y S9 L9 => y = (if (i - i / (4 : Int32) * (4 : Int32)) = 0 then 1000 else if (i - i / (4 : Int32) * (4 : Int32)) = 1 then 1001 else if (i - i / (4 : Int32) * (4 : Int32)) = 2 then 1002 else 1006) ∧ S = S9 ∧ L = L9) ⟨rfl, rfl, rfl⟩) (fun y1 S9 L9 q9 => ?_)
      obtain ⟨ey1, rfl, rfl⟩ := q9
      by_cases q9 : (i - i / (4 : Int32) * (4 : Int32)) = 0
      · replace h := h.1 q9
        rw [if_pos q9] at ey1
        subst ey1
        refine zi_aload_n dX7_meaningAt_22 rfl rfl ?_
        refine zi_getr fl_X7_21 sk1 rfl dX7_meaningAt_23 ?_
        refine zi_iload_n dX7_meaningAt_26 rfl rfl ?_
        refine zi_iald sk2 h.1 dX7_meaningAt_27 ?_
        replace h := h.2
        refine zi_i2c dX7_meaningAt_28 ?_
        refine zt_Ti (As := [.int (((S 2 i.toNatClampNeg).toUInt32 % 65536).toInt32)]) (i := 0) dX7_meaningAt_29 lk_X7_56 (by decide) rfl ⟨⟨by decide, by decide⟩, rfl, rfl⟩ rfl ⟨Nat.le_of_ble_eq_true rfl, rfl, rfl⟩ h (fun y2 S1 L1 h => ?_)
        exact zt_iret dX7_meaningAt_32 rfl h
      · replace h := h.2 q9
        rw [if_neg q9] at ey1
        by_cases q9 : (i - i / (4 : Int32) * (4 : Int32)) = 1
        · replace h := h.1 q9
          rw [if_pos q9] at ey1
          subst ey1
          refine zi_aload_n dX7_meaningAt_22 rfl rfl ?_
          refine zi_getr fl_X7_21 sk1 rfl dX7_meaningAt_23 ?_
          refine zi_iload_n dX7_meaningAt_26 rfl rfl ?_
          refine zi_iald sk2 h.1 dX7_meaningAt_27 ?_
          replace h := h.2
          refine zi_i2c dX7_meaningAt_28 ?_
          refine zt_Ti (As := [.int (((S 2 i.toNatClampNeg).toUInt32 % 65536).toInt32)]) (i := 1) dX7_meaningAt_29 lk_X7_56 (by decide) rfl ⟨⟨by decide, by decide⟩, rfl, rfl⟩ rfl ⟨Nat.le_of_ble_eq_true rfl, rfl, rfl⟩ h (fun y2 S1 L1 h => ?_)
          exact zt_iret dX7_meaningAt_32 rfl h
        · replace h := h.2 q9
          rw [if_neg q9] at ey1
          by_cases q9 : (i - i / (4 : Int32) * (4 : Int32)) = 2
          · replace h := h.1 q9
            rw [if_pos q9] at ey1
            subst ey1
            refine zi_aload_n dX7_meaningAt_22 rfl rfl ?_
            refine zi_getr fl_X7_21 sk1 rfl dX7_meaningAt_23 ?_
            refine zi_iload_n dX7_meaningAt_26 rfl rfl ?_
            refine zi_iald sk2 h.1 dX7_meaningAt_27 ?_
            replace h := h.2
            refine zi_i2c dX7_meaningAt_28 ?_
            refine zt_Ti (As := [.int (((S 2 i.toNatClampNeg).toUInt32 % 65536).toInt32)]) (i := 2) dX7_meaningAt_29 lk_X7_56 (by decide) rfl ⟨⟨by decide, by decide⟩, rfl, rfl⟩ rfl ⟨Nat.le_of_ble_eq_true rfl, rfl, rfl⟩ h (fun y2 S1 L1 h => ?_)
            exact zt_iret dX7_meaningAt_32 rfl h
          · replace h := h.2 q9
            rw [if_neg q9] at ey1
            subst ey1
            refine zi_aload_n dX7_meaningAt_22 rfl rfl ?_
            refine zi_getr fl_X7_21 sk1 rfl dX7_meaningAt_23 ?_
            refine zi_iload_n dX7_meaningAt_26 rfl rfl ?_
            refine zi_iald sk2 h.1 dX7_meaningAt_27 ?_
            replace h := h.2
            refine zi_i2c dX7_meaningAt_28 ?_
            refine zt_Ti (As := [.int (((S 2 i.toNatClampNeg).toUInt32 % 65536).toInt32)]) (i := 6) dX7_meaningAt_29 lk_X7_56 (by decide) rfl ⟨⟨by decide, by decide⟩, rfl, rfl⟩ rfl ⟨Nat.le_of_ble_eq_true rfl, rfl, rfl⟩ h (fun y2 S1 L1 h => ?_)
            exact zt_iret dX7_meaningAt_32 rfl h
    · replace h := h.2 q9
      refine zi_iconst (v := -1) dX7_meaningAt_13 (by decide) ?_
      exact zt_iret dX7_meaningAt_14 rfl h
theorem e_X7_meaningAt_1 {i : Int32} {S : zS} {L : zL} {P : Int32 → zS → zL → Prop} (h : ∀ X, zU mX7_meaningAt X S L 0 [some (.ref 1), some (.int i)] [] (zpi P)) : zCi mX7_meaningAt S L [.ref 1, .int i] P := zCi_of pn_X7_meaningAt (Nat.le_of_ble_eq_true rfl) (fun X => zt_pad (j := 0) rfl (h X))
set_option maxHeartbeats 2000000 in
theorem b_X7_meaningAt_3_0 {i : Int32} {X : Nat × (Nat → Int32)} {S : zS} {L : zL} {P : Int32 → zS → zL → Prop} (h : ((i < 0 → P (-1 : Int32) S L) ∧ (¬ i < 0 → ((i < (39 : Int32) → (((i - i / (4 : Int32) * (4 : Int32)) = 0 → vp_in i 39 ∧ zCi mJ0_indexOf_0f7a4 S L [.ref 1003, .int (((S 4 i.toNatClampNeg).toUInt32 % 65536).toInt32)] (fun y2 S1 L1 => P y2 S1 L1)) ∧ (¬ ((i - i / (4 : Int32) * (4 : Int32)) = 0) → (((i - i / (4 : Int32) * (4 : Int32)) = 1 → vp_in i 39 ∧ zCi mJ0_indexOf_0f7a4 S L [.ref 1004, .int (((S 4 i.toNatClampNeg).toUInt32 % 65536).toInt32)] (fun y2 S1 L1 => P y2 S1 L1)) ∧ (¬ ((i - i / (4 : Int32) * (4 : Int32)) = 1) → (((i - i / (4 : Int32) * (4 : Int32)) = 2 → vp_in i 39 ∧ zCi mJ0_indexOf_0f7a4 S L [.ref 1005, .int (((S 4 i.toNatClampNeg).toUInt32 % 65536).toInt32)] (fun y2 S1 L1 => P y2 S1 L1)) ∧ (¬ ((i - i / (4 : Int32) * (4 : Int32)) = 2) → vp_in i 39 ∧ zCi mJ0_indexOf_0f7a4 S L [.ref 1006, .int (((S 4 i.toNatClampNeg).toUInt32 % 65536).toInt32)] (fun y2 S1 L1 => P y2 S1 L1)))))))) ∧ (¬ i < (39 : Int32) → P (-1 : Int32) S L))))) : zU mX7_meaningAt X S L 0 [some (.ref 3), some (.int i)] [] (zpi P) := by
  refine zi_iload_n dX7_meaningAt_0 rfl rfl ?_
  refine zi_if_lt (tgt := 13) dX7_meaningAt_1 (by decide) (fun q9 => ?_) (fun q9 => ?_)
  · replace h := h.1 q9
    refine zi_iconst (v := -1) dX7_meaningAt_13 (by decide) ?_
    exact zt_iret dX7_meaningAt_14 rfl h
  · replace h := h.2 q9
    refine zi_iload_n dX7_meaningAt_4 rfl rfl ?_
    refine zi_aload_n dX7_meaningAt_5 rfl rfl ?_
    refine zi_getr fl_X7_21 sk3 rfl dX7_meaningAt_6 ?_
    refine zi_alen (v := 39) sk4 (by decide) dX7_meaningAt_9 ?_
    refine zi_icmp_lt (tgt := 15) dX7_meaningAt_10 (by decide) (fun q9 => ?_) (fun q9 => ?_)
    · replace h := h.1 q9
      refine zi_aload_n dX7_meaningAt_15 rfl rfl ?_
      refine zi_iload_n dX7_meaningAt_16 rfl rfl ?_
      refine zi_iconst (v := 4) dX7_meaningAt_17 (by decide) ?_
      refine zi_irem dX7_meaningAt_18 (by decide) ?_
      refine zt_Vr (As := [.int (i - i / (4 : Int32) * (4 : Int32))]) dX7_meaningAt_19 lk_X7_52 sk3 rfl ⟨⟨by decide, by decide⟩, rfl, rfl⟩ rfl ⟨Nat.le_of_ble_eq_true rfl, rfl, rfl⟩ (signsAt3_s (P := fun y S9 L9 => y = (if (i - i / (4 : Int32) * (4 : Int32)) = 0 then 1003 else if (i - i / (4 : Int32) * (4 : Int32)) = 1 then 1004 else if (i - i / (4 : Int32) * (4 : Int32)) = 2 then 1005 else 1006) ∧ S = S9 ∧ L = L9) ⟨rfl, rfl, rfl⟩) (fun y1 S9 L9 q9 => ?_)
      obtain ⟨ey1, rfl, rfl⟩ := q9
      by_cases q9 : (i - i / (4 : Int32) * (4 : Int32)) = 0
      · replace h := h.1 q9
        rw [if_pos q9] at ey1
        subst ey1
        refine zi_aload_n dX7_meaningAt_22 rfl rfl ?_
        refine zi_getr fl_X7_21 sk3 rfl dX7_meaningAt_23 ?_
        refine zi_iload_n dX7_meaningAt_26 rfl rfl ?_
        refine zi_iald sk4 h.1 dX7_meaningAt_27 ?_
        replace h := h.2
        refine zi_i2c dX7_meaningAt_28 ?_
        refine zt_Ti (As := [.int (((S 4 i.toNatClampNeg).toUInt32 % 65536).toInt32)]) (i := 3) dX7_meaningAt_29 lk_X7_56 (by decide) rfl ⟨⟨by decide, by decide⟩, rfl, rfl⟩ rfl ⟨Nat.le_of_ble_eq_true rfl, rfl, rfl⟩ h (fun y2 S1 L1 h => ?_)
        exact zt_iret dX7_meaningAt_32 rfl h
      · replace h := h.2 q9
        rw [if_neg q9] at ey1
        by_cases q9 : (i - i / (4 : Int32) * (4 : Int32)) = 1
        · replace h := h.1 q9
          rw [if_pos q9] at ey1
          subst ey1
          refine zi_aload_n dX7_meaningAt_22 rfl rfl ?_
          refine zi_getr fl_X7_21 sk3 rfl dX7_meaningAt_23 ?_
          refine zi_iload_n dX7_meaningAt_26 rfl rfl ?_
          refine zi_iald sk4 h.1 dX7_meaningAt_27 ?_
          replace h := h.2
          refine zi_i2c dX7_meaningAt_28 ?_
          refine zt_Ti (As := [.int (((S 4 i.toNatClampNeg).toUInt32 % 65536).toInt32)]) (i := 4) dX7_meaningAt_29 lk_X7_56 (by decide) rfl ⟨⟨by decide, by decide⟩, rfl, rfl⟩ rfl ⟨Nat.le_of_ble_eq_true rfl, rfl, rfl⟩ h (fun y2 S1 L1 h => ?_)
          exact zt_iret dX7_meaningAt_32 rfl h
        · replace h := h.2 q9
          rw [if_neg q9] at ey1
          by_cases q9 : (i - i / (4 : Int32) * (4 : Int32)) = 2
          · replace h := h.1 q9
            rw [if_pos q9] at ey1
            subst ey1
            refine zi_aload_n dX7_meaningAt_22 rfl rfl ?_
            refine zi_getr fl_X7_21 sk3 rfl dX7_meaningAt_23 ?_
            refine zi_iload_n dX7_meaningAt_26 rfl rfl ?_
            refine zi_iald sk4 h.1 dX7_meaningAt_27 ?_
            replace h := h.2
            refine zi_i2c dX7_meaningAt_28 ?_
            refine zt_Ti (As := [.int (((S 4 i.toNatClampNeg).toUInt32 % 65536).toInt32)]) (i := 5) dX7_meaningAt_29 lk_X7_56 (by decide) rfl ⟨⟨by decide, by decide⟩, rfl, rfl⟩ rfl ⟨Nat.le_of_ble_eq_true rfl, rfl, rfl⟩ h (fun y2 S1 L1 h => ?_)
            exact zt_iret dX7_meaningAt_32 rfl h
          · replace h := h.2 q9
            rw [if_neg q9] at ey1
            subst ey1
            refine zi_aload_n dX7_meaningAt_22 rfl rfl ?_
            refine zi_getr fl_X7_21 sk3 rfl dX7_meaningAt_23 ?_
            refine zi_iload_n dX7_meaningAt_26 rfl rfl ?_
            refine zi_iald sk4 h.1 dX7_meaningAt_27 ?_
            replace h := h.2
            refine zi_i2c dX7_meaningAt_28 ?_
            refine zt_Ti (As := [.int (((S 4 i.toNatClampNeg).toUInt32 % 65536).toInt32)]) (i := 6) dX7_meaningAt_29 lk_X7_56 (by decide) rfl ⟨⟨by decide, by decide⟩, rfl, rfl⟩ rfl ⟨Nat.le_of_ble_eq_true rfl, rfl, rfl⟩ h (fun y2 S1 L1 h => ?_)
            exact zt_iret dX7_meaningAt_32 rfl h
    · replace h := h.2 q9
      refine zi_iconst (v := -1) dX7_meaningAt_13 (by decide) ?_
      exact zt_iret dX7_meaningAt_14 rfl h
theorem e_X7_meaningAt_3 {i : Int32} {S : zS} {L : zL} {P : Int32 → zS → zL → Prop} (h : ∀ X, zU mX7_meaningAt X S L 0 [some (.ref 3), some (.int i)] [] (zpi P)) : zCi mX7_meaningAt S L [.ref 3, .int i] P := zCi_of pn_X7_meaningAt (Nat.le_of_ble_eq_true rfl) (fun X => zt_pad (j := 0) rfl (h X))
set_option maxHeartbeats 2000000 in
theorem b_X7_faultPlace_1_0 {X : Nat × (Nat → Int32)} {S : zS} {L : zL} {P : Int32 → zS → zL → Prop} (h : zU mX7_faultPlace X S L 2 [some (.ref 1), some (.int (0 : Int32))] [] (zpi P)) : zU mX7_faultPlace X S L 0 [some (.ref 1), none] [] (zpi P) := by
  refine zi_iconst (v := 0) dX7_faultPlace_0 (by decide) ?_
  refine zi_istore_n dX7_faultPlace_1 rfl (by decide) rfl ?_
  refine zt_drop (lv' := [some (.ref 1), some (.int (0 : Int32))]) [true, true] rfl ?_
  exact h
set_option maxHeartbeats 2000000 in
theorem b_X7_faultPlace_1_2 {v1 : Int32} {X : Nat × (Nat → Int32)} {S : zS} {L : zL} {P : Int32 → zS → zL → Prop} (h : (((S 1 4) ≤ v1 → (((S 1 4) = 0 → P (-1 : Int32) S L) ∧ (¬ (S 1 4) = 0 → ((¬ ((S 1 4) - (S 1 4) / (4 : Int32) * (4 : Int32)) = (3 : Int32) → P (S 1 4) S L) ∧ (((S 1 4) - (S 1 4) / (4 : Int32) * (4 : Int32)) = (3 : Int32) → P (-1 : Int32) S L))))) ∧ (¬ (S 1 4) ≤ v1 → zCi mX7_meaningAt S L [.ref 1, .int v1] (fun y1 S1 L1 => ((0 ≤ y1 → ∀ x1 : Int32, x1 = v1 + (1 : Int32) → zU mX7_faultPlace X S1 L1 2 [some (.ref 1), some (.int x1)] [] (zpi P)) ∧ (¬ 0 ≤ y1 → P v1 S1 L1)))))) : zU mX7_faultPlace X S L 2 [some (.ref 1), some (.int v1)] [] (zpi P) := by
  refine zi_iload_n dX7_faultPlace_2 rfl rfl ?_
  refine zi_aload_n dX7_faultPlace_3 rfl rfl ?_
  refine zi_geti fl_X7_9 sk1 rfl dX7_faultPlace_4 ?_
  refine zi_icmp_ge (tgt := 26) dX7_faultPlace_7 (by decide) (fun q9 => ?_) (fun q9 => ?_)
  · replace h := h.1 q9
    refine zi_aload_n dX7_faultPlace_26 rfl rfl ?_
    refine zi_geti fl_X7_9 sk1 rfl dX7_faultPlace_27 ?_
    refine zi_if_eq (tgt := 43) dX7_faultPlace_30 (by decide) (fun q9 => ?_) (fun q9 => ?_)
    · replace h := h.1 q9
      refine zi_iconst (v := -1) dX7_faultPlace_43 (by decide) ?_
      refine zi_goto (tgt := 51) dX7_faultPlace_44 (by decide) ?_
      exact zt_iret dX7_faultPlace_51 rfl h
    · replace h := h.2 q9
      refine zi_aload_n dX7_faultPlace_33 rfl rfl ?_
      refine zi_geti fl_X7_9 sk1 rfl dX7_faultPlace_34 ?_
      refine zi_iconst (v := 4) dX7_faultPlace_37 (by decide) ?_
      refine zi_irem dX7_faultPlace_38 (by decide) ?_
      refine zi_iconst (v := 3) dX7_faultPlace_39 (by decide) ?_
      refine zi_icmp_ne (tgt := 47) dX7_faultPlace_40 (by decide) (fun q9 => ?_) (fun q9 => ?_)
      · replace h := h.1 q9
        refine zi_aload_n dX7_faultPlace_47 rfl rfl ?_
        refine zi_geti fl_X7_9 sk1 rfl dX7_faultPlace_48 ?_
        exact zt_iret dX7_faultPlace_51 rfl h
      · replace h := h.2 q9
        refine zi_iconst (v := -1) dX7_faultPlace_43 (by decide) ?_
        refine zi_goto (tgt := 51) dX7_faultPlace_44 (by decide) ?_
        exact zt_iret dX7_faultPlace_51 rfl h
  · replace h := h.2 q9
    refine zi_aload_n dX7_faultPlace_10 rfl rfl ?_
    refine zi_iload_n dX7_faultPlace_11 rfl rfl ?_
    refine zt_Vi (As := [.int v1]) dX7_faultPlace_12 lk_X7_35 sk1 rfl ⟨⟨by decide, by decide⟩, rfl, rfl⟩ rfl ⟨Nat.le_of_ble_eq_true rfl, rfl, rfl⟩ h (fun y1 S1 L1 h => ?_)
    refine zi_if_ge (tgt := 20) dX7_faultPlace_15 (by decide) (fun q9 => ?_) (fun q9 => ?_)
    · replace h := h.1 q9
      obtain ⟨x1, ex1⟩ : ∃ y : Int32, y = v1 + (1 : Int32) := ⟨_, rfl⟩
      replace h := h x1 ex1
      refine zi_iinc (v := x1) dX7_faultPlace_20 rfl (by rw [ex1]; rfl) (by decide) rfl ?_
      refine zi_goto (tgt := 2) dX7_faultPlace_23 (by decide) ?_
      refine zt_drop (lv' := [some (.ref 1), some (.int x1)]) [true, true] rfl ?_
      exact h
    · replace h := h.2 q9
      refine zi_iload_n dX7_faultPlace_18 rfl rfl ?_
      exact zt_iret dX7_faultPlace_19 rfl h
theorem e_X7_faultPlace_1 {S : zS} {L : zL} {P : Int32 → zS → zL → Prop} (h : ∀ X, zU mX7_faultPlace X S L 0 [some (.ref 1), none] [] (zpi P)) : zCi mX7_faultPlace S L [.ref 1] P := zCi_of pn_X7_faultPlace (Nat.le_of_ble_eq_true rfl) (fun X => zt_pad (j := 1) rfl (h X))
set_option maxHeartbeats 2000000 in
theorem b_X7_faultPlace_3_0 {X : Nat × (Nat → Int32)} {S : zS} {L : zL} {P : Int32 → zS → zL → Prop} (h : zU mX7_faultPlace X S L 2 [some (.ref 3), some (.int (0 : Int32))] [] (zpi P)) : zU mX7_faultPlace X S L 0 [some (.ref 3), none] [] (zpi P) := by
  refine zi_iconst (v := 0) dX7_faultPlace_0 (by decide) ?_
  refine zi_istore_n dX7_faultPlace_1 rfl (by decide) rfl ?_
  refine zt_drop (lv' := [some (.ref 3), some (.int (0 : Int32))]) [true, true] rfl ?_
  exact h
set_option maxHeartbeats 2000000 in
theorem b_X7_faultPlace_3_2 {v1 : Int32} {X : Nat × (Nat → Int32)} {S : zS} {L : zL} {P : Int32 → zS → zL → Prop} (h : (((S 3 4) ≤ v1 → (((S 3 4) = 0 → P (-1 : Int32) S L) ∧ (¬ (S 3 4) = 0 → ((¬ ((S 3 4) - (S 3 4) / (4 : Int32) * (4 : Int32)) = (3 : Int32) → P (S 3 4) S L) ∧ (((S 3 4) - (S 3 4) / (4 : Int32) * (4 : Int32)) = (3 : Int32) → P (-1 : Int32) S L))))) ∧ (¬ (S 3 4) ≤ v1 → zCi mX7_meaningAt S L [.ref 3, .int v1] (fun y1 S1 L1 => ((0 ≤ y1 → ∀ x1 : Int32, x1 = v1 + (1 : Int32) → zU mX7_faultPlace X S1 L1 2 [some (.ref 3), some (.int x1)] [] (zpi P)) ∧ (¬ 0 ≤ y1 → P v1 S1 L1)))))) : zU mX7_faultPlace X S L 2 [some (.ref 3), some (.int v1)] [] (zpi P) := by
  refine zi_iload_n dX7_faultPlace_2 rfl rfl ?_
  refine zi_aload_n dX7_faultPlace_3 rfl rfl ?_
  refine zi_geti fl_X7_9 sk3 rfl dX7_faultPlace_4 ?_
  refine zi_icmp_ge (tgt := 26) dX7_faultPlace_7 (by decide) (fun q9 => ?_) (fun q9 => ?_)
  · replace h := h.1 q9
    refine zi_aload_n dX7_faultPlace_26 rfl rfl ?_
    refine zi_geti fl_X7_9 sk3 rfl dX7_faultPlace_27 ?_
    refine zi_if_eq (tgt := 43) dX7_faultPlace_30 (by decide) (fun q9 => ?_) (fun q9 => ?_)
    · replace h := h.1 q9
      refine zi_iconst (v := -1) dX7_faultPlace_43 (by decide) ?_
      refine zi_goto (tgt := 51) dX7_faultPlace_44 (by decide) ?_
      exact zt_iret dX7_faultPlace_51 rfl h
    · replace h := h.2 q9
      refine zi_aload_n dX7_faultPlace_33 rfl rfl ?_
      refine zi_geti fl_X7_9 sk3 rfl dX7_faultPlace_34 ?_
      refine zi_iconst (v := 4) dX7_faultPlace_37 (by decide) ?_
      refine zi_irem dX7_faultPlace_38 (by decide) ?_
      refine zi_iconst (v := 3) dX7_faultPlace_39 (by decide) ?_
      refine zi_icmp_ne (tgt := 47) dX7_faultPlace_40 (by decide) (fun q9 => ?_) (fun q9 => ?_)
      · replace h := h.1 q9
        refine zi_aload_n dX7_faultPlace_47 rfl rfl ?_
        refine zi_geti fl_X7_9 sk3 rfl dX7_faultPlace_48 ?_
        exact zt_iret dX7_faultPlace_51 rfl h
      · replace h := h.2 q9
        refine zi_iconst (v := -1) dX7_faultPlace_43 (by decide) ?_
        refine zi_goto (tgt := 51) dX7_faultPlace_44 (by decide) ?_
        exact zt_iret dX7_faultPlace_51 rfl h
  · replace h := h.2 q9
    refine zi_aload_n dX7_faultPlace_10 rfl rfl ?_
    refine zi_iload_n dX7_faultPlace_11 rfl rfl ?_
    refine zt_Vi (As := [.int v1]) dX7_faultPlace_12 lk_X7_35 sk3 rfl ⟨⟨by decide, by decide⟩, rfl, rfl⟩ rfl ⟨Nat.le_of_ble_eq_true rfl, rfl, rfl⟩ h (fun y1 S1 L1 h => ?_)
    refine zi_if_ge (tgt := 20) dX7_faultPlace_15 (by decide) (fun q9 => ?_) (fun q9 => ?_)
    · replace h := h.1 q9
      obtain ⟨x1, ex1⟩ : ∃ y : Int32, y = v1 + (1 : Int32) := ⟨_, rfl⟩
      replace h := h x1 ex1
      refine zi_iinc (v := x1) dX7_faultPlace_20 rfl (by rw [ex1]; rfl) (by decide) rfl ?_
      refine zi_goto (tgt := 2) dX7_faultPlace_23 (by decide) ?_
      refine zt_drop (lv' := [some (.ref 3), some (.int x1)]) [true, true] rfl ?_
      exact h
    · replace h := h.2 q9
      refine zi_iload_n dX7_faultPlace_18 rfl rfl ?_
      exact zt_iret dX7_faultPlace_19 rfl h
theorem e_X7_faultPlace_3 {S : zS} {L : zL} {P : Int32 → zS → zL → Prop} (h : ∀ X, zU mX7_faultPlace X S L 0 [some (.ref 3), none] [] (zpi P)) : zCi mX7_faultPlace S L [.ref 3] P := zCi_of pn_X7_faultPlace (Nat.le_of_ble_eq_true rfl) (fun X => zt_pad (j := 1) rfl (h X))
set_option maxHeartbeats 2000000 in
theorem b_X7_readInto_1_0 {X : Nat × (Nat → Int32)} {S : zS} {L : zL} {P : zS → zL → Prop} (h : ∀ S1 : zS, S1 = zc S 6 (upd (S 6) 3 (0 : Int32)) → zCi mX7_faultPlace S1 L [.ref 1] (fun y1 S2 L1 => ((y1 = (-1 : Int32) → zU mX7_readInto X S2 L1 16 [some (.ref 1), some (.ref 6), some (.int (0 : Int32))] [] (zpv P)) ∧ (¬ y1 = (-1 : Int32) → P S2 L1)))) : zU mX7_readInto X S L 0 [some (.ref 1), some (.ref 6), none] [] (zpv P) := by
  refine zi_aload_n dX7_readInto_0 rfl rfl ?_
  refine zi_iconst (v := 0) dX7_readInto_1 (by decide) ?_
  refine zi_puti fp_X7_39 sk6 rfl dX7_readInto_2 ?_
  refine zt_nmS (fun S1 eS1 => ?_)
  replace h := h S1 eS1
  refine zi_aload_n dX7_readInto_5 rfl rfl ?_
  refine zt_Vi (As := []) dX7_readInto_6 lk_X7_44 sk1 rfl ⟨⟨by decide, by decide⟩, rfl, rfl⟩ rfl ⟨Nat.le_of_ble_eq_true rfl, rfl, rfl⟩ h (fun y1 S2 L1 h => ?_)
  refine zi_iconst (v := -1) dX7_readInto_9 (by decide) ?_
  refine zi_icmp_eq (tgt := 14) dX7_readInto_10 (by decide) (fun q9 => ?_) (fun q9 => ?_)
  · replace h := h.1 q9
    refine zi_iconst (v := 0) dX7_readInto_14 (by decide) ?_
    refine zi_istore_n dX7_readInto_15 rfl (by decide) rfl ?_
    refine zt_drop (lv' := [some (.ref 1), some (.ref 6), some (.int (0 : Int32))]) [true, true, true] rfl ?_
    exact h
  · replace h := h.2 q9
    exact zt_vret dX7_readInto_13 rfl h
set_option maxHeartbeats 2000000 in
theorem b_X7_readInto_1_16 {v2 : Int32} {X : Nat × (Nat → Int32)} {S : zS} {L : zL} {P : zS → zL → Prop} (h : (((S 1 4) ≤ (v2 + (2 : Int32)) → P S L) ∧ (¬ (S 1 4) ≤ (v2 + (2 : Int32)) → zCi mX7_meaningAt S L [.ref 1, .int v2] (fun y1 S1 L1 => zCi mX7_meaningAt S1 L1 [.ref 1, .int (v2 + (1 : Int32))] (fun y2 S2 L2 => zCi mX7_meaningAt S2 L2 [.ref 1, .int (v2 + (2 : Int32))] (fun y3 S3 L3 => zCi mX5_append S3 L3 [.ref 6, .int y1, .int y2, .int y3] (fun y4 S4 L4 => ∀ x1 : Int32, x1 = v2 + (4 : Int32) → zU mX7_readInto X S4 L4 16 [some (.ref 1), some (.ref 6), some (.int x1)] [] (zpv P)))))))) : zU mX7_readInto X S L 16 [some (.ref 1), some (.ref 6), some (.int v2)] [] (zpv P) := by
  refine zi_iload_n dX7_readInto_16 rfl rfl ?_
  refine zi_iconst (v := 2) dX7_readInto_17 (by decide) ?_
  refine zi_iadd dX7_readInto_18 ?_
  refine zi_aload_n dX7_readInto_19 rfl rfl ?_
  refine zi_geti fl_X7_9 sk1 rfl dX7_readInto_20 ?_
  refine zi_icmp_ge (tgt := 56) dX7_readInto_23 (by decide) (fun q9 => ?_) (fun q9 => ?_)
  · replace h := h.1 q9
    exact zt_vret dX7_readInto_56 rfl h
  · replace h := h.2 q9
    refine zi_aload_n dX7_readInto_26 rfl rfl ?_
    refine zi_aload_n dX7_readInto_27 rfl rfl ?_
    refine zi_iload_n dX7_readInto_28 rfl rfl ?_
    refine zt_Vi (As := [.int v2]) dX7_readInto_29 lk_X7_35 sk1 rfl ⟨⟨by decide, by decide⟩, rfl, rfl⟩ rfl ⟨Nat.le_of_ble_eq_true rfl, rfl, rfl⟩ h (fun y1 S1 L1 h => ?_)
    refine zi_aload_n dX7_readInto_32 rfl rfl ?_
    refine zi_iload_n dX7_readInto_33 rfl rfl ?_
    refine zi_iconst (v := 1) dX7_readInto_34 (by decide) ?_
    refine zi_iadd dX7_readInto_35 ?_
    refine zt_Vi (As := [.int (v2 + (1 : Int32))]) dX7_readInto_36 lk_X7_35 sk1 rfl ⟨⟨by decide, by decide⟩, rfl, rfl⟩ rfl ⟨Nat.le_of_ble_eq_true rfl, rfl, rfl⟩ h (fun y2 S2 L2 h => ?_)
    refine zi_aload_n dX7_readInto_39 rfl rfl ?_
    refine zi_iload_n dX7_readInto_40 rfl rfl ?_
    refine zi_iconst (v := 2) dX7_readInto_41 (by decide) ?_
    refine zi_iadd dX7_readInto_42 ?_
    refine zt_Vi (As := [.int (v2 + (2 : Int32))]) dX7_readInto_43 lk_X7_35 sk1 rfl ⟨⟨by decide, by decide⟩, rfl, rfl⟩ rfl ⟨Nat.le_of_ble_eq_true rfl, rfl, rfl⟩ h (fun y3 S3 L3 h => ?_)
    refine zt_Vi (As := [.int y1, .int y2, .int y3]) dX7_readInto_46 lk_X7_48 sk6 rfl ⟨⟨by decide, by decide⟩, rfl, rfl⟩ rfl ⟨Nat.le_of_ble_eq_true rfl, rfl, rfl⟩ h (fun y4 S4 L4 h => ?_)
    refine zi_pop dX7_readInto_49 rfl ?_
    obtain ⟨x1, ex1⟩ : ∃ y : Int32, y = v2 + (4 : Int32) := ⟨_, rfl⟩
    replace h := h x1 ex1
    refine zi_iinc (v := x1) dX7_readInto_50 rfl (by rw [ex1]; rfl) (by decide) rfl ?_
    refine zi_goto (tgt := 16) dX7_readInto_53 (by decide) ?_
    refine zt_drop (lv' := [some (.ref 1), some (.ref 6), some (.int x1)]) [true, true, true] rfl ?_
    exact h
theorem e_X7_readInto_1 {S : zS} {L : zL} {P : zS → zL → Prop} (h : ∀ X, zU mX7_readInto X S L 0 [some (.ref 1), some (.ref 6), none] [] (zpv P)) : zCv mX7_readInto S L [.ref 1, .ref 6] P := zCv_of pn_X7_readInto (Nat.le_of_ble_eq_true rfl) (fun X => zt_pad (j := 1) rfl (h X))
set_option maxHeartbeats 2000000 in
theorem b_X7_readInto_3_0 {X : Nat × (Nat → Int32)} {S : zS} {L : zL} {P : zS → zL → Prop} (h : ∀ S1 : zS, S1 = zc S 10 (upd (S 10) 3 (0 : Int32)) → zCi mX7_faultPlace S1 L [.ref 3] (fun y1 S2 L1 => ((y1 = (-1 : Int32) → zU mX7_readInto X S2 L1 16 [some (.ref 3), some (.ref 10), some (.int (0 : Int32))] [] (zpv P)) ∧ (¬ y1 = (-1 : Int32) → P S2 L1)))) : zU mX7_readInto X S L 0 [some (.ref 3), some (.ref 10), none] [] (zpv P) := by
  refine zi_aload_n dX7_readInto_0 rfl rfl ?_
  refine zi_iconst (v := 0) dX7_readInto_1 (by decide) ?_
  refine zi_puti fp_X7_39 sk10 rfl dX7_readInto_2 ?_
  refine zt_nmS (fun S1 eS1 => ?_)
  replace h := h S1 eS1
  refine zi_aload_n dX7_readInto_5 rfl rfl ?_
  refine zt_Vi (As := []) dX7_readInto_6 lk_X7_44 sk3 rfl ⟨⟨by decide, by decide⟩, rfl, rfl⟩ rfl ⟨Nat.le_of_ble_eq_true rfl, rfl, rfl⟩ h (fun y1 S2 L1 h => ?_)
  refine zi_iconst (v := -1) dX7_readInto_9 (by decide) ?_
  refine zi_icmp_eq (tgt := 14) dX7_readInto_10 (by decide) (fun q9 => ?_) (fun q9 => ?_)
  · replace h := h.1 q9
    refine zi_iconst (v := 0) dX7_readInto_14 (by decide) ?_
    refine zi_istore_n dX7_readInto_15 rfl (by decide) rfl ?_
    refine zt_drop (lv' := [some (.ref 3), some (.ref 10), some (.int (0 : Int32))]) [true, true, true] rfl ?_
    exact h
  · replace h := h.2 q9
    exact zt_vret dX7_readInto_13 rfl h
set_option maxHeartbeats 2000000 in
theorem b_X7_readInto_3_16 {v2 : Int32} {X : Nat × (Nat → Int32)} {S : zS} {L : zL} {P : zS → zL → Prop} (h : (((S 3 4) ≤ (v2 + (2 : Int32)) → P S L) ∧ (¬ (S 3 4) ≤ (v2 + (2 : Int32)) → zCi mX7_meaningAt S L [.ref 3, .int v2] (fun y1 S1 L1 => zCi mX7_meaningAt S1 L1 [.ref 3, .int (v2 + (1 : Int32))] (fun y2 S2 L2 => zCi mX7_meaningAt S2 L2 [.ref 3, .int (v2 + (2 : Int32))] (fun y3 S3 L3 => zCi mX5_append S3 L3 [.ref 10, .int y1, .int y2, .int y3] (fun y4 S4 L4 => ∀ x1 : Int32, x1 = v2 + (4 : Int32) → zU mX7_readInto X S4 L4 16 [some (.ref 3), some (.ref 10), some (.int x1)] [] (zpv P)))))))) : zU mX7_readInto X S L 16 [some (.ref 3), some (.ref 10), some (.int v2)] [] (zpv P) := by
  refine zi_iload_n dX7_readInto_16 rfl rfl ?_
  refine zi_iconst (v := 2) dX7_readInto_17 (by decide) ?_
  refine zi_iadd dX7_readInto_18 ?_
  refine zi_aload_n dX7_readInto_19 rfl rfl ?_
  refine zi_geti fl_X7_9 sk3 rfl dX7_readInto_20 ?_
  refine zi_icmp_ge (tgt := 56) dX7_readInto_23 (by decide) (fun q9 => ?_) (fun q9 => ?_)
  · replace h := h.1 q9
    exact zt_vret dX7_readInto_56 rfl h
  · replace h := h.2 q9
    refine zi_aload_n dX7_readInto_26 rfl rfl ?_
    refine zi_aload_n dX7_readInto_27 rfl rfl ?_
    refine zi_iload_n dX7_readInto_28 rfl rfl ?_
    refine zt_Vi (As := [.int v2]) dX7_readInto_29 lk_X7_35 sk3 rfl ⟨⟨by decide, by decide⟩, rfl, rfl⟩ rfl ⟨Nat.le_of_ble_eq_true rfl, rfl, rfl⟩ h (fun y1 S1 L1 h => ?_)
    refine zi_aload_n dX7_readInto_32 rfl rfl ?_
    refine zi_iload_n dX7_readInto_33 rfl rfl ?_
    refine zi_iconst (v := 1) dX7_readInto_34 (by decide) ?_
    refine zi_iadd dX7_readInto_35 ?_
    refine zt_Vi (As := [.int (v2 + (1 : Int32))]) dX7_readInto_36 lk_X7_35 sk3 rfl ⟨⟨by decide, by decide⟩, rfl, rfl⟩ rfl ⟨Nat.le_of_ble_eq_true rfl, rfl, rfl⟩ h (fun y2 S2 L2 h => ?_)
    refine zi_aload_n dX7_readInto_39 rfl rfl ?_
    refine zi_iload_n dX7_readInto_40 rfl rfl ?_
    refine zi_iconst (v := 2) dX7_readInto_41 (by decide) ?_
    refine zi_iadd dX7_readInto_42 ?_
    refine zt_Vi (As := [.int (v2 + (2 : Int32))]) dX7_readInto_43 lk_X7_35 sk3 rfl ⟨⟨by decide, by decide⟩, rfl, rfl⟩ rfl ⟨Nat.le_of_ble_eq_true rfl, rfl, rfl⟩ h (fun y3 S3 L3 h => ?_)
    refine zt_Vi (As := [.int y1, .int y2, .int y3]) dX7_readInto_46 lk_X7_48 sk10 rfl ⟨⟨by decide, by decide⟩, rfl, rfl⟩ rfl ⟨Nat.le_of_ble_eq_true rfl, rfl, rfl⟩ h (fun y4 S4 L4 h => ?_)
    refine zi_pop dX7_readInto_49 rfl ?_
    obtain ⟨x1, ex1⟩ : ∃ y : Int32, y = v2 + (4 : Int32) := ⟨_, rfl⟩
    replace h := h x1 ex1
    refine zi_iinc (v := x1) dX7_readInto_50 rfl (by rw [ex1]; rfl) (by decide) rfl ?_
    refine zi_goto (tgt := 16) dX7_readInto_53 (by decide) ?_
    refine zt_drop (lv' := [some (.ref 3), some (.ref 10), some (.int x1)]) [true, true, true] rfl ?_
    exact h
theorem e_X7_readInto_3 {S : zS} {L : zL} {P : zS → zL → Prop} (h : ∀ X, zU mX7_readInto X S L 0 [some (.ref 3), some (.ref 10), none] [] (zpv P)) : zCv mX7_readInto S L [.ref 3, .ref 10] P := zCv_of pn_X7_readInto (Nat.le_of_ble_eq_true rfl) (fun X => zt_pad (j := 1) rfl (h X))
