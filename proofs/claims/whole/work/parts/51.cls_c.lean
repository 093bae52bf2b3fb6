set_option maxHeartbeats 2000000 in
theorem b_X10_settle_0 {X : Nat × (Nat → Int32)} {S : zS} {L : zL} {P : zS → zL → Prop} (h : ((¬ (S 0 9) = 0 → P S L) ∧ ((S 0 9) = 0 → zCv mX2_run S L [.ref 26, .int (23 : Int32)] (fun S1 L1 => ∀ S2 : zS, S2 = zc S1 0 (upd (S1 0) 9 (1 : Int32)) → P S2 L1)))) : zU mX10_settle X S L 0 [some (.ref 0)] [] (zpv P) := by
  refine zi_aload_n dX10_settle_0 rfl rfl ?_
  refine zi_geti fl_X10_86 sk0 rfl dX10_settle_1 ?_
  refine zi_if_ne (tgt := 21) dX10_settle_4 (by decide) (fun q9 => ?_) (fun q9 => ?_)
  · replace h := h.1 q9
    exact zt_vret dX10_settle_21 rfl h
  · replace h := h.2 q9
    refine zi_aload_n dX10_settle_7 rfl rfl ?_
    refine zi_getr fl_X10_45 sk0 rfl dX10_settle_8 ?_
    refine zi_bipush (v := 23) dX10_settle_11 (by decide) ?_
    refine zt_Vv (As := [.int (23 : Int32)]) dX10_settle_13 lk_X10_378 sk26 rfl ⟨⟨by decide, by decide⟩, rfl, rfl⟩ rfl ⟨Nat.le_of_ble_eq_true rfl, rfl, rfl⟩ h (fun S1 L1 h => ?_)
    refine zi_aload_n dX10_settle_16 rfl rfl ?_
    refine zi_iconst (v := 1) dX10_settle_17 (by decide) ?_
    refine zi_putv fp_X10_86 sk0 rfl rfl rfl dX10_settle_18 ?_
    refine zt_nmS (fun S2 eS2 => ?_)
    replace h := h S2 eS2
    exact zt_vret dX10_settle_21 rfl h
theorem e_X10_settle {S : zS} {L : zL} {P : zS → zL → Prop} (h : ∀ X, zU mX10_settle X S L 0 [some (.ref 0)] [] (zpv P)) : zCv mX10_settle S L [.ref 0] P := zCv_of pn_X10_settle (Nat.le_of_ble_eq_true rfl) (fun X => zt_pad (j := 0) rfl (h X))
set_option maxHeartbeats 2000000 in
theorem b_X10_unsettle_0 {X : Nat × (Nat → Int32)} {S : zS} {L : zL} {P : zS → zL → Prop} (h : ∀ S1 : zS, S1 = zc S 0 (upd (S 0) 9 (0 : Int32)) → zCv mX4_unsettle S1 L [.ref 56] (fun S2 L1 => zCv mX9_unsettle S2 L1 [.ref 59] (fun S3 L2 => zCv mX0_unsettle S3 L2 [.ref 65] (fun S4 L3 => P S4 L3)))) : zU mX10_unsettle X S L 0 [some (.ref 0)] [] (zpv P) := by
  refine zi_aload_n dX10_unsettle_0 rfl rfl ?_
  refine zi_iconst (v := 0) dX10_unsettle_1 (by decide) ?_
  refine zi_putv fp_X10_86 sk0 rfl rfl rfl dX10_unsettle_2 ?_
  refine zt_nmS (fun S1 eS1 => ?_)
  replace h := h S1 eS1
  refine zi_aload_n dX10_unsettle_5 rfl rfl ?_
  refine zi_getr fl_X10_61 sk0 rfl dX10_unsettle_6 ?_
  refine zt_Vv (As := []) dX10_unsettle_9 lk_X10_376 sk56 rfl ⟨⟨by decide, by decide⟩, rfl, rfl⟩ rfl ⟨Nat.le_of_ble_eq_true rfl, rfl, rfl⟩ h (fun S2 L1 h => ?_)
  refine zi_aload_n dX10_unsettle_12 rfl rfl ?_
  refine zi_getr fl_X10_68 sk0 rfl dX10_unsettle_13 ?_
  refine zt_Vv (As := []) dX10_unsettle_16 lk_X10_232 sk59 rfl ⟨⟨by decide, by decide⟩, rfl, rfl⟩ rfl ⟨Nat.le_of_ble_eq_true rfl, rfl, rfl⟩ h (fun S3 L2 h => ?_)
  refine zi_aload_n dX10_unsettle_19 rfl rfl ?_
  refine zi_getr fl_X10_75 sk0 rfl dX10_unsettle_20 ?_
  refine zt_Vv (As := []) dX10_unsettle_23 lk_X10_377 sk65 rfl ⟨⟨by decide, by decide⟩, rfl, rfl⟩ rfl ⟨Nat.le_of_ble_eq_true rfl, rfl, rfl⟩ h (fun S4 L3 h => ?_)
  exact zt_vret dX10_unsettle_26 rfl h
theorem e_X10_unsettle {S : zS} {L : zL} {P : zS → zL → Prop} (h : ∀ X, zU mX10_unsettle X S L 0 [some (.ref 0)] [] (zpv P)) : zCv mX10_unsettle S L [.ref 0] P := zCv_of pn_X10_unsettle (Nat.le_of_ble_eq_true rfl) (fun X => zt_pad (j := 0) rfl (h X))
set_option maxHeartbeats 2000000 in
theorem b_X4_unsettle_0 {X : Nat × (Nat → Int32)} {S : zS} {L : zL} {P : zS → zL → Prop} (h : ∀ S1 : zS, S1 = zc S 56 (upd (S 56) 3 (0 : Int32)) → ∀ S2 : zS, S2 = zc S1 56 (upd (S1 56) 4 (-1 : Int32)) → ∀ S3 : zS, S3 = zc S2 56 (upd (S2 56) 8 (-1 : Int32)) → P S3 L) : zU mX4_unsettle X S L 0 [some (.ref 56)] [] (zpv P) := by
  refine zi_aload_n dX4_unsettle_0 rfl rfl ?_
  refine zi_iconst (v := 0) dX4_unsettle_1 (by decide) ?_
  refine zi_puti fp_X4_22 sk56 rfl dX4_unsettle_2 ?_
  refine zt_nmS (fun S1 eS1 => ?_)
  replace h := h S1 eS1
  refine zi_aload_n dX4_unsettle_5 rfl rfl ?_
  refine zi_iconst (v := -1) dX4_unsettle_6 (by decide) ?_
  refine zi_puti fp_X4_26 sk56 rfl dX4_unsettle_7 ?_
  refine zt_nmS (fun S2 eS2 => ?_)
  replace h := h S2 eS2
  refine zi_aload_n dX4_unsettle_10 rfl rfl ?_
  refine zi_iconst (v := -1) dX4_unsettle_11 (by decide) ?_
  refine zi_puti fp_X4_38 sk56 rfl dX4_unsettle_12 ?_
  refine zt_nmS (fun S3 eS3 => ?_)
  replace h := h S3 eS3
  exact zt_vret dX4_unsettle_15 rfl h
theorem e_X4_unsettle {S : zS} {L : zL} {P : zS → zL → Prop} (h : ∀ X, zU mX4_unsettle X S L 0 [some (.ref 56)] [] (zpv P)) : zCv mX4_unsettle S L [.ref 56] P := zCv_of pn_X4_unsettle (Nat.le_of_ble_eq_true rfl) (fun X => zt_pad (j := 0) rfl (h X))
set_option maxHeartbeats 2000000 in
theorem b_X9_unsettle_0 {X : Nat × (Nat → Int32)} {S : zS} {L : zL} {P : zS → zL → Prop} (h : ∀ S1 : zS, S1 = zc S 59 (upd (S 59) 4 (0 : Int32)) → P S1 L) : zU mX9_unsettle X S L 0 [some (.ref 59)] [] (zpv P) := by
  refine zi_aload_n dX9_unsettle_0 rfl rfl ?_
  refine zi_iconst (v := 0) dX9_unsettle_1 (by decide) ?_
  refine zi_putv fp_X9_28 sk59 rfl rfl rfl dX9_unsettle_2 ?_
  refine zt_nmS (fun S1 eS1 => ?_)
  replace h := h S1 eS1
  exact zt_vret dX9_unsettle_5 rfl h
theorem e_X9_unsettle {S : zS} {L : zL} {P : zS → zL → Prop} (h : ∀ X, zU mX9_unsettle X S L 0 [some (.ref 59)] [] (zpv P)) : zCv mX9_unsettle S L [.ref 59] P := zCv_of pn_X9_unsettle (Nat.le_of_ble_eq_true rfl) (fun X => zt_pad (j := 0) rfl (h X))
set_option maxHeartbeats 2000000 in
theorem b_X0_unsettle_0 {X : Nat × (Nat → Int32)} {S : zS} {L : zL} {P : zS → zL → Prop} (h : ∀ S1 : zS, S1 = zc S 65 (upd (S 65) 3 (-1 : Int32)) → P S1 L) : zU mX0_unsettle X S L 0 [some (.ref 65)] [] (zpv P) := by
  refine zi_aload_n dX0_unsettle_0 rfl rfl ?_
  refine zi_iconst (v := -1) dX0_unsettle_1 (by decide) ?_
  refine zi_puti fp_X0_18 sk65 rfl dX0_unsettle_2 ?_
  refine zt_nmS (fun S1 eS1 => ?_)
  replace h := h S1 eS1
  exact zt_vret dX0_unsettle_5 rfl h
theorem e_X0_unsettle {S : zS} {L : zL} {P : zS → zL → Prop} (h : ∀ X, zU mX0_unsettle X S L 0 [some (.ref 65)] [] (zpv P)) : zCv mX0_unsettle S L [.ref 65] P := zCv_of pn_X0_unsettle (Nat.le_of_ble_eq_true rfl) (fun X => zt_pad (j := 0) rfl (h X))
set_option maxHeartbeats 2000000 in
theorem b_X10_readTexts_0 {X : Nat × (Nat → Int32)} {S : zS} {L : zL} {P : zS → zL → Prop} (h : zCv mX7_readInto S L [.ref 1, .ref 6] (fun S1 L1 => zCv mX7_readInto S1 L1 [.ref 3, .ref 10] (fun S2 L2 => zCv mX10_unsettle S2 L2 [.ref 0] (fun S3 L3 => P S3 L3)))) : zU mX10_readTexts X S L 0 [some (.ref 0)] [] (zpv P) := by
  refine zi_aload_n dX10_readTexts_0 rfl rfl ?_
  refine zi_getr fl_X10_20 sk0 rfl dX10_readTexts_1 ?_
  refine zi_aload_n dX10_readTexts_4 rfl rfl ?_
  refine zi_getr fl_X10_36 sk0 rfl dX10_readTexts_5 ?_
  refine zi_getr fl_X10_117 sk5 rfl dX10_readTexts_8 ?_
  refine zt_Vv (As := [.ref 6]) dX10_readTexts_11 lk_X10_372 sk1 rfl ⟨⟨by decide, by decide⟩, rfl, rfl⟩ rfl ⟨Nat.le_of_ble_eq_true rfl, rfl, rfl⟩ h (fun S1 L1 h => ?_)
  refine zi_aload_n dX10_readTexts_14 rfl rfl ?_
  refine zi_getr fl_X10_30 sk0 rfl dX10_readTexts_15 ?_
  refine zi_aload_n dX10_readTexts_18 rfl rfl ?_
  refine zi_getr fl_X10_36 sk0 rfl dX10_readTexts_19 ?_
  refine zi_getr fl_X10_130 sk5 rfl dX10_readTexts_22 ?_
  refine zt_Vv (As := [.ref 10]) dX10_readTexts_25 lk_X10_372 sk3 rfl ⟨⟨by decide, by decide⟩, rfl, rfl⟩ rfl ⟨Nat.le_of_ble_eq_true rfl, rfl, rfl⟩ h (fun S2 L2 h => ?_)
  refine zi_aload_n dX10_readTexts_28 rfl rfl ?_
  refine zt_Vv (As := []) dX10_readTexts_29 lk_X10_139 sk0 rfl ⟨⟨by decide, by decide⟩, rfl, rfl⟩ rfl ⟨Nat.le_of_ble_eq_true rfl, rfl, rfl⟩ h (fun S3 L3 h => ?_)
  exact zt_vret dX10_readTexts_32 rfl h
theorem e_X10_readTexts {S : zS} {L : zL} {P : zS → zL → Prop} (h : ∀ X, zU mX10_readTexts X S L 0 [some (.ref 0)] [] (zpv P)) : zCv mX10_readTexts S L [.ref 0] P := zCv_of pn_X10_readTexts (Nat.le_of_ble_eq_true rfl) (fun X => zt_pad (j := 0) rfl (h X))
set_option maxHeartbeats 2000000 in
theorem b_X10_type_0 {text : Int32} {b : Int32} {X : Nat × (Nat → Int32)} {S : zS} {L : zL} {P : Int32 → zS → zL → Prop} (h : ((((0 : Int32) ≤ text ∧ text ≤ (1 : Int32)) → ((((0 : Int32) ≤ b ∧ b ≤ (255 : Int32)) → ((text = 0 → zCi mX7_append S L [.ref 1, .int b] (fun y4 S1 L1 => ((y4 = (-4 : Int32) → P y4 S1 L1) ∧ (¬ y4 = (-4 : Int32) → zCv mX10_readTexts S1 L1 [.ref 0] (fun S2 L2 => P y4 S2 L2))))) ∧ (¬ (text = 0) → zCi mX7_append S L [.ref 3, .int b] (fun y4 S1 L1 => ((y4 = (-4 : Int32) → P y4 S1 L1) ∧ (¬ y4 = (-4 : Int32) → zCv mX10_readTexts S1 L1 [.ref 0] (fun S2 L2 => P y4 S2 L2))))))) ∧ (¬ ((0 : Int32) ≤ b ∧ b ≤ (255 : Int32)) → P (-2 : Int32) S L))) ∧ (¬ ((0 : Int32) ≤ text ∧ text ≤ (1 : Int32)) → P (-2 : Int32) S L))) : zU mX10_type X S L 0 [some (.ref 0), some (.int text), some (.int b), none] [] (zpi P) := by
  refine zi_iload_n dX10_type_0 rfl rfl ?_
  refine zi_iconst (v := 0) dX10_type_1 (by decide) ?_
  refine zi_iconst (v := 1) dX10_type_2 (by decide) ?_
  refine zt_Si (As := [.int text, .int (0 : Int32), .int (1 : Int32)]) dX10_type_3 lk_X10_90 ⟨⟨by decide, by decide⟩, rfl, rfl⟩ rfl ⟨Nat.le_of_ble_eq_true rfl, rfl, rfl⟩ (within_s (P := fun y S9 L9 => y = (if ((0 : Int32) ≤ text ∧ text ≤ (1 : Int32)) then (1 : Int32) else 0) ∧ S = S9 ∧ L = L9) ⟨rfl, rfl, rfl⟩) (fun y1 S9 L9 q9 => ?_)
  obtain ⟨ey1, rfl, rfl⟩ := q9
  by_cases q9 : ((0 : Int32) ≤ text ∧ text ≤ (1 : Int32))
  · replace h := h.1 q9
    rw [if_pos q9] at ey1
    subst ey1
    refine zi_if_eq (tgt := 20) dX10_type_6 (by decide) (fun z9 => absurd z9 (by decide)) (fun _ => ?_)
    refine zi_iload_n dX10_type_9 rfl rfl ?_
    refine zi_iconst (v := 0) dX10_type_10 (by decide) ?_
    refine zi_sipush (v := 255) dX10_type_11 (by decide) ?_
    refine zt_Si (As := [.int b, .int (0 : Int32), .int (255 : Int32)]) dX10_type_14 lk_X10_90 ⟨⟨by decide, by decide⟩, rfl, rfl⟩ rfl ⟨Nat.le_of_ble_eq_true rfl, rfl, rfl⟩ (within_s (P := fun y S9 L9 => y = (if ((0 : Int32) ≤ b ∧ b ≤ (255 : Int32)) then (1 : Int32) else 0) ∧ S = S9 ∧ L = L9) ⟨rfl, rfl, rfl⟩) (fun y2 S9 L9 q9 => ?_)
    obtain ⟨ey2, rfl, rfl⟩ := q9
    by_cases q9 : ((0 : Int32) ≤ b ∧ b ≤ (255 : Int32))
    · replace h := h.1 q9
      rw [if_pos q9] at ey2
      subst ey2
      refine zi_if_ne (tgt := 23) dX10_type_17 (by decide) (fun _ => ?_) (fun z9 => absurd z9 (by decide))
      refine zi_aload_n dX10_type_23 rfl rfl ?_
      refine zi_iload_n dX10_type_24 rfl rfl ?_
      refine zt_Vr (As := [.int text]) dX10_type_25 lk_X10_94 sk0 rfl ⟨⟨by decide, by decide⟩, rfl, rfl⟩ rfl ⟨Nat.le_of_ble_eq_true rfl, rfl, rfl⟩ (textOf_s (P := fun y S9 L9 => y = (if text = 0 then 1 else 3) ∧ S = S9 ∧ L = L9) ⟨rfl, rfl, rfl⟩) (fun y3 S9 L9 q9 => ?_)
      obtain ⟨ey3, rfl, rfl⟩ := q9
      by_cases q9 : text = 0
      · replace h := h.1 q9
        rw [if_pos q9] at ey3
        subst ey3
        refine zi_iload_n dX10_type_28 rfl rfl ?_
        refine zt_Vi (As := [.int b]) dX10_type_29 lk_X10_98 sk1 rfl ⟨⟨by decide, by decide⟩, rfl, rfl⟩ rfl ⟨Nat.le_of_ble_eq_true rfl, rfl, rfl⟩ h (fun y4 S1 L1 h => ?_)
        refine zi_istore_n dX10_type_32 rfl (by decide) rfl ?_
        refine zi_iload_n dX10_type_33 rfl rfl ?_
        refine zi_bipush (v := -4) dX10_type_34 (by decide) ?_
        refine zi_icmp_eq (tgt := 43) dX10_type_36 (by decide) (fun q9 => ?_) (fun q9 => ?_)
        · replace h := h.1 q9
          refine zi_iload_n dX10_type_43 rfl rfl ?_
          exact zt_iret dX10_type_44 rfl h
        · replace h := h.2 q9
          refine zi_aload_n dX10_type_39 rfl rfl ?_
          refine zt_Vv (As := []) dX10_type_40 lk_X10_102 sk0 rfl ⟨⟨by decide, by decide⟩, rfl, rfl⟩ rfl ⟨Nat.le_of_ble_eq_true rfl, rfl, rfl⟩ h (fun S2 L2 h => ?_)
          refine zi_iload_n dX10_type_43 rfl rfl ?_
          exact zt_iret dX10_type_44 rfl h
      · replace h := h.2 q9
        rw [if_neg q9] at ey3
        subst ey3
        refine zi_iload_n dX10_type_28 rfl rfl ?_
        refine zt_Vi (As := [.int b]) dX10_type_29 lk_X10_98 sk3 rfl ⟨⟨by decide, by decide⟩, rfl, rfl⟩ rfl ⟨Nat.le_of_ble_eq_true rfl, rfl, rfl⟩ h (fun y4 S1 L1 h => ?_)
        refine zi_istore_n dX10_type_32 rfl (by decide) rfl ?_
        refine zi_iload_n dX10_type_33 rfl rfl ?_
        refine zi_bipush (v := -4) dX10_type_34 (by decide) ?_
        refine zi_icmp_eq (tgt := 43) dX10_type_36 (by decide) (fun q9 => ?_) (fun q9 => ?_)
        · replace h := h.1 q9
          refine zi_iload_n dX10_type_43 rfl rfl ?_
          exact zt_iret dX10_type_44 rfl h
        · replace h := h.2 q9
          refine zi_aload_n dX10_type_39 rfl rfl ?_
          refine zt_Vv (As := []) dX10_type_40 lk_X10_102 sk0 rfl ⟨⟨by decide, by decide⟩, rfl, rfl⟩ rfl ⟨Nat.le_of_ble_eq_true rfl, rfl, rfl⟩ h (fun S2 L2 h => ?_)
          refine zi_iload_n dX10_type_43 rfl rfl ?_
          exact zt_iret dX10_type_44 rfl h
    · replace h := h.2 q9
      rw [if_neg q9] at ey2
      subst ey2
      refine zi_if_ne (tgt := 23) dX10_type_17 (by decide) (fun z9 => absurd rfl z9) (fun _ => ?_)
      refine zi_bipush (v := -2) dX10_type_20 (by decide) ?_
      exact zt_iret dX10_type_22 rfl h
  · replace h := h.2 q9
    rw [if_neg q9] at ey1
    subst ey1
    refine zi_if_eq (tgt := 20) dX10_type_6 (by decide) (fun _ => ?_) (fun z9 => absurd rfl z9)
    refine zi_bipush (v := -2) dX10_type_20 (by decide) ?_
    exact zt_iret dX10_type_22 rfl h
theorem e_X10_type {text : Int32} {b : Int32} {S : zS} {L : zL} {P : Int32 → zS → zL → Prop} (h : ∀ X, zU mX10_type X S L 0 [some (.ref 0), some (.int text), some (.int b), none] [] (zpi P)) : zCi mX10_type S L [.ref 0, .int text, .int b] P := zCi_of pn_X10_type (Nat.le_of_ble_eq_true rfl) (fun X => zt_pad (j := 1) rfl (h X))
set_option maxHeartbeats 2000000 in
theorem b_X10_wipe_0 {text : Int32} {X : Nat × (Nat → Int32)} {S : zS} {L : zL} {P : Int32 → zS → zL → Prop} (h : ((((0 : Int32) ≤ text ∧ text ≤ (1 : Int32)) → ((text = 0 → ∀ x1 : Int32, x1 = (S 1 4) → ((text = 0 → ∀ S1 : zS, S1 = zc S 1 (upd (S 1) 4 (0 : Int32)) → zCv mX10_readTexts S1 L [.ref 0] (fun S2 L1 => P x1 S2 L1)) ∧ (¬ (text = 0) → ∀ S1 : zS, S1 = zc S 3 (upd (S 3) 4 (0 : Int32)) → zCv mX10_readTexts S1 L [.ref 0] (fun S2 L1 => P x1 S2 L1)))) ∧ (¬ (text = 0) → ∀ x1 : Int32, x1 = (S 3 4) → ((text = 0 → ∀ S1 : zS, S1 = zc S 1 (upd (S 1) 4 (0 : Int32)) → zCv mX10_readTexts S1 L [.ref 0] (fun S2 L1 => P x1 S2 L1)) ∧ (¬ (text = 0) → ∀ S1 : zS, S1 = zc S 3 (upd (S 3) 4 (0 : Int32)) → zCv mX10_readTexts S1 L [.ref 0] (fun S2 L1 => P x1 S2 L1)))))) ∧ (¬ ((0 : Int32) ≤ text ∧ text ≤ (1 : Int32)) → P (-2 : Int32) S L))) : zU mX10_wipe X S L 0 [some (.ref 0), some (.int text), none] [] (zpi P) := by
  refine zi_iload_n dX10_wipe_0 rfl rfl ?_
  refine zi_iconst (v := 0) dX10_wipe_1 (by decide) ?_
  refine zi_iconst (v := 1) dX10_wipe_2 (by decide) ?_
  refine zt_Si (As := [.int text, .int (0 : Int32), .int (1 : Int32)]) dX10_wipe_3 lk_X10_90 ⟨⟨by decide, by decide⟩, rfl, rfl⟩ rfl ⟨Nat.le_of_ble_eq_true rfl, rfl, rfl⟩ (within_s (P := fun y S9 L9 => y = (if ((0 : Int32) ≤ text ∧ text ≤ (1 : Int32)) then (1 : Int32) else 0) ∧ S = S9 ∧ L = L9) ⟨rfl, rfl, rfl⟩) (fun y1 S9 L9 q9 => ?_)
  obtain ⟨ey1, rfl, rfl⟩ := q9
  by_cases q9 : ((0 : Int32) ≤ text ∧ text ≤ (1 : Int32))
  · replace h := h.1 q9
    rw [if_pos q9] at ey1
    subst ey1
    refine zi_if_ne (tgt := 12) dX10_wipe_6 (by decide) (fun _ => ?_) (fun z9 => absurd z9 (by decide))
    refine zi_aload_n dX10_wipe_12 rfl rfl ?_
    refine zi_iload_n dX10_wipe_13 rfl rfl ?_
    refine zt_Vr (As := [.int text]) dX10_wipe_14 lk_X10_94 sk0 rfl ⟨⟨by decide, by decide⟩, rfl, rfl⟩ rfl ⟨Nat.le_of_ble_eq_true rfl, rfl, rfl⟩ (textOf_s (P := fun y S9 L9 => y = (if text = 0 then 1 else 3) ∧ S = S9 ∧ L = L9) ⟨rfl, rfl, rfl⟩) (fun y2 S9 L9 q9 => ?_)
    obtain ⟨ey2, rfl, rfl⟩ := q9
    by_cases q9 : text = 0
    · replace h := h.1 q9
      rw [if_pos q9] at ey2
      subst ey2
      refine zi_geti fl_X10_105 sk1 rfl dX10_wipe_17 ?_
      refine zt_nmi (fun x1 ex1 => ?_)
      replace h := h x1 ex1
      refine zi_istore_n dX10_wipe_20 rfl (by decide) rfl ?_
      refine zi_aload_n dX10_wipe_21 rfl rfl ?_
      refine zi_iload_n dX10_wipe_22 rfl rfl ?_
      refine zt_Vr (As := [.int text]) dX10_wipe_23 lk_X10_94 sk0 rfl ⟨⟨by decide, by decide⟩, rfl, rfl⟩ rfl ⟨Nat.le_of_ble_eq_true rfl, rfl, rfl⟩ (textOf_s (P := fun y S9 L9 => y = (if text = 0 then 1 else 3) ∧ S = S9 ∧ L = L9) ⟨rfl, rfl, rfl⟩) (fun y3 S9 L9 q9 => ?_)
      obtain ⟨ey3, rfl, rfl⟩ := q9
      by_cases q9 : text = 0
      · replace h := h.1 q9
        rw [if_pos q9] at ey3
        subst ey3
        refine zi_iconst (v := 0) dX10_wipe_26 (by decide) ?_
        refine zi_puti fp_X10_105 sk1 rfl dX10_wipe_27 ?_
        refine zt_nmS (fun S1 eS1 => ?_)
        replace h := h S1 eS1
        refine zi_aload_n dX10_wipe_30 rfl rfl ?_
        refine zt_Vv (As := []) dX10_wipe_31 lk_X10_102 sk0 rfl ⟨⟨by decide, by decide⟩, rfl, rfl⟩ rfl ⟨Nat.le_of_ble_eq_true rfl, rfl, rfl⟩ h (fun S2 L1 h => ?_)
        refine zi_iload_n dX10_wipe_34 rfl rfl ?_
        exact zt_iret dX10_wipe_35 rfl h
      · replace h := h.2 q9
        rw [if_neg q9] at ey3
        subst ey3
        refine zi_iconst (v := 0) dX10_wipe_26 (by decide) ?_
        refine zi_puti fp_X10_105 sk3 rfl dX10_wipe_27 ?_
        refine zt_nmS (fun S1 eS1 => ?_)
        replace h := h S1 eS1
        refine zi_aload_n dX10_wipe_30 rfl rfl ?_
        refine zt_Vv (As := []) dX10_wipe_31 lk_X10_102 sk0 rfl ⟨⟨by decide, by decide⟩, rfl, rfl⟩ rfl ⟨Nat.le_of_ble_eq_true rfl, rfl, rfl⟩ h (fun S2 L1 h => ?_)
        refine zi_iload_n dX10_wipe_34 rfl rfl ?_
        exact zt_iret dX10_wipe_35 rfl h
    · replace h := h.2 q9
      rw [if_neg q9] at ey2
      subst ey2
      refine zi_geti fl_X10_105 sk3 rfl dX10_wipe_17 ?_
      refine zt_nmi (fun x1 ex1 => ?_)
      replace h := h x1 ex1
      refine zi_istore_n dX10_wipe_20 rfl (by decide) rfl ?_
      refine zi_aload_n dX10_wipe_21 rfl rfl ?_
      refine zi_iload_n dX10_wipe_22 rfl rfl ?_
      refine zt_Vr (As := [.int text]) dX10_wipe_23 lk_X10_94 sk0 rfl ⟨⟨by decide, by decide⟩, rfl, rfl⟩ rfl ⟨Nat.le_of_ble_eq_true rfl, rfl, rfl⟩ (textOf_s (P := fun y S9 L9 => y = (if text = 0 then 1 else 3) ∧ S = S9 ∧ L = L9) ⟨rfl, rfl, rfl⟩) (fun y3 S9 L9 q9 => ?_)
      obtain ⟨ey3, rfl, rfl⟩ := q9
      by_cases q9 : text = 0
      · replace h := h.1 q9
        rw [if_pos q9] at ey3
        subst ey3
        refine zi_iconst (v := 0) dX10_wipe_26 (by decide) ?_
        refine zi_puti fp_X10_105 sk1 rfl dX10_wipe_27 ?_
        refine zt_nmS (fun S1 eS1 => ?_)
        replace h := h S1 eS1
        refine zi_aload_n dX10_wipe_30 rfl rfl ?_
        refine zt_Vv (As := []) dX10_wipe_31 lk_X10_102 sk0 rfl ⟨⟨by decide, by decide⟩, rfl, rfl⟩ rfl ⟨Nat.le_of_ble_eq_true rfl, rfl, rfl⟩ h (fun S2 L1 h => ?_)
        refine zi_iload_n dX10_wipe_34 rfl rfl ?_
        exact zt_iret dX10_wipe_35 rfl h
      · replace h := h.2 q9
        rw [if_neg q9] at ey3
        subst ey3
        refine zi_iconst (v := 0) dX10_wipe_26 (by decide) ?_
        refine zi_puti fp_X10_105 sk3 rfl dX10_wipe_27 ?_
        refine zt_nmS (fun S1 eS1 => ?_)
        replace h := h S1 eS1
        refine zi_aload_n dX10_wipe_30 rfl rfl ?_
        refine zt_Vv (As := []) dX10_wipe_31 lk_X10_102 sk0 rfl ⟨⟨by decide, by decide⟩, rfl, rfl⟩ rfl ⟨Nat.le_of_ble_eq_true rfl, rfl, rfl⟩ h (fun S2 L1 h => ?_)
        refine zi_iload_n dX10_wipe_34 rfl rfl ?_
        exact zt_iret dX10_wipe_35 rfl h
  · replace h := h.2 q9
    rw [if_neg q9] at ey1
    subst ey1
    refine zi_if_ne (tgt := 12) dX10_wipe_6 (by decide) (fun z9 => absurd rfl z9) (fun _ => ?_)
    refine zi_bipush (v := -2) dX10_wipe_9 (by decide) ?_
    exact zt_iret dX10_wipe_11 rfl h
theorem e_X10_wipe {text : Int32} {S : zS} {L : zL} {P : Int32 → zS → zL → Prop} (h : ∀ X, zU mX10_wipe X S L 0 [some (.ref 0), some (.int text), none] [] (zpi P)) : zCi mX10_wipe S L [.ref 0, .int text] P := zCi_of pn_X10_wipe (Nat.le_of_ble_eq_true rfl) (fun X => zt_pad (j := 1) rfl (h X))
set_option maxHeartbeats 2000000 in
theorem b_X10_undo_0 {text : Int32} {X : Nat × (Nat → Int32)} {S : zS} {L : zL} {P : Int32 → zS → zL → Prop} (h : ((((0 : Int32) ≤ text ∧ text ≤ (1 : Int32)) → ((text = 0 → ((0 < (S 1 4) → ((text = 0 → ∀ S1 : zS, S1 = zc S 1 (upd (S 1) 4 ((S 1 4) - (1 : Int32))) → zCv mX10_readTexts S1 L [.ref 0] (fun S2 L1 => ((text = 0 → P (S2 1 4) S2 L1) ∧ (¬ (text = 0) → P (S2 3 4) S2 L1)))) ∧ (¬ (text = 0) → ∀ S1 : zS, S1 = zc S 3 (upd (S 3) 4 ((S 3 4) - (1 : Int32))) → zCv mX10_readTexts S1 L [.ref 0] (fun S2 L1 => ((text = 0 → P (S2 1 4) S2 L1) ∧ (¬ (text = 0) → P (S2 3 4) S2 L1)))))) ∧ (¬ 0 < (S 1 4) → P (-3 : Int32) S L))) ∧ (¬ (text = 0) → ((0 < (S 3 4) → ((text = 0 → ∀ S1 : zS, S1 = zc S 1 (upd (S 1) 4 ((S 1 4) - (1 : Int32))) → zCv mX10_readTexts S1 L [.ref 0] (fun S2 L1 => ((text = 0 → P (S2 1 4) S2 L1) ∧ (¬ (text = 0) → P (S2 3 4) S2 L1)))) ∧ (¬ (text = 0) → ∀ S1 : zS, S1 = zc S 3 (upd (S 3) 4 ((S 3 4) - (1 : Int32))) → zCv mX10_readTexts S1 L [.ref 0] (fun S2 L1 => ((text = 0 → P (S2 1 4) S2 L1) ∧ (¬ (text = 0) → P (S2 3 4) S2 L1)))))) ∧ (¬ 0 < (S 3 4) → P (-3 : Int32) S L))))) ∧ (¬ ((0 : Int32) ≤ text ∧ text ≤ (1 : Int32)) → P (-2 : Int32) S L))) : zU mX10_undo X S L 0 [some (.ref 0), some (.int text)] [] (zpi P) := by
  refine zi_iload_n dX10_undo_0 rfl rfl ?_
  refine zi_iconst (v := 0) dX10_undo_1 (by decide) ?_
  refine zi_iconst (v := 1) dX10_undo_2 (by decide) ?_
  refine zt_Si (As := [.int text, .int (0 : Int32), .int (1 : Int32)]) dX10_undo_3 lk_X10_90 ⟨⟨by decide, by decide⟩, rfl, rfl⟩ rfl ⟨Nat.le_of_ble_eq_true rfl, rfl, rfl⟩ (within_s (P := fun y S9 L9 => y = (if ((0 : Int32) ≤ text ∧ text ≤ (1 : Int32)) then (1 : Int32) else 0) ∧ S = S9 ∧ L = L9) ⟨rfl, rfl, rfl⟩) (fun y1 S9 L9 q9 => ?_)
  obtain ⟨ey1, rfl, rfl⟩ := q9
  by_cases q9 : ((0 : Int32) ≤ text ∧ text ≤ (1 : Int32))
  · replace h := h.1 q9
    rw [if_pos q9] at ey1
    subst ey1
    refine zi_if_ne (tgt := 12) dX10_undo_6 (by decide) (fun _ => ?_) (fun z9 => absurd z9 (by decide))
    refine zi_aload_n dX10_undo_12 rfl rfl ?_
    refine zi_iload_n dX10_undo_13 rfl rfl ?_
    refine zt_Vr (As := [.int text]) dX10_undo_14 lk_X10_94 sk0 rfl ⟨⟨by decide, by decide⟩, rfl, rfl⟩ rfl ⟨Nat.le_of_ble_eq_true rfl, rfl, rfl⟩ (textOf_s (P := fun y S9 L9 => y = (if text = 0 then 1 else 3) ∧ S = S9 ∧ L = L9) ⟨rfl, rfl, rfl⟩) (fun y2 S9 L9 q9 => ?_)
    obtain ⟨ey2, rfl, rfl⟩ := q9
    by_cases q9 : text = 0
    · replace h := h.1 q9
      rw [if_pos q9] at ey2
      subst ey2
      refine zi_geti fl_X10_105 sk1 rfl dX10_undo_17 ?_
      refine zi_if_gt (tgt := 26) dX10_undo_20 (by decide) (fun q9 => ?_) (fun q9 => ?_)
      · replace h := h.1 q9
        refine zi_aload_n dX10_undo_26 rfl rfl ?_
        refine zi_iload_n dX10_undo_27 rfl rfl ?_
        refine zt_Vr (As := [.int text]) dX10_undo_28 lk_X10_94 sk0 rfl ⟨⟨by decide, by decide⟩, rfl, rfl⟩ rfl ⟨Nat.le_of_ble_eq_true rfl, rfl, rfl⟩ (textOf_s (P := fun y S9 L9 => y = (if text = 0 then 1 else 3) ∧ S = S9 ∧ L = L9) ⟨rfl, rfl, rfl⟩) (fun y3 S9 L9 q9 => ?_)
        obtain ⟨ey3, rfl, rfl⟩ := q9
        by_cases q9 : text = 0
        · replace h := h.1 q9
          rw [if_pos q9] at ey3
          subst ey3
          refine zi_dup dX10_undo_31 rfl ?_
          refine zi_geti fl_X10_105 sk1 rfl dX10_undo_32 ?_
          refine zi_iconst (v := 1) dX10_undo_35 (by decide) ?_
          refine zi_isub dX10_undo_36 ?_
          refine zi_puti fp_X10_105 sk1 rfl dX10_undo_37 ?_
          refine zt_nmS (fun S1 eS1 => ?_)
          replace h := h S1 eS1
          refine zi_aload_n dX10_undo_40 rfl rfl ?_
          refine zt_Vv (As := []) dX10_undo_41 lk_X10_102 sk0 rfl ⟨⟨by decide, by decide⟩, rfl, rfl⟩ rfl ⟨Nat.le_of_ble_eq_true rfl, rfl, rfl⟩ h (fun S2 L1 h => ?_)
          refine zi_aload_n dX10_undo_44 rfl rfl ?_
          refine zi_iload_n dX10_undo_45 rfl rfl ?_
          refine zt_Vr (As := [.int text]) dX10_undo_46 lk_X10_94 sk0 rfl ⟨⟨by decide, by decide⟩, rfl, rfl⟩ rfl ⟨Nat.le_of_ble_eq_true rfl, rfl, rfl⟩ (textOf_s (P := fun y S9 L9 => y = (if text = 0 then 1 else 3) ∧ S2 = S9 ∧ L1 = L9) ⟨rfl, rfl, rfl⟩) (fun y5 S9 L9 q9 => ?_)
          obtain ⟨ey5, rfl, rfl⟩ := q9
          by_cases q9 : text = 0
          · replace h := h.1 q9
            rw [if_pos q9] at ey5
            subst ey5
            refine zi_geti fl_X10_105 sk1 rfl dX10_undo_49 ?_
            exact zt_iret dX10_undo_52 rfl h
          · replace h := h.2 q9
            rw [if_neg q9] at ey5
            subst ey5
            refine zi_geti fl_X10_105 sk3 rfl dX10_undo_49 ?_
            exact zt_iret dX10_undo_52 rfl h
        · replace h := h.2 q9
          rw [if_neg q9] at ey3
          subst ey3
          refine zi_dup dX10_undo_31 rfl ?_
          refine zi_geti fl_X10_105 sk3 rfl dX10_undo_32 ?_
          refine zi_iconst (v := 1) dX10_undo_35 (by decide) ?_
          refine zi_isub dX10_undo_36 ?_
          refine zi_puti fp_X10_105 sk3 rfl dX10_undo_37 ?_
          refine zt_nmS (fun S1 eS1 => ?_)
          replace h := h S1 eS1
          refine zi_aload_n dX10_undo_40 rfl rfl ?_
          refine zt_Vv (As := []) dX10_undo_41 lk_X10_102 sk0 rfl ⟨⟨by decide, by decide⟩, rfl, rfl⟩ rfl ⟨Nat.le_of_ble_eq_true rfl, rfl, rfl⟩ h (fun S2 L1 h => ?_)
          refine zi_aload_n dX10_undo_44 rfl rfl ?_
          refine zi_iload_n dX10_undo_45 rfl rfl ?_
          refine zt_Vr (As := [.int text]) dX10_undo_46 lk_X10_94 sk0 rfl ⟨⟨by decide, by decide⟩, rfl, rfl⟩ rfl ⟨Nat.le_of_ble_eq_true rfl, rfl, rfl⟩ (textOf_s (P := fun y S9 L9 => y = (if text = 0 then 1 else 3) ∧ S2 = S9 ∧ L1 = L9) ⟨rfl, rfl, rfl⟩) (fun y5 S9 L9 q9 => ?_)
          obtain ⟨ey5, rfl, rfl⟩ := q9
          by_cases q9 : text = 0
          · replace h := h.1 q9
            rw [if_pos q9] at ey5
            subst ey5
            refine zi_geti fl_X10_105 sk1 rfl dX10_undo_49 ?_
            exact zt_iret dX10_undo_52 rfl h
          · replace h := h.2 q9
            rw [if_neg q9] at ey5
            subst ey5
            refine zi_geti fl_X10_105 sk3 rfl dX10_undo_49 ?_
            exact zt_iret dX10_undo_52 rfl h
      · replace h := h.2 q9
        refine zi_bipush (v := -3) dX10_undo_23 (by decide) ?_
        exact zt_iret dX10_undo_25 rfl h
    · replace h := h.2 q9
      rw [if_neg q9] at ey2
      subst ey2
      refine zi_geti fl_X10_105 sk3 rfl dX10_undo_17 ?_
      refine zi_if_gt (tgt := 26) dX10_undo_20 (by decide) (fun q9 => ?_) (fun q9 => ?_)
      · replace h := h.1 q9
        refine zi_aload_n dX10_undo_26 rfl rfl ?_
        refine zi_iload_n dX10_undo_27 rfl rfl ?_
        refine zt_Vr (As := [.int text]) dX10_undo_28 lk_X10_94 sk0 rfl ⟨⟨by decide, by decide⟩, rfl, rfl⟩ rfl ⟨Nat.le_of_ble_eq_true rfl, rfl, rfl⟩ (textOf_s (P := fun y S9 L9 => y = (if text = 0 then 1 else 3) ∧ S = S9 ∧ L = L9) ⟨rfl, rfl, rfl⟩) (fun y3 S9 L9 q9 => ?_)
        obtain ⟨ey3, rfl, rfl⟩ := q9
        by_cases q9 : text = 0
        · replace h := h.1 q9
          rw [if_pos q9] at ey3
          subst ey3
          refine zi_dup dX10_undo_31 rfl ?_
          refine zi_geti fl_X10_105 sk1 rfl dX10_undo_32 ?_
          refine zi_iconst (v := 1) dX10_undo_35 (by decide) ?_
          refine zi_isub dX10_undo_36 ?_
          refine zi_puti fp_X10_105 sk1 rfl dX10_undo_37 ?_
          refine zt_nmS (fun S1 eS1 => ?_)
          replace h := h S1 eS1
          refine zi_aload_n dX10_undo_40 rfl rfl ?_
          refine zt_Vv (As := []) dX10_undo_41 lk_X10_102 sk0 rfl ⟨⟨by decide, by decide⟩, rfl, rfl⟩ rfl ⟨Nat.le_of_ble_eq_true rfl, rfl, rfl⟩ h (fun S2 L1 h => ?_)
          refine zi_aload_n dX10_undo_44 rfl rfl ?_
          refine zi_iload_n dX10_undo_45 rfl rfl ?_
          refine zt_Vr (As := [.int text]) dX10_undo_46 lk_X10_94 sk0 rfl ⟨⟨by decide, by decide⟩, rfl, rfl⟩ rfl ⟨Nat.le_of_ble_eq_true rfl, rfl, rfl⟩ (textOf_s (P := fun y S9 L9 => y = (if text = 0 then 1 else 3) ∧ S2 = S9 ∧ L1 = L9) ⟨rfl, rfl, rfl⟩) (fun y5 S9 L9 q9 => ?_)
          obtain ⟨ey5, rfl, rfl⟩ := q9
          by_cases q9 : text = 0
          · replace h := h.1 q9
            rw [if_pos q9] at ey5
            subst ey5
            refine zi_geti fl_X10_105 sk1 rfl dX10_undo_49 ?_
            exact zt_iret dX10_undo_52 rfl h
          · replace h := h.2 q9
            rw [if_neg q9] at ey5
            subst ey5
            refine zi_geti fl_X10_105 sk3 rfl dX10_undo_49 ?_
            exact zt_iret dX10_undo_52 rfl h
        · replace h := h.2 q9
          rw [if_neg q9] at ey3
          subst ey3
          refine zi_dup dX10_undo_31 rfl ?_
          refine zi_geti fl_X10_105 sk3 rfl dX10_undo_32 ?_
          refine zi_iconst (v := 1) dX10_undo_35 (by decide) ?_
          refine zi_isub dX10_undo_36 ?_
          refine zi_puti fp_X10_105 sk3 rfl dX10_undo_37 ?_
          refine zt_nmS (fun S1 eS1 => ?_)
          replace h := h S1 eS1
          refine zi_aload_n dX10_undo_40 rfl rfl ?_
          refine zt_Vv (As := []) dX10_undo_41 lk_X10_102 sk0 rfl ⟨⟨by decide, by decide⟩, rfl, rfl⟩ rfl ⟨Nat.le_of_ble_eq_true rfl, rfl, rfl⟩ h (fun S2 L1 h => ?_)
          refine zi_aload_n dX10_undo_44 rfl rfl ?_
          refine zi_iload_n dX10_undo_45 rfl rfl ?_
          refine zt_Vr (As := [.int text]) dX10_undo_46 lk_X10_94 sk0 rfl ⟨⟨by decide, by decide⟩, rfl, rfl⟩ rfl ⟨Nat.le_of_ble_eq_true rfl, rfl, rfl⟩ (textOf_s (P := fun y S9 L9 => y = (if text = 0 then 1 else 3) ∧ S2 = S9 ∧ L1 = L9) ⟨rfl, rfl, rfl⟩) (fun y5 S9 L9 q9 => ?_)
          obtain ⟨ey5, rfl, rfl⟩ := q9
          by_cases q9 : text = 0
          · replace h := h.1 q9
            rw [if_pos q9] at ey5
            subst ey5
            refine zi_geti fl_X10_105 sk1 rfl dX10_undo_49 ?_
            exact zt_iret dX10_undo_52 rfl h
          · replace h := h.2 q9
            rw [if_neg q9] at ey5
            subst ey5
            refine zi_geti fl_X10_105 sk3 rfl dX10_undo_49 ?_
            exact zt_iret dX10_undo_52 rfl h
      · replace h := h.2 q9
        refine zi_bipush (v := -3) dX10_undo_23 (by decide) ?_
        exact zt_iret dX10_undo_25 rfl h
  · replace h := h.2 q9
    rw [if_neg q9] at ey1
    subst ey1
    refine zi_if_ne (tgt := 12) dX10_undo_6 (by decide) (fun z9 => absurd rfl z9) (fun _ => ?_)
    refine zi_bipush (v := -2) dX10_undo_9 (by decide) ?_
    exact zt_iret dX10_undo_11 rfl h
theorem e_X10_undo {text : Int32} {S : zS} {L : zL} {P : Int32 → zS → zL → Prop} (h : ∀ X, zU mX10_undo X S L 0 [some (.ref 0), some (.int text)] [] (zpi P)) : zCi mX10_undo S L [.ref 0, .int text] P := zCi_of pn_X10_undo (Nat.le_of_ble_eq_true rfl) (fun X => zt_pad (j := 0) rfl (h X))
set_option maxHeartbeats 2000000 in
theorem b_X10_fault_0 {text : Int32} {X : Nat × (Nat → Int32)} {S : zS} {L : zL} {P : Int32 → zS → zL → Prop} (h : ((((0 : Int32) ≤ text ∧ text ≤ (1 : Int32)) → ((text = 0 → zCi mX7_faultPlace S L [.ref 1] (fun y3 S1 L1 => P y3 S1 L1)) ∧ (¬ (text = 0) → zCi mX7_faultPlace S L [.ref 3] (fun y3 S1 L1 => P y3 S1 L1)))) ∧ (¬ ((0 : Int32) ≤ text ∧ text ≤ (1 : Int32)) → P (-2 : Int32) S L))) : zU mX10_fault X S L 0 [some (.ref 0), some (.int text)] [] (zpi P) := by
  refine zi_iload_n dX10_fault_0 rfl rfl ?_
  refine zi_iconst (v := 0) dX10_fault_1 (by decide) ?_
  refine zi_iconst (v := 1) dX10_fault_2 (by decide) ?_
  refine zt_Si (As := [.int text, .int (0 : Int32), .int (1 : Int32)]) dX10_fault_3 lk_X10_90 ⟨⟨by decide, by decide⟩, rfl, rfl⟩ rfl ⟨Nat.le_of_ble_eq_true rfl, rfl, rfl⟩ (within_s (P := fun y S9 L9 => y = (if ((0 : Int32) ≤ text ∧ text ≤ (1 : Int32)) then (1 : Int32) else 0) ∧ S = S9 ∧ L = L9) ⟨rfl, rfl, rfl⟩) (fun y1 S9 L9 q9 => ?_)
  obtain ⟨ey1, rfl, rfl⟩ := q9
  by_cases q9 : ((0 : Int32) ≤ text ∧ text ≤ (1 : Int32))
  · replace h := h.1 q9
    rw [if_pos q9] at ey1
    subst ey1
    refine zi_if_eq (tgt := 20) dX10_fault_6 (by decide) (fun z9 => absurd z9 (by decide)) (fun _ => ?_)
    refine zi_aload_n dX10_fault_9 rfl rfl ?_
    refine zi_iload_n dX10_fault_10 rfl rfl ?_
    refine zt_Vr (As := [.int text]) dX10_fault_11 lk_X10_94 sk0 rfl ⟨⟨by decide, by decide⟩, rfl, rfl⟩ rfl ⟨Nat.le_of_ble_eq_true rfl, rfl, rfl⟩ (textOf_s (P := fun y S9 L9 => y = (if text = 0 then 1 else 3) ∧ S = S9 ∧ L = L9) ⟨rfl, rfl, rfl⟩) (fun y2 S9 L9 q9 => ?_)
    obtain ⟨ey2, rfl, rfl⟩ := q9
    by_cases q9 : text = 0
    · replace h := h.1 q9
      rw [if_pos q9] at ey2
      subst ey2
      refine zt_Vi (As := []) dX10_fault_14 lk_X10_109 sk1 rfl ⟨⟨by decide, by decide⟩, rfl, rfl⟩ rfl ⟨Nat.le_of_ble_eq_true rfl, rfl, rfl⟩ h (fun y3 S1 L1 h => ?_)
      refine zi_goto (tgt := 22) dX10_fault_17 (by decide) ?_
      exact zt_iret dX10_fault_22 rfl h
    · replace h := h.2 q9
      rw [if_neg q9] at ey2
      subst ey2
      refine zt_Vi (As := []) dX10_fault_14 lk_X10_109 sk3 rfl ⟨⟨by decide, by decide⟩, rfl, rfl⟩ rfl ⟨Nat.le_of_ble_eq_true rfl, rfl, rfl⟩ h (fun y3 S1 L1 h => ?_)
      refine zi_goto (tgt := 22) dX10_fault_17 (by decide) ?_
      exact zt_iret dX10_fault_22 rfl h
  · replace h := h.2 q9
    rw [if_neg q9] at ey1
    subst ey1
    refine zi_if_eq (tgt := 20) dX10_fault_6 (by decide) (fun _ => ?_) (fun z9 => absurd rfl z9)
    refine zi_bipush (v := -2) dX10_fault_20 (by decide) ?_
    exact zt_iret dX10_fault_22 rfl h
theorem e_X10_fault {text : Int32} {S : zS} {L : zL} {P : Int32 → zS → zL → Prop} (h : ∀ X, zU mX10_fault X S L 0 [some (.ref 0), some (.int text)] [] (zpi P)) : zCi mX10_fault S L [.ref 0, .int text] P := zCi_of pn_X10_fault (Nat.le_of_ble_eq_true rfl) (fun X => zt_pad (j := 0) rfl (h X))
set_option maxHeartbeats 2000000 in
theorem b_X10_person_0 {p : Int32} {what : Int32} {X : Nat × (Nat → Int32)} {S : zS} {L : zL} {P : Int32 → zS → zL → Prop} (h : ((((0 : Int32) ≤ p ∧ p ≤ (S 6 3) - (1 : Int32)) → ((((0 : Int32) ≤ what ∧ what ≤ (2 : Int32)) → zCi mX5_cell S L [.ref 6, .int p, .int what] (fun y3 S1 L1 => P y3 S1 L1)) ∧ (¬ ((0 : Int32) ≤ what ∧ what ≤ (2 : Int32)) → P (-2 : Int32) S L))) ∧ (¬ ((0 : Int32) ≤ p ∧ p ≤ (S 6 3) - (1 : Int32)) → P (-2 : Int32) S L))) : zU mX10_person X S L 0 [some (.ref 0), some (.int p), some (.int what)] [] (zpi P) := by
  refine zi_aload_n dX10_person_0 rfl rfl ?_
  refine zi_iload_n dX10_person_1 rfl rfl ?_
  refine zt_Vi (As := [.int p]) dX10_person_2 lk_X10_113 sk0 rfl ⟨⟨by decide, by decide⟩, rfl, rfl⟩ rfl ⟨Nat.le_of_ble_eq_true rfl, rfl, rfl⟩ (xPerson_s (P := fun y S9 L9 => y = (if ((0 : Int32) ≤ p ∧ p ≤ (S 6 3) - (1 : Int32)) then (1 : Int32) else 0) ∧ S = S9 ∧ L = L9) ⟨rfl, rfl, rfl⟩) (fun y1 S9 L9 q9 => ?_)
  obtain ⟨ey1, rfl, rfl⟩ := q9
  by_cases q9 : ((0 : Int32) ≤ p ∧ p ≤ (S 6 3) - (1 : Int32))
  · replace h := h.1 q9
    rw [if_pos q9] at ey1
    subst ey1
    refine zi_if_eq (tgt := 17) dX10_person_5 (by decide) (fun z9 => absurd z9 (by decide)) (fun _ => ?_)
    refine zi_iload_n dX10_person_8 rfl rfl ?_
    refine zi_iconst (v := 0) dX10_person_9 (by decide) ?_
    refine zi_iconst (v := 2) dX10_person_10 (by decide) ?_
    refine zt_Si (As := [.int what, .int (0 : Int32), .int (2 : Int32)]) dX10_person_11 lk_X10_90 ⟨⟨by decide, by decide⟩, rfl, rfl⟩ rfl ⟨Nat.le_of_ble_eq_true rfl, rfl, rfl⟩ (within_s (P := fun y S9 L9 => y = (if ((0 : Int32) ≤ what ∧ what ≤ (2 : Int32)) then (1 : Int32) else 0) ∧ S = S9 ∧ L = L9) ⟨rfl, rfl, rfl⟩) (fun y2 S9 L9 q9 => ?_)
    obtain ⟨ey2, rfl, rfl⟩ := q9
    by_cases q9 : ((0 : Int32) ≤ what ∧ what ≤ (2 : Int32))
    · replace h := h.1 q9
      rw [if_pos q9] at ey2
      subst ey2
      refine zi_if_ne (tgt := 20) dX10_person_14 (by decide) (fun _ => ?_) (fun z9 => absurd z9 (by decide))
      refine zi_aload_n dX10_person_20 rfl rfl ?_
      refine zi_getr fl_X10_36 sk0 rfl dX10_person_21 ?_
      refine zi_getr fl_X10_117 sk5 rfl dX10_person_24 ?_
      refine zi_iload_n dX10_person_27 rfl rfl ?_
      refine zi_iload_n dX10_person_28 rfl rfl ?_
      refine zt_Vi (As := [.int p, .int what]) dX10_person_29 lk_X10_121 sk6 rfl ⟨⟨by decide, by decide⟩, rfl, rfl⟩ rfl ⟨Nat.le_of_ble_eq_true rfl, rfl, rfl⟩ h (fun y3 S1 L1 h => ?_)
      exact zt_iret dX10_person_32 rfl h
    · replace h := h.2 q9
      rw [if_neg q9] at ey2
      subst ey2
      refine zi_if_ne (tgt := 20) dX10_person_14 (by decide) (fun z9 => absurd rfl z9) (fun _ => ?_)
      refine zi_bipush (v := -2) dX10_person_17 (by decide) ?_
      exact zt_iret dX10_person_19 rfl h
  · replace h := h.2 q9
    rw [if_neg q9] at ey1
    subst ey1
    refine zi_if_eq (tgt := 17) dX10_person_5 (by decide) (fun _ => ?_) (fun z9 => absurd rfl z9)
    refine zi_bipush (v := -2) dX10_person_17 (by decide) ?_
    exact zt_iret dX10_person_19 rfl h
theorem e_X10_person {p : Int32} {what : Int32} {S : zS} {L : zL} {P : Int32 → zS → zL → Prop} (h : ∀ X, zU mX10_person X S L 0 [some (.ref 0), some (.int p), some (.int what)] [] (zpi P)) : zCi mX10_person S L [.ref 0, .int p, .int what] P := zCi_of pn_X10_person (Nat.le_of_ble_eq_true rfl) (fun X => zt_pad (j := 0) rfl (h X))
set_option maxHeartbeats 2000000 in
theorem b_X10_deed_0 {d : Int32} {what : Int32} {X : Nat × (Nat → Int32)} {S : zS} {L : zL} {P : Int32 → zS → zL → Prop} (h : ((((0 : Int32) ≤ d ∧ d ≤ (S 10 3) - (1 : Int32)) → ((((0 : Int32) ≤ what ∧ what ≤ (2 : Int32)) → zCi mX5_cell S L [.ref 10, .int d, .int what] (fun y3 S1 L1 => P y3 S1 L1)) ∧ (¬ ((0 : Int32) ≤ what ∧ what ≤ (2 : Int32)) → P (-2 : Int32) S L))) ∧ (¬ ((0 : Int32) ≤ d ∧ d ≤ (S 10 3) - (1 : Int32)) → P (-2 : Int32) S L))) : zU mX10_deed X S L 0 [some (.ref 0), some (.int d), some (.int what)] [] (zpi P) := by
  refine zi_aload_n dX10_deed_0 rfl rfl ?_
  refine zi_iload_n dX10_deed_1 rfl rfl ?_
  refine zt_Vi (As := [.int d]) dX10_deed_2 lk_X10_127 sk0 rfl ⟨⟨by decide, by decide⟩, rfl, rfl⟩ rfl ⟨Nat.le_of_ble_eq_true rfl, rfl, rfl⟩ (xDeed_s (P := fun y S9 L9 => y = (if ((0 : Int32) ≤ d ∧ d ≤ (S 10 3) - (1 : Int32)) then (1 : Int32) else 0) ∧ S = S9 ∧ L = L9) ⟨rfl, rfl, rfl⟩) (fun y1 S9 L9 q9 => ?_)
  obtain ⟨ey1, rfl, rfl⟩ := q9
  by_cases q9 : ((0 : Int32) ≤ d ∧ d ≤ (S 10 3) - (1 : Int32))
  · replace h := h.1 q9
    rw [if_pos q9] at ey1
    subst ey1
    refine zi_if_eq (tgt := 17) dX10_deed_5 (by decide) (fun z9 => absurd z9 (by decide)) (fun _ => ?_)
    refine zi_iload_n dX10_deed_8 rfl rfl ?_
    refine zi_iconst (v := 0) dX10_deed_9 (by decide) ?_
    refine zi_iconst (v := 2) dX10_deed_10 (by decide) ?_
    refine zt_Si (As := [.int what, .int (0 : Int32), .int (2 : Int32)]) dX10_deed_11 lk_X10_90 ⟨⟨by decide, by decide⟩, rfl, rfl⟩ rfl ⟨Nat.le_of_ble_eq_true rfl, rfl, rfl⟩ (within_s (P := fun y S9 L9 => y = (if ((0 : Int32) ≤ what ∧ what ≤ (2 : Int32)) then (1 : Int32) else 0) ∧ S = S9 ∧ L = L9) ⟨rfl, rfl, rfl⟩) (fun y2 S9 L9 q9 => ?_)
    obtain ⟨ey2, rfl, rfl⟩ := q9
    by_cases q9 : ((0 : Int32) ≤ what ∧ what ≤ (2 : Int32))
    · replace h := h.1 q9
      rw [if_pos q9] at ey2
      subst ey2
      refine zi_if_ne (tgt := 20) dX10_deed_14 (by decide) (fun _ => ?_) (fun z9 => absurd z9 (by decide))
      refine zi_aload_n dX10_deed_20 rfl rfl ?_
      refine zi_getr fl_X10_36 sk0 rfl dX10_deed_21 ?_
      refine zi_getr fl_X10_130 sk5 rfl dX10_deed_24 ?_
      refine zi_iload_n dX10_deed_27 rfl rfl ?_
      refine zi_iload_n dX10_deed_28 rfl rfl ?_
      refine zt_Vi (As := [.int d, .int what]) dX10_deed_29 lk_X10_121 sk10 rfl ⟨⟨by decide, by decide⟩, rfl, rfl⟩ rfl ⟨Nat.le_of_ble_eq_true rfl, rfl, rfl⟩ h (fun y3 S1 L1 h => ?_)
      exact zt_iret dX10_deed_32 rfl h
    · replace h := h.2 q9
      rw [if_neg q9] at ey2
      subst ey2
      refine zi_if_ne (tgt := 20) dX10_deed_14 (by decide) (fun z9 => absurd rfl z9) (fun _ => ?_)
      refine zi_bipush (v := -2) dX10_deed_17 (by decide) ?_
      exact zt_iret dX10_deed_19 rfl h
  · replace h := h.2 q9
    rw [if_neg q9] at ey1
    subst ey1
    refine zi_if_eq (tgt := 17) dX10_deed_5 (by decide) (fun _ => ?_) (fun z9 => absurd rfl z9)
    refine zi_bipush (v := -2) dX10_deed_17 (by decide) ?_
    exact zt_iret dX10_deed_19 rfl h
theorem e_X10_deed {d : Int32} {what : Int32} {S : zS} {L : zL} {P : Int32 → zS → zL → Prop} (h : ∀ X, zU mX10_deed X S L 0 [some (.ref 0), some (.int d), some (.int what)] [] (zpi P)) : zCi mX10_deed S L [.ref 0, .int d, .int what] P := zCi_of pn_X10_deed (Nat.le_of_ble_eq_true rfl) (fun X => zt_pad (j := 0) rfl (h X))
set_option maxHeartbeats 2000000 in
theorem b_X10_set_0 {what : Int32} {v : Int32} {X : Nat × (Nat → Int32)} {S : zS} {L : zL} {P : Int32 → zS → zL → Prop} (h : ((((0 : Int32) ≤ what ∧ what ≤ (1 : Int32)) → ((¬ what = 0 → zU mX10_set X S L 22 [some (.ref 0), some (.int what), some (.int v), none] [.int (30 : Int32), .int (0 : Int32), .int v] (zpi P)) ∧ (what = 0 → zU mX10_set X S L 22 [some (.ref 0), some (.int what), some (.int v), none] [.int (9 : Int32), .int (0 : Int32), .int v] (zpi P)))) ∧ (¬ ((0 : Int32) ≤ what ∧ what ≤ (1 : Int32)) → P (-2 : Int32) S L))) : zU mX10_set X S L 0 [some (.ref 0), some (.int what), some (.int v), none] [] (zpi P) := by
  refine zi_iload_n dX10_set_0 rfl rfl ?_
  refine zi_iconst (v := 0) dX10_set_1 (by decide) ?_
  refine zi_iconst (v := 1) dX10_set_2 (by decide) ?_
  refine zt_Si (As := [.int what, .int (0 : Int32), .int (1 : Int32)]) dX10_set_3 lk_X10_90 ⟨⟨by decide, by decide⟩, rfl, rfl⟩ rfl ⟨Nat.le_of_ble_eq_true rfl, rfl, rfl⟩ (within_s (P := fun y S9 L9 => y = (if ((0 : Int32) ≤ what ∧ what ≤ (1 : Int32)) then (1 : Int32) else 0) ∧ S = S9 ∧ L = L9) ⟨rfl, rfl, rfl⟩) (fun y1 S9 L9 q9 => ?_)
  obtain ⟨ey1, rfl, rfl⟩ := q9
  by_cases q9 : ((0 : Int32) ≤ what ∧ what ≤ (1 : Int32))
  · replace h := h.1 q9
    rw [if_pos q9] at ey1
    subst ey1
    refine zi_if_eq (tgt := 28) dX10_set_6 (by decide) (fun z9 => absurd z9 (by decide)) (fun _ => ?_)
    refine zi_iload_n dX10_set_9 rfl rfl ?_
    refine zi_iconst (v := 0) dX10_set_10 (by decide) ?_
    refine zi_iload_n dX10_set_11 rfl rfl ?_
    refine zi_if_ne (tgt := 20) dX10_set_12 (by decide) (fun q9 => ?_) (fun q9 => ?_)
    · replace h := h.1 q9
      refine zi_bipush (v := 30) dX10_set_20 (by decide) ?_
      refine zt_drop (lv' := [some (.ref 0), some (.int what), some (.int v), none]) [true, true, true, false] rfl ?_
      exact h
    · replace h := h.2 q9
      refine zi_bipush (v := 9) dX10_set_15 (by decide) ?_
      refine zi_goto (tgt := 22) dX10_set_17 (by decide) ?_
      refine zt_drop (lv' := [some (.ref 0), some (.int what), some (.int v), none]) [true, true, true, false] rfl ?_
      exact h
  · replace h := h.2 q9
    rw [if_neg q9] at ey1
    subst ey1
    refine zi_if_eq (tgt := 28) dX10_set_6 (by decide) (fun _ => ?_) (fun z9 => absurd rfl z9)
    refine zi_bipush (v := -2) dX10_set_28 (by decide) ?_
    exact zt_iret dX10_set_30 rfl h
set_option maxHeartbeats 2000000 in
theorem b_X10_set_22 {v1 : Int32} {v2 : Int32} {w2 : Int32} {w1 : Int32} {w0 : Int32} {X : Nat × (Nat → Int32)} {S : zS} {L : zL} {P : Int32 → zS → zL → Prop} (h : (((w1 ≤ w0 ∧ w0 ≤ w2) → ((¬ v1 = 0 → zU mX10_set X S L 52 [some (.ref 0), some (.int v1), some (.int v2), none] [.int (S 5 6)] (zpi P)) ∧ (v1 = 0 → zU mX10_set X S L 52 [some (.ref 0), some (.int v1), some (.int v2), none] [.int (S 5 5)] (zpi P)))) ∧ (¬ (w1 ≤ w0 ∧ w0 ≤ w2) → P (-2 : Int32) S L))) : zU mX10_set X S L 22 [some (.ref 0), some (.int v1), some (.int v2), none] [.int w2, .int w1, .int w0] (zpi P) := by
  refine zt_Si (As := [.int w0, .int w1, .int w2]) dX10_set_22 lk_X10_90 ⟨⟨by decide, by decide⟩, rfl, rfl⟩ rfl ⟨Nat.le_of_ble_eq_true rfl, rfl, rfl⟩ (within_s (P := fun y S9 L9 => y = (if (w1 ≤ w0 ∧ w0 ≤ w2) then (1 : Int32) else 0) ∧ S = S9 ∧ L = L9) ⟨rfl, rfl, rfl⟩) (fun y1 S9 L9 q9 => ?_)
  obtain ⟨ey1, rfl, rfl⟩ := q9
  by_cases q9 : (w1 ≤ w0 ∧ w0 ≤ w2)
  · replace h := h.1 q9
    rw [if_pos q9] at ey1
    subst ey1
    refine zi_if_ne (tgt := 31) dX10_set_25 (by decide) (fun _ => ?_) (fun z9 => absurd z9 (by decide))
    refine zi_iload_n dX10_set_31 rfl rfl ?_
    refine zi_if_ne (tgt := 45) dX10_set_32 (by decide) (fun q9 => ?_) (fun q9 => ?_)
    · replace h := h.1 q9
      refine zi_aload_n dX10_set_45 rfl rfl ?_
      refine zi_getr fl_X10_36 sk0 rfl dX10_set_46 ?_
      refine zi_geti fl_X10_136 sk5 rfl dX10_set_49 ?_
      refine zt_drop (lv' := [some (.ref 0), some (.int v1), some (.int v2), none]) [true, true, true, false] rfl ?_
      exact h
    · replace h := h.2 q9
      refine zi_aload_n dX10_set_35 rfl rfl ?_
      refine zi_getr fl_X10_36 sk0 rfl dX10_set_36 ?_
      refine zi_geti fl_X10_133 sk5 rfl dX10_set_39 ?_
      refine zi_goto (tgt := 52) dX10_set_42 (by decide) ?_
      refine zt_drop (lv' := [some (.ref 0), some (.int v1), some (.int v2), none]) [true, true, true, false] rfl ?_
      exact h
  · replace h := h.2 q9
    rw [if_neg q9] at ey1
    subst ey1
    refine zi_if_ne (tgt := 31) dX10_set_25 (by decide) (fun z9 => absurd rfl z9) (fun _ => ?_)
    refine zi_bipush (v := -2) dX10_set_28 (by decide) ?_
    exact zt_iret dX10_set_30 rfl h
set_option maxHeartbeats 2000000 in
theorem b_X10_set_52 {v1 : Int32} {v2 : Int32} {w0 : Int32} {X : Nat × (Nat → Int32)} {S : zS} {L : zL} {P : Int32 → zS → zL → Prop} (h : ((¬ v1 = 0 → ∀ S1 : zS, S1 = zc S 5 (upd (S 5) 6 v2) → zCv mX10_unsettle S1 L [.ref 0] (fun S2 L1 => P w0 S2 L1)) ∧ (v1 = 0 → ∀ S1 : zS, S1 = zc S 5 (upd (S 5) 5 v2) → zCv mX10_unsettle S1 L [.ref 0] (fun S2 L1 => P w0 S2 L1)))) : zU mX10_set X S L 52 [some (.ref 0), some (.int v1), some (.int v2), none] [.int w0] (zpi P) := by
  refine zi_istore_n dX10_set_52 rfl (by decide) rfl ?_
  refine zi_iload_n dX10_set_53 rfl rfl ?_
  refine zi_if_ne (tgt := 68) dX10_set_54 (by decide) (fun q9 => ?_) (fun q9 => ?_)
  · replace h := h.1 q9
    refine zi_aload_n dX10_set_68 rfl rfl ?_
    refine zi_getr fl_X10_36 sk0 rfl dX10_set_69 ?_
    refine zi_iload_n dX10_set_72 rfl rfl ?_
    refine zi_puti fp_X10_136 sk5 rfl dX10_set_73 ?_
    refine zt_nmS (fun S1 eS1 => ?_)
    replace h := h S1 eS1
    refine zi_aload_n dX10_set_76 rfl rfl ?_
    refine zt_Vv (As := []) dX10_set_77 lk_X10_139 sk0 rfl ⟨⟨by decide, by decide⟩, rfl, rfl⟩ rfl ⟨Nat.le_of_ble_eq_true rfl, rfl, rfl⟩ h (fun S2 L1 h => ?_)
    refine zi_iload_n dX10_set_80 rfl rfl ?_
    exact zt_iret dX10_set_81 rfl h
  · replace h := h.2 q9
    refine zi_aload_n dX10_set_57 rfl rfl ?_
    refine zi_getr fl_X10_36 sk0 rfl dX10_set_58 ?_
    refine zi_iload_n dX10_set_61 rfl rfl ?_
    refine zi_puti fp_X10_133 sk5 rfl dX10_set_62 ?_
    refine zt_nmS (fun S1 eS1 => ?_)
    replace h := h S1 eS1
    refine zi_goto (tgt := 76) dX10_set_65 (by decide) ?_
    refine zi_aload_n dX10_set_76 rfl rfl ?_
    refine zt_Vv (As := []) dX10_set_77 lk_X10_139 sk0 rfl ⟨⟨by decide, by decide⟩, rfl, rfl⟩ rfl ⟨Nat.le_of_ble_eq_true rfl, rfl, rfl⟩ h (fun S2 L1 h => ?_)
    refine zi_iload_n dX10_set_80 rfl rfl ?_
    exact zt_iret dX10_set_81 rfl h
theorem e_X10_set {what : Int32} {v : Int32} {S : zS} {L : zL} {P : Int32 → zS → zL → Prop} (h : ∀ X, zU mX10_set X S L 0 [some (.ref 0), some (.int what), some (.int v), none] [] (zpi P)) : zCi mX10_set S L [.ref 0, .int what, .int v] P := zCi_of pn_X10_set (Nat.le_of_ble_eq_true rfl) (fun X => zt_pad (j := 1) rfl (h X))
set_option maxHeartbeats 2000000 in
theorem b_X10_round_0 {month : Int32} {county : Int32} {pace : Int32} {X : Nat × (Nat → Int32)} {S : zS} {L : zL} {P : Int32 → zS → zL → Prop} (h : ((((0 : Int32) ≤ month ∧ month ≤ (23 : Int32)) → ((((0 : Int32) ≤ county ∧ county ≤ (3 : Int32)) → ((((1 : Int32) ≤ pace ∧ pace ≤ (4 : Int32)) → (((S 14 3) < (8 : Int32) → zCv mX10_unsettle S L [.ref 0] (fun S1 L1 => zCi mX5_append S1 L1 [.ref 14, .int month, .int county, .int pace] (fun y5 S2 L2 => P y5 S2 L2))) ∧ (¬ (S 14 3) < (8 : Int32) → P (-4 : Int32) S L))) ∧ (¬ ((1 : Int32) ≤ pace ∧ pace ≤ (4 : Int32)) → P (-2 : Int32) S L))) ∧ (¬ ((0 : Int32) ≤ county ∧ county ≤ (3 : Int32)) → P (-2 : Int32) S L))) ∧ (¬ ((0 : Int32) ≤ month ∧ month ≤ (23 : Int32)) → P (-2 : Int32) S L))) : zU mX10_round X S L 0 [some (.ref 0), some (.int month), some (.int county), some (.int pace)] [] (zpi P) := by
  refine zi_iload_n dX10_round_0 rfl rfl ?_
  refine zt_Si (As := [.int month]) dX10_round_1 lk_X10_142 ⟨⟨by decide, by decide⟩, rfl, rfl⟩ rfl ⟨Nat.le_of_ble_eq_true rfl, rfl, rfl⟩ (xMonth_s (P := fun y S9 L9 => y = (if ((0 : Int32) ≤ month ∧ month ≤ (23 : Int32)) then (1 : Int32) else 0) ∧ S = S9 ∧ L = L9) ⟨rfl, rfl, rfl⟩) (fun y1 S9 L9 q9 => ?_)
  obtain ⟨ey1, rfl, rfl⟩ := q9
  by_cases q9 : ((0 : Int32) ≤ month ∧ month ≤ (23 : Int32))
  · replace h := h.1 q9
    rw [if_pos q9] at ey1
    subst ey1
    refine zi_if_eq (tgt := 23) dX10_round_4 (by decide) (fun z9 => absurd z9 (by decide)) (fun _ => ?_)
    refine zi_iload_n dX10_round_7 rfl rfl ?_
    refine zt_Si (As := [.int county]) dX10_round_8 lk_X10_145 ⟨⟨by decide, by decide⟩, rfl, rfl⟩ rfl ⟨Nat.le_of_ble_eq_true rfl, rfl, rfl⟩ (xCounty_s (P := fun y S9 L9 => y = (if ((0 : Int32) ≤ county ∧ county ≤ (3 : Int32)) then (1 : Int32) else 0) ∧ S = S9 ∧ L = L9) ⟨rfl, rfl, rfl⟩) (fun y2 S9 L9 q9 => ?_)
    obtain ⟨ey2, rfl, rfl⟩ := q9
    by_cases q9 : ((0 : Int32) ≤ county ∧ county ≤ (3 : Int32))
    · replace h := h.1 q9
      rw [if_pos q9] at ey2
      subst ey2
      refine zi_if_eq (tgt := 23) dX10_round_11 (by decide) (fun z9 => absurd z9 (by decide)) (fun _ => ?_)
      refine zi_iload_n dX10_round_14 rfl rfl ?_
      refine zi_iconst (v := 1) dX10_round_15 (by decide) ?_
      refine zi_iconst (v := 4) dX10_round_16 (by decide) ?_
      refine zt_Si (As := [.int pace, .int (1 : Int32), .int (4 : Int32)]) dX10_round_17 lk_X10_90 ⟨⟨by decide, by decide⟩, rfl, rfl⟩ rfl ⟨Nat.le_of_ble_eq_true rfl, rfl, rfl⟩ (within_s (P := fun y S9 L9 => y = (if ((1 : Int32) ≤ pace ∧ pace ≤ (4 : Int32)) then (1 : Int32) else 0) ∧ S = S9 ∧ L = L9) ⟨rfl, rfl, rfl⟩) (fun y3 S9 L9 q9 => ?_)
      obtain ⟨ey3, rfl, rfl⟩ := q9
      by_cases q9 : ((1 : Int32) ≤ pace ∧ pace ≤ (4 : Int32))
      · replace h := h.1 q9
        rw [if_pos q9] at ey3
        subst ey3
        refine zi_if_ne (tgt := 26) dX10_round_20 (by decide) (fun _ => ?_) (fun z9 => absurd z9 (by decide))
        refine zi_aload_n dX10_round_26 rfl rfl ?_
        refine zi_getr fl_X10_36 sk0 rfl dX10_round_27 ?_
        refine zi_getr fl_X10_148 sk5 rfl dX10_round_30 ?_
        refine zi_geti fl_X10_151 sk14 rfl dX10_round_33 ?_
        refine zi_bipush (v := 8) dX10_round_36 (by decide) ?_
        refine zi_icmp_lt (tgt := 44) dX10_round_38 (by decide) (fun q9 => ?_) (fun q9 => ?_)
        · replace h := h.1 q9
          refine zi_aload_n dX10_round_44 rfl rfl ?_
          refine zt_Vv (As := []) dX10_round_45 lk_X10_139 sk0 rfl ⟨⟨by decide, by decide⟩, rfl, rfl⟩ rfl ⟨Nat.le_of_ble_eq_true rfl, rfl, rfl⟩ h (fun S1 L1 h => ?_)
          refine zi_aload_n dX10_round_48 rfl rfl ?_
          refine zi_getr fl_X10_36 sk0 rfl dX10_round_49 ?_
          refine zi_getr fl_X10_148 sk5 rfl dX10_round_52 ?_
          refine zi_iload_n dX10_round_55 rfl rfl ?_
          refine zi_iload_n dX10_round_56 rfl rfl ?_
          refine zi_iload_n dX10_round_57 rfl rfl ?_
          refine zt_Vi (As := [.int month, .int county, .int pace]) dX10_round_58 lk_X10_154 sk14 rfl ⟨⟨by decide, by decide⟩, rfl, rfl⟩ rfl ⟨Nat.le_of_ble_eq_true rfl, rfl, rfl⟩ h (fun y5 S2 L2 h => ?_)
          exact zt_iret dX10_round_61 rfl h
        · replace h := h.2 q9
          refine zi_bipush (v := -4) dX10_round_41 (by decide) ?_
          exact zt_iret dX10_round_43 rfl h
      · replace h := h.2 q9
        rw [if_neg q9] at ey3
        subst ey3
        refine zi_if_ne (tgt := 26) dX10_round_20 (by decide) (fun z9 => absurd rfl z9) (fun _ => ?_)
        refine zi_bipush (v := -2) dX10_round_23 (by decide) ?_
        exact zt_iret dX10_round_25 rfl h
    · replace h := h.2 q9
      rw [if_neg q9] at ey2
      subst ey2
      refine zi_if_eq (tgt := 23) dX10_round_11 (by decide) (fun _ => ?_) (fun z9 => absurd rfl z9)
      refine zi_bipush (v := -2) dX10_round_23 (by decide) ?_
      exact zt_iret dX10_round_25 rfl h
  · replace h := h.2 q9
    rw [if_neg q9] at ey1
    subst ey1
    refine zi_if_eq (tgt := 23) dX10_round_4 (by decide) (fun _ => ?_) (fun z9 => absurd rfl z9)
    refine zi_bipush (v := -2) dX10_round_23 (by decide) ?_
    exact zt_iret dX10_round_25 rfl h
theorem e_X10_round {month : Int32} {county : Int32} {pace : Int32} {S : zS} {L : zL} {P : Int32 → zS → zL → Prop} (h : ∀ X, zU mX10_round X S L 0 [some (.ref 0), some (.int month), some (.int county), some (.int pace)] [] (zpi P)) : zCi mX10_round S L [.ref 0, .int month, .int county, .int pace] P := zCi_of pn_X10_round (Nat.le_of_ble_eq_true rfl) (fun X => zt_pad (j := 0) rfl (h X))
set_option maxHeartbeats 2000000 in
theorem b_X10_journey_0 {month : Int32} {person : Int32} {county : Int32} {X : Nat × (Nat → Int32)} {S : zS} {L : zL} {P : Int32 → zS → zL → Prop} (h : ((((0 : Int32) ≤ month ∧ month ≤ (23 : Int32)) → ((((0 : Int32) ≤ person ∧ person ≤ (7 : Int32)) → ((((0 : Int32) ≤ county ∧ county ≤ (3 : Int32)) → (((S 18 3) < (8 : Int32) → zCv mX10_unsettle S L [.ref 0] (fun S1 L1 => zCi mX5_append S1 L1 [.ref 18, .int month, .int person, .int county] (fun y5 S2 L2 => P y5 S2 L2))) ∧ (¬ (S 18 3) < (8 : Int32) → P (-4 : Int32) S L))) ∧ (¬ ((0 : Int32) ≤ county ∧ county ≤ (3 : Int32)) → P (-2 : Int32) S L))) ∧ (¬ ((0 : Int32) ≤ person ∧ person ≤ (7 : Int32)) → P (-2 : Int32) S L))) ∧ (¬ ((0 : Int32) ≤ month ∧ month ≤ (23 : Int32)) → P (-2 : Int32) S L))) : zU mX10_journey X S L 0 [some (.ref 0), some (.int month), some (.int person), some (.int county)] [] (zpi P) := by
  refine zi_iload_n dX10_journey_0 rfl rfl ?_
  refine zt_Si (As := [.int month]) dX10_journey_1 lk_X10_142 ⟨⟨by decide, by decide⟩, rfl, rfl⟩ rfl ⟨Nat.le_of_ble_eq_true rfl, rfl, rfl⟩ (xMonth_s (P := fun y S9 L9 => y = (if ((0 : Int32) ≤ month ∧ month ≤ (23 : Int32)) then (1 : Int32) else 0) ∧ S = S9 ∧ L = L9) ⟨rfl, rfl, rfl⟩) (fun y1 S9 L9 q9 => ?_)
  obtain ⟨ey1, rfl, rfl⟩ := q9
  by_cases q9 : ((0 : Int32) ≤ month ∧ month ≤ (23 : Int32))
  · replace h := h.1 q9
    rw [if_pos q9] at ey1
    subst ey1
    refine zi_if_eq (tgt := 24) dX10_journey_4 (by decide) (fun z9 => absurd z9 (by decide)) (fun _ => ?_)
    refine zi_iload_n dX10_journey_7 rfl rfl ?_
    refine zi_iconst (v := 0) dX10_journey_8 (by decide) ?_
    refine zi_bipush (v := 7) dX10_journey_9 (by decide) ?_
    refine zt_Si (As := [.int person, .int (0 : Int32), .int (7 : Int32)]) dX10_journey_11 lk_X10_90 ⟨⟨by decide, by decide⟩, rfl, rfl⟩ rfl ⟨Nat.le_of_ble_eq_true rfl, rfl, rfl⟩ (within_s (P := fun y S9 L9 => y = (if ((0 : Int32) ≤ person ∧ person ≤ (7 : Int32)) then (1 : Int32) else 0) ∧ S = S9 ∧ L = L9) ⟨rfl, rfl, rfl⟩) (fun y2 S9 L9 q9 => ?_)
    obtain ⟨ey2, rfl, rfl⟩ := q9
    by_cases q9 : ((0 : Int32) ≤ person ∧ person ≤ (7 : Int32))
    · replace h := h.1 q9
      rw [if_pos q9] at ey2
      subst ey2
      refine zi_if_eq (tgt := 24) dX10_journey_14 (by decide) (fun z9 => absurd z9 (by decide)) (fun _ => ?_)
      refine zi_iload_n dX10_journey_17 rfl rfl ?_
      refine zt_Si (As := [.int county]) dX10_journey_18 lk_X10_145 ⟨⟨by decide, by decide⟩, rfl, rfl⟩ rfl ⟨Nat.le_of_ble_eq_true rfl, rfl, rfl⟩ (xCounty_s (P := fun y S9 L9 => y = (if ((0 : Int32) ≤ county ∧ county ≤ (3 : Int32)) then (1 : Int32) else 0) ∧ S = S9 ∧ L = L9) ⟨rfl, rfl, rfl⟩) (fun y3 S9 L9 q9 => ?_)
      obtain ⟨ey3, rfl, rfl⟩ := q9
      by_cases q9 : ((0 : Int32) ≤ county ∧ county ≤ (3 : Int32))
      · replace h := h.1 q9
        rw [if_pos q9] at ey3
        subst ey3
        refine zi_if_ne (tgt := 27) dX10_journey_21 (by decide) (fun _ => ?_) (fun z9 => absurd z9 (by decide))
        refine zi_aload_n dX10_journey_27 rfl rfl ?_
        refine zi_getr fl_X10_36 sk0 rfl dX10_journey_28 ?_
        refine zi_getr fl_X10_157 sk5 rfl dX10_journey_31 ?_
        refine zi_geti fl_X10_151 sk18 rfl dX10_journey_34 ?_
        refine zi_bipush (v := 8) dX10_journey_37 (by decide) ?_
        refine zi_icmp_lt (tgt := 45) dX10_journey_39 (by decide) (fun q9 => ?_) (fun q9 => ?_)
        · replace h := h.1 q9
          refine zi_aload_n dX10_journey_45 rfl rfl ?_
          refine zt_Vv (As := []) dX10_journey_46 lk_X10_139 sk0 rfl ⟨⟨by decide, by decide⟩, rfl, rfl⟩ rfl ⟨Nat.le_of_ble_eq_true rfl, rfl, rfl⟩ h (fun S1 L1 h => ?_)
          refine zi_aload_n dX10_journey_49 rfl rfl ?_
          refine zi_getr fl_X10_36 sk0 rfl dX10_journey_50 ?_
          refine zi_getr fl_X10_157 sk5 rfl dX10_journey_53 ?_
          refine zi_iload_n dX10_journey_56 rfl rfl ?_
          refine zi_iload_n dX10_journey_57 rfl rfl ?_
          refine zi_iload_n dX10_journey_58 rfl rfl ?_
          refine zt_Vi (As := [.int month, .int person, .int county]) dX10_journey_59 lk_X10_154 sk18 rfl ⟨⟨by decide, by decide⟩, rfl, rfl⟩ rfl ⟨Nat.le_of_ble_eq_true rfl, rfl, rfl⟩ h (fun y5 S2 L2 h => ?_)
          exact zt_iret dX10_journey_62 rfl h
        · replace h := h.2 q9
          refine zi_bipush (v := -4) dX10_journey_42 (by decide) ?_
          exact zt_iret dX10_journey_44 rfl h
      · replace h := h.2 q9
        rw [if_neg q9] at ey3
        subst ey3
        refine zi_if_ne (tgt := 27) dX10_journey_21 (by decide) (fun z9 => absurd rfl z9) (fun _ => ?_)
        refine zi_bipush (v := -2) dX10_journey_24 (by decide) ?_
        exact zt_iret dX10_journey_26 rfl h
    · replace h := h.2 q9
      rw [if_neg q9] at ey2
      subst ey2
      refine zi_if_eq (tgt := 24) dX10_journey_14 (by decide) (fun _ => ?_) (fun z9 => absurd rfl z9)
      refine zi_bipush (v := -2) dX10_journey_24 (by decide) ?_
      exact zt_iret dX10_journey_26 rfl h
  · replace h := h.2 q9
    rw [if_neg q9] at ey1
    subst ey1
    refine zi_if_eq (tgt := 24) dX10_journey_4 (by decide) (fun _ => ?_) (fun z9 => absurd rfl z9)
    refine zi_bipush (v := -2) dX10_journey_24 (by decide) ?_
    exact zt_iret dX10_journey_26 rfl h
theorem e_X10_journey {month : Int32} {person : Int32} {county : Int32} {S : zS} {L : zL} {P : Int32 → zS → zL → Prop} (h : ∀ X, zU mX10_journey X S L 0 [some (.ref 0), some (.int month), some (.int person), some (.int county)] [] (zpi P)) : zCi mX10_journey S L [.ref 0, .int month, .int person, .int county] P := zCi_of pn_X10_journey (Nat.le_of_ble_eq_true rfl) (fun X => zt_pad (j := 0) rfl (h X))
set_option maxHeartbeats 2000000 in
theorem b_X10_frost_0 {month : Int32} {X : Nat × (Nat → Int32)} {S : zS} {L : zL} {P : Int32 → zS → zL → Prop} (h : ((((0 : Int32) ≤ month ∧ month ≤ (23 : Int32)) → (((S 22 3) < (6 : Int32) → zCv mX10_unsettle S L [.ref 0] (fun S1 L1 => zCi mX5_append S1 L1 [.ref 22, .int month, .int (0 : Int32), .int (0 : Int32)] (fun y3 S2 L2 => P y3 S2 L2))) ∧ (¬ (S 22 3) < (6 : Int32) → P (-4 : Int32) S L))) ∧ (¬ ((0 : Int32) ≤ month ∧ month ≤ (23 : Int32)) → P (-2 : Int32) S L))) : zU mX10_frost X S L 0 [some (.ref 0), some (.int month)] [] (zpi P) := by
  refine zi_iload_n dX10_frost_0 rfl rfl ?_
  refine zt_Si (As := [.int month]) dX10_frost_1 lk_X10_142 ⟨⟨by decide, by decide⟩, rfl, rfl⟩ rfl ⟨Nat.le_of_ble_eq_true rfl, rfl, rfl⟩ (xMonth_s (P := fun y S9 L9 => y = (if ((0 : Int32) ≤ month ∧ month ≤ (23 : Int32)) then (1 : Int32) else 0) ∧ S = S9 ∧ L = L9) ⟨rfl, rfl, rfl⟩) (fun y1 S9 L9 q9 => ?_)
  obtain ⟨ey1, rfl, rfl⟩ := q9
  by_cases q9 : ((0 : Int32) ≤ month ∧ month ≤ (23 : Int32))
  · replace h := h.1 q9
    rw [if_pos q9] at ey1
    subst ey1
    refine zi_if_ne (tgt := 10) dX10_frost_4 (by decide) (fun _ => ?_) (fun z9 => absurd z9 (by decide))
    refine zi_aload_n dX10_frost_10 rfl rfl ?_
    refine zi_getr fl_X10_36 sk0 rfl dX10_frost_11 ?_
    refine zi_getr fl_X10_160 sk5 rfl dX10_frost_14 ?_
    refine zi_geti fl_X10_151 sk22 rfl dX10_frost_17 ?_
    refine zi_bipush (v := 6) dX10_frost_20 (by decide) ?_
    refine zi_icmp_lt (tgt := 28) dX10_frost_22 (by decide) (fun q9 => ?_) (fun q9 => ?_)
    · replace h := h.1 q9
      refine zi_aload_n dX10_frost_28 rfl rfl ?_
      refine zt_Vv (As := []) dX10_frost_29 lk_X10_139 sk0 rfl ⟨⟨by decide, by decide⟩, rfl, rfl⟩ rfl ⟨Nat.le_of_ble_eq_true rfl, rfl, rfl⟩ h (fun S1 L1 h => ?_)
      refine zi_aload_n dX10_frost_32 rfl rfl ?_
      refine zi_getr fl_X10_36 sk0 rfl dX10_frost_33 ?_
      refine zi_getr fl_X10_160 sk5 rfl dX10_frost_36 ?_
      refine zi_iload_n dX10_frost_39 rfl rfl ?_
      refine zi_iconst (v := 0) dX10_frost_40 (by decide) ?_
      refine zi_iconst (v := 0) dX10_frost_41 (by decide) ?_
      refine zt_Vi (As := [.int month, .int (0 : Int32), .int (0 : Int32)]) dX10_frost_42 lk_X10_154 sk22 rfl ⟨⟨by decide, by decide⟩, rfl, rfl⟩ rfl ⟨Nat.le_of_ble_eq_true rfl, rfl, rfl⟩ h (fun y3 S2 L2 h => ?_)
      exact zt_iret dX10_frost_45 rfl h
    · replace h := h.2 q9
      refine zi_bipush (v := -4) dX10_frost_25 (by decide) ?_
      exact zt_iret dX10_frost_27 rfl h
  · replace h := h.2 q9
    rw [if_neg q9] at ey1
    subst ey1
    refine zi_if_ne (tgt := 10) dX10_frost_4 (by decide) (fun z9 => absurd rfl z9) (fun _ => ?_)
    refine zi_bipush (v := -2) dX10_frost_7 (by decide) ?_
    exact zt_iret dX10_frost_9 rfl h
theorem e_X10_frost {month : Int32} {S : zS} {L : zL} {P : Int32 → zS → zL → Prop} (h : ∀ X, zU mX10_frost X S L 0 [some (.ref 0), some (.int month)] [] (zpi P)) : zCi mX10_frost S L [.ref 0, .int month] P := zCi_of pn_X10_frost (Nat.le_of_ble_eq_true rfl) (fun X => zt_pad (j := 0) rfl (h X))
set_option maxHeartbeats 2000000 in
theorem b_X10_back_0 {what : Int32} {X : Nat × (Nat → Int32)} {S : zS} {L : zL} {P : Int32 → zS → zL → Prop} (h : ((((0 : Int32) ≤ what ∧ what ≤ (2 : Int32)) → ((¬ what = 0 → ((¬ what = (1 : Int32) → ((0 < (S 22 3) → zCv mX10_unsettle S L [.ref 0] (fun S1 L1 => ∀ S2 : zS, S2 = zc S1 22 (upd (S1 22) 3 ((S1 22 3) - (1 : Int32))) → P (S2 22 3) S2 L1)) ∧ (¬ 0 < (S 22 3) → P (-3 : Int32) S L))) ∧ (what = (1 : Int32) → ((0 < (S 18 3) → zCv mX10_unsettle S L [.ref 0] (fun S1 L1 => ∀ S2 : zS, S2 = zc S1 18 (upd (S1 18) 3 ((S1 18 3) - (1 : Int32))) → P (S2 18 3) S2 L1)) ∧ (¬ 0 < (S 18 3) → P (-3 : Int32) S L))))) ∧ (what = 0 → ((0 < (S 14 3) → zCv mX10_unsettle S L [.ref 0] (fun S1 L1 => ∀ S2 : zS, S2 = zc S1 14 (upd (S1 14) 3 ((S1 14 3) - (1 : Int32))) → P (S2 14 3) S2 L1)) ∧ (¬ 0 < (S 14 3) → P (-3 : Int32) S L))))) ∧ (¬ ((0 : Int32) ≤ what ∧ what ≤ (2 : Int32)) → P (-2 : Int32) S L))) : zU mX10_back X S L 0 [some (.ref 0), some (.int what), none] [] (zpi P) := by
  refine zi_iload_n dX10_back_0 rfl rfl ?_
  refine zi_iconst (v := 0) dX10_back_1 (by decide) ?_
  refine zi_iconst (v := 2) dX10_back_2 (by decide) ?_
  refine zt_Si (As := [.int what, .int (0 : Int32), .int (2 : Int32)]) dX10_back_3 lk_X10_90 ⟨⟨by decide, by decide⟩, rfl, rfl⟩ rfl ⟨Nat.le_of_ble_eq_true rfl, rfl, rfl⟩ (within_s (P := fun y S9 L9 => y = (if ((0 : Int32) ≤ what ∧ what ≤ (2 : Int32)) then (1 : Int32) else 0) ∧ S = S9 ∧ L = L9) ⟨rfl, rfl, rfl⟩) (fun y1 S9 L9 q9 => ?_)
  obtain ⟨ey1, rfl, rfl⟩ := q9
  by_cases q9 : ((0 : Int32) ≤ what ∧ what ≤ (2 : Int32))
  · replace h := h.1 q9
    rw [if_pos q9] at ey1
    subst ey1
    refine zi_if_ne (tgt := 12) dX10_back_6 (by decide) (fun _ => ?_) (fun z9 => absurd z9 (by decide))
    refine zi_iload_n dX10_back_12 rfl rfl ?_
    refine zi_if_ne (tgt := 26) dX10_back_13 (by decide) (fun q9 => ?_) (fun q9 => ?_)
    · replace h := h.1 q9
      refine zi_iload_n dX10_back_26 rfl rfl ?_
      refine zi_iconst (v := 1) dX10_back_27 (by decide) ?_
      refine zi_icmp_ne (tgt := 41) dX10_back_28 (by decide) (fun q9 => ?_) (fun q9 => ?_)
      · replace h := h.1 q9
        refine zi_aload_n dX10_back_41 rfl rfl ?_
        refine zi_getr fl_X10_36 sk0 rfl dX10_back_42 ?_
        refine zi_getr fl_X10_160 sk5 rfl dX10_back_45 ?_
        refine zi_astore_n dX10_back_48 rfl (by decide) rfl ?_
        refine zi_aload_n dX10_back_49 rfl rfl ?_
        refine zi_geti fl_X10_151 sk22 rfl dX10_back_50 ?_
        refine zi_if_gt (tgt := 59) dX10_back_53 (by decide) (fun q9 => ?_) (fun q9 => ?_)
        · replace h := h.1 q9
          refine zi_aload_n dX10_back_59 rfl rfl ?_
          refine zt_Vv (As := []) dX10_back_60 lk_X10_139 sk0 rfl ⟨⟨by decide, by decide⟩, rfl, rfl⟩ rfl ⟨Nat.le_of_ble_eq_true rfl, rfl, rfl⟩ h (fun S1 L1 h => ?_)
          refine zi_aload_n dX10_back_63 rfl rfl ?_
          refine zi_dup dX10_back_64 rfl ?_
          refine zi_geti fl_X10_151 sk22 rfl dX10_back_65 ?_
          refine zi_iconst (v := 1) dX10_back_68 (by decide) ?_
          refine zi_isub dX10_back_69 ?_
          refine zi_puti fp_X10_151 sk22 rfl dX10_back_70 ?_
          refine zt_nmS (fun S2 eS2 => ?_)
          replace h := h S2 eS2
          refine zi_aload_n dX10_back_73 rfl rfl ?_
          refine zi_geti fl_X10_151 sk22 rfl dX10_back_74 ?_
          exact zt_iret dX10_back_77 rfl h
        · replace h := h.2 q9
          refine zi_bipush (v := -3) dX10_back_56 (by decide) ?_
          exact zt_iret dX10_back_58 rfl h
      · replace h := h.2 q9
        refine zi_aload_n dX10_back_31 rfl rfl ?_
        refine zi_getr fl_X10_36 sk0 rfl dX10_back_32 ?_
        refine zi_getr fl_X10_157 sk5 rfl dX10_back_35 ?_
        refine zi_goto (tgt := 48) dX10_back_38 (by decide) ?_
        refine zi_astore_n dX10_back_48 rfl (by decide) rfl ?_
        refine zi_aload_n dX10_back_49 rfl rfl ?_
        refine zi_geti fl_X10_151 sk18 rfl dX10_back_50 ?_
        refine zi_if_gt (tgt := 59) dX10_back_53 (by decide) (fun q9 => ?_) (fun q9 => ?_)
        · replace h := h.1 q9
          refine zi_aload_n dX10_back_59 rfl rfl ?_
          refine zt_Vv (As := []) dX10_back_60 lk_X10_139 sk0 rfl ⟨⟨by decide, by decide⟩, rfl, rfl⟩ rfl ⟨Nat.le_of_ble_eq_true rfl, rfl, rfl⟩ h (fun S1 L1 h => ?_)
          refine zi_aload_n dX10_back_63 rfl rfl ?_
          refine zi_dup dX10_back_64 rfl ?_
          refine zi_geti fl_X10_151 sk18 rfl dX10_back_65 ?_
          refine zi_iconst (v := 1) dX10_back_68 (by decide) ?_
          refine zi_isub dX10_back_69 ?_
          refine zi_puti fp_X10_151 sk18 rfl dX10_back_70 ?_
          refine zt_nmS (fun S2 eS2 => ?_)
          replace h := h S2 eS2
          refine zi_aload_n dX10_back_73 rfl rfl ?_
          refine zi_geti fl_X10_151 sk18 rfl dX10_back_74 ?_
          exact zt_iret dX10_back_77 rfl h
        · replace h := h.2 q9
          refine zi_bipush (v := -3) dX10_back_56 (by decide) ?_
          exact zt_iret dX10_back_58 rfl h
    · replace h := h.2 q9
      refine zi_aload_n dX10_back_16 rfl rfl ?_
      refine zi_getr fl_X10_36 sk0 rfl dX10_back_17 ?_
      refine zi_getr fl_X10_148 sk5 rfl dX10_back_20 ?_
      refine zi_goto (tgt := 48) dX10_back_23 (by decide) ?_
      refine zi_astore_n dX10_back_48 rfl (by decide) rfl ?_
      refine zi_aload_n dX10_back_49 rfl rfl ?_
      refine zi_geti fl_X10_151 sk14 rfl dX10_back_50 ?_
      refine zi_if_gt (tgt := 59) dX10_back_53 (by decide) (fun q9 => ?_) (fun q9 => ?_)
      · replace h := h.1 q9
        refine zi_aload_n dX10_back_59 rfl rfl ?_
        refine zt_Vv (As := []) dX10_back_60 lk_X10_139 sk0 rfl ⟨⟨by decide, by decide⟩, rfl, rfl⟩ rfl ⟨Nat.le_of_ble_eq_true rfl, rfl, rfl⟩ h (fun S1 L1 h => ?_)
        refine zi_aload_n dX10_back_63 rfl rfl ?_
        refine zi_dup dX10_back_64 rfl ?_
        refine zi_geti fl_X10_151 sk14 rfl dX10_back_65 ?_
        refine zi_iconst (v := 1) dX10_back_68 (by decide) ?_
        refine zi_isub dX10_back_69 ?_
        refine zi_puti fp_X10_151 sk14 rfl dX10_back_70 ?_
        refine zt_nmS (fun S2 eS2 => ?_)
        replace h := h S2 eS2
        refine zi_aload_n dX10_back_73 rfl rfl ?_
        refine zi_geti fl_X10_151 sk14 rfl dX10_back_74 ?_
        exact zt_iret dX10_back_77 rfl h
      · replace h := h.2 q9
        refine zi_bipush (v := -3) dX10_back_56 (by decide) ?_
        exact zt_iret dX10_back_58 rfl h
  · replace h := h.2 q9
    rw [if_neg q9] at ey1
    subst ey1
    refine zi_if_ne (tgt := 12) dX10_back_6 (by decide) (fun z9 => absurd rfl z9) (fun _ => ?_)
    refine zi_bipush (v := -2) dX10_back_9 (by decide) ?_
    exact zt_iret dX10_back_11 rfl h
theorem e_X10_back {what : Int32} {S : zS} {L : zL} {P : Int32 → zS → zL → Prop} (h : ∀ X, zU mX10_back X S L 0 [some (.ref 0), some (.int what), none] [] (zpi P)) : zCi mX10_back S L [.ref 0, .int what] P := zCi_of pn_X10_back (Nat.le_of_ble_eq_true rfl) (fun X => zt_pad (j := 1) rfl (h X))
set_option maxHeartbeats 2000000 in
theorem b_X10_read_0 {s : Int32} {X : Nat × (Nat → Int32)} {S : zS} {L : zL} {P : Int32 → zS → zL → Prop} (h : ((((0 : Int32) ≤ s ∧ s ≤ (3 : Int32)) → zCi mX6_isLost S L [.ref 68, .int s] (fun y2 S1 L1 => ((y2 = 0 → zU mX10_read X S1 L1 34 [some (.ref 0), some (.int s), some (.int (0 : Int32)), some (.int (0 : Int32))] [] (zpi P)) ∧ (¬ y2 = 0 → zCi mX6_finding S1 L1 [.ref 68, .int (1 : Int32)] (fun y3 S2 L2 => P y3 S2 L2))))) ∧ (¬ ((0 : Int32) ≤ s ∧ s ≤ (3 : Int32)) → P (-2 : Int32) S L))) : zU mX10_read X S L 0 [some (.ref 0), some (.int s), none, none] [] (zpi P) := by
  refine zi_iload_n dX10_read_0 rfl rfl ?_
  refine zt_Si (As := [.int s]) dX10_read_1 lk_X10_163 ⟨⟨by decide, by decide⟩, rfl, rfl⟩ rfl ⟨Nat.le_of_ble_eq_true rfl, rfl, rfl⟩ (xSheet_s (P := fun y S9 L9 => y = (if ((0 : Int32) ≤ s ∧ s ≤ (3 : Int32)) then (1 : Int32) else 0) ∧ S = S9 ∧ L = L9) ⟨rfl, rfl, rfl⟩) (fun y1 S9 L9 q9 => ?_)
  obtain ⟨ey1, rfl, rfl⟩ := q9
  by_cases q9 : ((0 : Int32) ≤ s ∧ s ≤ (3 : Int32))
  · replace h := h.1 q9
    rw [if_pos q9] at ey1
    subst ey1
    refine zi_if_ne (tgt := 10) dX10_read_4 (by decide) (fun _ => ?_) (fun z9 => absurd z9 (by decide))
    refine zi_aload_n dX10_read_10 rfl rfl ?_
    refine zi_getr fl_X10_82 sk0 rfl dX10_read_11 ?_
    refine zi_iload_n dX10_read_14 rfl rfl ?_
    refine zt_Vi (As := [.int s]) dX10_read_15 lk_X10_166 sk68 rfl ⟨⟨by decide, by decide⟩, rfl, rfl⟩ rfl ⟨Nat.le_of_ble_eq_true rfl, rfl, rfl⟩ h (fun y2 S1 L1 h => ?_)
    refine zi_if_eq (tgt := 30) dX10_read_18 (by decide) (fun q9 => ?_) (fun q9 => ?_)
    · replace h := h.1 q9
      refine zi_iconst (v := 0) dX10_read_30 (by decide) ?_
      refine zi_istore_n dX10_read_31 rfl (by decide) rfl ?_
      refine zi_iconst (v := 0) dX10_read_32 (by decide) ?_
      refine zi_istore_n dX10_read_33 rfl (by decide) rfl ?_
      refine zt_drop (lv' := [some (.ref 0), some (.int s), some (.int (0 : Int32)), some (.int (0 : Int32))]) [true, true, true, true] rfl ?_
      exact h
    · replace h := h.2 q9
      refine zi_aload_n dX10_read_21 rfl rfl ?_
      refine zi_getr fl_X10_82 sk0 rfl dX10_read_22 ?_
      refine zi_iconst (v := 1) dX10_read_25 (by decide) ?_
      refine zt_Vi (As := [.int (1 : Int32)]) dX10_read_26 lk_X10_169 sk68 rfl ⟨⟨by decide, by decide⟩, rfl, rfl⟩ rfl ⟨Nat.le_of_ble_eq_true rfl, rfl, rfl⟩ h (fun y3 S2 L2 h => ?_)
      exact zt_iret dX10_read_29 rfl h
  · replace h := h.2 q9
    rw [if_neg q9] at ey1
    subst ey1
    refine zi_if_ne (tgt := 10) dX10_read_4 (by decide) (fun z9 => absurd rfl z9) (fun _ => ?_)
    refine zi_bipush (v := -2) dX10_read_7 (by decide) ?_
    exact zt_iret dX10_read_9 rfl h
set_option maxHeartbeats 2000000 in
theorem b_X10_read_34 {v1 : Int32} {v2 : Int32} {v3 : Int32} {X : Nat × (Nat → Int32)} {S : zS} {L : zL} {P : Int32 → zS → zL → Prop} (h : zCi mX6_length S L [.ref 68, .int v1] (fun y1 S1 L1 => ((y1 ≤ (v3 + (2 : Int32)) → P v2 S1 L1) ∧ (¬ y1 ≤ (v3 + (2 : Int32)) → zCi mX6_item S1 L1 [.ref 68, .int v1, .int v3] (fun y2 S2 L2 => zCi mX6_item S2 L2 [.ref 68, .int v1, .int (v3 + (1 : Int32))] (fun y3 S3 L3 => zCi mX6_item S3 L3 [.ref 68, .int v1, .int (v3 + (2 : Int32))] (fun y4 S4 L4 => zCi mX10_round S4 L4 [.ref 0, .int y2, .int y3, .int y4] (fun y5 S5 L5 => ((0 ≤ y5 → ∀ x1 : Int32, x1 = v2 + (1 : Int32) → ∀ x2 : Int32, x2 = v3 + (3 : Int32) → zU mX10_read X S5 L5 34 [some (.ref 0), some (.int v1), some (.int x1), some (.int x2)] [] (zpi P)) ∧ (¬ 0 ≤ y5 → P v2 S5 L5)))))))))) : zU mX10_read X S L 34 [some (.ref 0), some (.int v1), some (.int v2), some (.int v3)] [] (zpi P) := by
  refine zi_iload_n dX10_read_34 rfl rfl ?_
  refine zi_iconst (v := 2) dX10_read_35 (by decide) ?_
  refine zi_iadd dX10_read_36 ?_
  refine zi_aload_n dX10_read_37 rfl rfl ?_
  refine zi_getr fl_X10_82 sk0 rfl dX10_read_38 ?_
  refine zi_iload_n dX10_read_41 rfl rfl ?_
  refine zt_Vi (As := [.int v1]) dX10_read_42 lk_X10_172 sk68 rfl ⟨⟨by decide, by decide⟩, rfl, rfl⟩ rfl ⟨Nat.le_of_ble_eq_true rfl, rfl, rfl⟩ h (fun y1 S1 L1 h => ?_)
  refine zi_icmp_ge (tgt := 97) dX10_read_45 (by decide) (fun q9 => ?_) (fun q9 => ?_)
  · replace h := h.1 q9
    refine zi_iload_n dX10_read_97 rfl rfl ?_
    exact zt_iret dX10_read_98 rfl h
  · replace h := h.2 q9
    refine zi_aload_n dX10_read_48 rfl rfl ?_
    refine zi_aload_n dX10_read_49 rfl rfl ?_
    refine zi_getr fl_X10_82 sk0 rfl dX10_read_50 ?_
    refine zi_iload_n dX10_read_53 rfl rfl ?_
    refine zi_iload_n dX10_read_54 rfl rfl ?_
    refine zt_Vi (As := [.int v1, .int v3]) dX10_read_55 lk_X10_174 sk68 rfl ⟨⟨by decide, by decide⟩, rfl, rfl⟩ rfl ⟨Nat.le_of_ble_eq_true rfl, rfl, rfl⟩ h (fun y2 S2 L2 h => ?_)
    refine zi_aload_n dX10_read_58 rfl rfl ?_
    refine zi_getr fl_X10_82 sk0 rfl dX10_read_59 ?_
    refine zi_iload_n dX10_read_62 rfl rfl ?_
    refine zi_iload_n dX10_read_63 rfl rfl ?_
    refine zi_iconst (v := 1) dX10_read_64 (by decide) ?_
    refine zi_iadd dX10_read_65 ?_
    refine zt_Vi (As := [.int v1, .int (v3 + (1 : Int32))]) dX10_read_66 lk_X10_174 sk68 rfl ⟨⟨by decide, by decide⟩, rfl, rfl⟩ rfl ⟨Nat.le_of_ble_eq_true rfl, rfl, rfl⟩ h (fun y3 S3 L3 h => ?_)
    refine zi_aload_n dX10_read_69 rfl rfl ?_
    refine zi_getr fl_X10_82 sk0 rfl dX10_read_70 ?_
    refine zi_iload_n dX10_read_73 rfl rfl ?_
    refine zi_iload_n dX10_read_74 rfl rfl ?_
    refine zi_iconst (v := 2) dX10_read_75 (by decide) ?_
    refine zi_iadd dX10_read_76 ?_
    refine zt_Vi (As := [.int v1, .int (v3 + (2 : Int32))]) dX10_read_77 lk_X10_174 sk68 rfl ⟨⟨by decide, by decide⟩, rfl, rfl⟩ rfl ⟨Nat.le_of_ble_eq_true rfl, rfl, rfl⟩ h (fun y4 S4 L4 h => ?_)
    refine zt_Vi (As := [.int y2, .int y3, .int y4]) dX10_read_80 lk_X10_177 sk0 rfl ⟨⟨by decide, by decide⟩, rfl, rfl⟩ rfl ⟨Nat.le_of_ble_eq_true rfl, rfl, rfl⟩ h (fun y5 S5 L5 h => ?_)
    refine zi_if_ge (tgt := 88) dX10_read_83 (by decide) (fun q9 => ?_) (fun q9 => ?_)
    · replace h := h.1 q9
      obtain ⟨x1, ex1⟩ : ∃ y : Int32, y = v2 + (1 : Int32) := ⟨_, rfl⟩
      replace h := h x1 ex1
      refine zi_iinc (v := x1) dX10_read_88 rfl (by rw [ex1]; rfl) (by decide) rfl ?_
      obtain ⟨x2, ex2⟩ : ∃ y : Int32, y = v3 + (3 : Int32) := ⟨_, rfl⟩
      replace h := h x2 ex2
      refine zi_iinc (v := x2) dX10_read_91 rfl (by rw [ex2]; rfl) (by decide) rfl ?_
      refine zi_goto (tgt := 34) dX10_read_94 (by decide) ?_
      refine zt_drop (lv' := [some (.ref 0), some (.int v1), some (.int x1), some (.int x2)]) [true, true, true, true] rfl ?_
      exact h
    · replace h := h.2 q9
      refine zi_iload_n dX10_read_86 rfl rfl ?_
      exact zt_iret dX10_read_87 rfl h
theorem e_X10_read {s : Int32} {S : zS} {L : zL} {P : Int32 → zS → zL → Prop} (h : ∀ X, zU mX10_read X S L 0 [some (.ref 0), some (.int s), none, none] [] (zpi P)) : zCi mX10_read S L [.ref 0, .int s] P := zCi_of pn_X10_read (Nat.le_of_ble_eq_true rfl) (fun X => zt_pad (j := 2) rfl (h X))
set_option maxHeartbeats 2000000 in
theorem b_X10_seen_0 {month : Int32} {person : Int32} {much : Int32} {X : Nat × (Nat → Int32)} {S : zS} {L : zL} {P : Int32 → zS → zL → Prop} (h : ((((0 : Int32) ≤ month ∧ month ≤ (23 : Int32)) → ((((0 : Int32) ≤ person ∧ person ≤ (7 : Int32)) → ((((0 : Int32) ≤ much ∧ much ≤ (99 : Int32)) → (((S 60 3) < (8 : Int32) → zCv mX9_unsettle S L [.ref 59] (fun S1 L1 => zCi mX5_append S1 L1 [.ref 60, .int month, .int person, .int much] (fun y5 S2 L2 => P y5 S2 L2))) ∧ (¬ (S 60 3) < (8 : Int32) → P (-4 : Int32) S L))) ∧ (¬ ((0 : Int32) ≤ much ∧ much ≤ (99 : Int32)) → P (-2 : Int32) S L))) ∧ (¬ ((0 : Int32) ≤ person ∧ person ≤ (7 : Int32)) → P (-2 : Int32) S L))) ∧ (¬ ((0 : Int32) ≤ month ∧ month ≤ (23 : Int32)) → P (-2 : Int32) S L))) : zU mX10_seen X S L 0 [some (.ref 0), some (.int month), some (.int person), some (.int much)] [] (zpi P) := by
  refine zi_iload_n dX10_seen_0 rfl rfl ?_
  refine zt_Si (As := [.int month]) dX10_seen_1 lk_X10_142 ⟨⟨by decide, by decide⟩, rfl, rfl⟩ rfl ⟨Nat.le_of_ble_eq_true rfl, rfl, rfl⟩ (xMonth_s (P := fun y S9 L9 => y = (if ((0 : Int32) ≤ month ∧ month ≤ (23 : Int32)) then (1 : Int32) else 0) ∧ S = S9 ∧ L = L9) ⟨rfl, rfl, rfl⟩) (fun y1 S9 L9 q9 => ?_)
  obtain ⟨ey1, rfl, rfl⟩ := q9
  by_cases q9 : ((0 : Int32) ≤ month ∧ month ≤ (23 : Int32))
  · replace h := h.1 q9
    rw [if_pos q9] at ey1
    subst ey1
    refine zi_if_eq (tgt := 27) dX10_seen_4 (by decide) (fun z9 => absurd z9 (by decide)) (fun _ => ?_)
    refine zi_iload_n dX10_seen_7 rfl rfl ?_
    refine zi_iconst (v := 0) dX10_seen_8 (by decide) ?_
    refine zi_bipush (v := 7) dX10_seen_9 (by decide) ?_
    refine zt_Si (As := [.int person, .int (0 : Int32), .int (7 : Int32)]) dX10_seen_11 lk_X10_90 ⟨⟨by decide, by decide⟩, rfl, rfl⟩ rfl ⟨Nat.le_of_ble_eq_true rfl, rfl, rfl⟩ (within_s (P := fun y S9 L9 => y = (if ((0 : Int32) ≤ person ∧ person ≤ (7 : Int32)) then (1 : Int32) else 0) ∧ S = S9 ∧ L = L9) ⟨rfl, rfl, rfl⟩) (fun y2 S9 L9 q9 => ?_)
    obtain ⟨ey2, rfl, rfl⟩ := q9
    by_cases q9 : ((0 : Int32) ≤ person ∧ person ≤ (7 : Int32))
    · replace h := h.1 q9
      rw [if_pos q9] at ey2
      subst ey2
      refine zi_if_eq (tgt := 27) dX10_seen_14 (by decide) (fun z9 => absurd z9 (by decide)) (fun _ => ?_)
      refine zi_iload_n dX10_seen_17 rfl rfl ?_
      refine zi_iconst (v := 0) dX10_seen_18 (by decide) ?_
      refine zi_bipush (v := 99) dX10_seen_19 (by decide) ?_
      refine zt_Si (As := [.int much, .int (0 : Int32), .int (99 : Int32)]) dX10_seen_21 lk_X10_90 ⟨⟨by decide, by decide⟩, rfl, rfl⟩ rfl ⟨Nat.le_of_ble_eq_true rfl, rfl, rfl⟩ (within_s (P := fun y S9 L9 => y = (if ((0 : Int32) ≤ much ∧ much ≤ (99 : Int32)) then (1 : Int32) else 0) ∧ S = S9 ∧ L = L9) ⟨rfl, rfl, rfl⟩) (fun y3 S9 L9 q9 => ?_)
      obtain ⟨ey3, rfl, rfl⟩ := q9
      by_cases q9 : ((0 : Int32) ≤ much ∧ much ≤ (99 : Int32))
      · replace h := h.1 q9
        rw [if_pos q9] at ey3
        subst ey3
        refine zi_if_ne (tgt := 30) dX10_seen_24 (by decide) (fun _ => ?_) (fun z9 => absurd z9 (by decide))
        refine zi_aload_n dX10_seen_30 rfl rfl ?_
        refine zi_getr fl_X10_68 sk0 rfl dX10_seen_31 ?_
        refine zi_getr fl_X10_229 sk59 rfl dX10_seen_34 ?_
        refine zi_geti fl_X10_151 sk60 rfl dX10_seen_37 ?_
        refine zi_bipush (v := 8) dX10_seen_40 (by decide) ?_
        refine zi_icmp_lt (tgt := 48) dX10_seen_42 (by decide) (fun q9 => ?_) (fun q9 => ?_)
        · replace h := h.1 q9
          refine zi_aload_n dX10_seen_48 rfl rfl ?_
          refine zi_getr fl_X10_68 sk0 rfl dX10_seen_49 ?_
          refine zt_Vv (As := []) dX10_seen_52 lk_X10_232 sk59 rfl ⟨⟨by decide, by decide⟩, rfl, rfl⟩ rfl ⟨Nat.le_of_ble_eq_true rfl, rfl, rfl⟩ h (fun S1 L1 h => ?_)
          refine zi_aload_n dX10_seen_55 rfl rfl ?_
          refine zi_getr fl_X10_68 sk0 rfl dX10_seen_56 ?_
          refine zi_getr fl_X10_229 sk59 rfl dX10_seen_59 ?_
          refine zi_iload_n dX10_seen_62 rfl rfl ?_
          refine zi_iload_n dX10_seen_63 rfl rfl ?_
          refine zi_iload_n dX10_seen_64 rfl rfl ?_
          refine zt_Vi (As := [.int month, .int person, .int much]) dX10_seen_65 lk_X10_154 sk60 rfl ⟨⟨by decide, by decide⟩, rfl, rfl⟩ rfl ⟨Nat.le_of_ble_eq_true rfl, rfl, rfl⟩ h (fun y5 S2 L2 h => ?_)
          exact zt_iret dX10_seen_68 rfl h
        · replace h := h.2 q9
          refine zi_bipush (v := -4) dX10_seen_45 (by decide) ?_
          exact zt_iret dX10_seen_47 rfl h
      · replace h := h.2 q9
        rw [if_neg q9] at ey3
        subst ey3
        refine zi_if_ne (tgt := 30) dX10_seen_24 (by decide) (fun z9 => absurd rfl z9) (fun _ => ?_)
        refine zi_bipush (v := -2) dX10_seen_27 (by decide) ?_
        exact zt_iret dX10_seen_29 rfl h
    · replace h := h.2 q9
      rw [if_neg q9] at ey2
      subst ey2
      refine zi_if_eq (tgt := 27) dX10_seen_14 (by decide) (fun _ => ?_) (fun z9 => absurd rfl z9)
      refine zi_bipush (v := -2) dX10_seen_27 (by decide) ?_
      exact zt_iret dX10_seen_29 rfl h
  · replace h := h.2 q9
    rw [if_neg q9] at ey1
    subst ey1
    refine zi_if_eq (tgt := 27) dX10_seen_4 (by decide) (fun _ => ?_) (fun z9 => absurd rfl z9)
    refine zi_bipush (v := -2) dX10_seen_27 (by decide) ?_
    exact zt_iret dX10_seen_29 rfl h
theorem e_X10_seen {month : Int32} {person : Int32} {much : Int32} {S : zS} {L : zL} {P : Int32 → zS → zL → Prop} (h : ∀ X, zU mX10_seen X S L 0 [some (.ref 0), some (.int month), some (.int person), some (.int much)] [] (zpi P)) : zCi mX10_seen S L [.ref 0, .int month, .int person, .int much] P := zCi_of pn_X10_seen (Nat.le_of_ble_eq_true rfl) (fun X => zt_pad (j := 0) rfl (h X))
set_option maxHeartbeats 2000000 in
theorem b_X10_forget_0 {X : Nat × (Nat → Int32)} {S : zS} {L : zL} {P : Int32 → zS → zL → Prop} (h : ∀ x1 : Int32, x1 = (S 60 3) → ∀ S1 : zS, S1 = zc S 60 (upd (S 60) 3 (0 : Int32)) → zCv mX9_unsettle S1 L [.ref 59] (fun S2 L1 => P x1 S2 L1)) : zU mX10_forget X S L 0 [some (.ref 0), none] [] (zpi P) := by
  refine zi_aload_n dX10_forget_0 rfl rfl ?_
  refine zi_getr fl_X10_68 sk0 rfl dX10_forget_1 ?_
  refine zi_getr fl_X10_229 sk59 rfl dX10_forget_4 ?_
  refine zi_geti fl_X10_151 sk60 rfl dX10_forget_7 ?_
  refine zt_nmi (fun x1 ex1 => ?_)
  replace h := h x1 ex1
  refine zi_istore_n dX10_forget_10 rfl (by decide) rfl ?_
  refine zi_aload_n dX10_forget_11 rfl rfl ?_
  refine zi_getr fl_X10_68 sk0 rfl dX10_forget_12 ?_
  refine zi_getr fl_X10_229 sk59 rfl dX10_forget_15 ?_
  refine zi_iconst (v := 0) dX10_forget_18 (by decide) ?_
  refine zi_puti fp_X10_151 sk60 rfl dX10_forget_19 ?_
  refine zt_nmS (fun S1 eS1 => ?_)
  replace h := h S1 eS1
  refine zi_aload_n dX10_forget_22 rfl rfl ?_
  refine zi_getr fl_X10_68 sk0 rfl dX10_forget_23 ?_
  refine zt_Vv (As := []) dX10_forget_26 lk_X10_232 sk59 rfl ⟨⟨by decide, by decide⟩, rfl, rfl⟩ rfl ⟨Nat.le_of_ble_eq_true rfl, rfl, rfl⟩ h (fun S2 L1 h => ?_)
  refine zi_iload_n dX10_forget_29 rfl rfl ?_
  exact zt_iret dX10_forget_30 rfl h
theorem e_X10_forget {S : zS} {L : zL} {P : Int32 → zS → zL → Prop} (h : ∀ X, zU mX10_forget X S L 0 [some (.ref 0), none] [] (zpi P)) : zCi mX10_forget S L [.ref 0] P := zCi_of pn_X10_forget (Nat.le_of_ble_eq_true rfl) (fun X => zt_pad (j := 1) rfl (h X))
