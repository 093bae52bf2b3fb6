set_option maxHeartbeats 2000000 in
theorem b_X9_survey_0 {X : Nat × (Nat → Int32)} {S : zS} {L : zL} {P : zS → zL → Prop} (h : (((S 59 4) = 0 → ∀ S1 : zS, S1 = zc S 59 (upd (S 59) 4 (1 : Int32)) → ∀ S2 : zS, S2 = zc S1 59 (upd (S1 59) 1 (0 : Int32)) → zU mX9_survey X S2 L 20 [some (.ref 59), some (.int (0 : Int32))] [] (zpv P)) ∧ (¬ (S 59 4) = 0 → P S L))) : zU mX9_survey X S L 0 [some (.ref 59), none] [] (zpv P) := by
  refine zi_aload_n dX9_survey_0 rfl rfl ?_
  refine zi_geti fl_X9_28 sk59 rfl dX9_survey_1 ?_
  refine zi_if_eq (tgt := 8) dX9_survey_4 (by decide) (fun q9 => ?_) (fun q9 => ?_)
  · replace h := h.1 q9
    refine zi_aload_n dX9_survey_8 rfl rfl ?_
    refine zi_iconst (v := 1) dX9_survey_9 (by decide) ?_
    refine zi_putv fp_X9_28 sk59 rfl rfl rfl dX9_survey_10 ?_
    refine zt_nmS (fun S1 eS1 => ?_)
    replace h := h S1 eS1
    refine zi_aload_n dX9_survey_13 rfl rfl ?_
    refine zi_iconst (v := 0) dX9_survey_14 (by decide) ?_
    refine zi_puti fp_X9_20 sk59 rfl dX9_survey_15 ?_
    refine zt_nmS (fun S2 eS2 => ?_)
    replace h := h S2 eS2
    refine zi_iconst (v := 0) dX9_survey_18 (by decide) ?_
    refine zi_istore_n dX9_survey_19 rfl (by decide) rfl ?_
    refine zt_drop (lv' := [some (.ref 59), some (.int (0 : Int32))]) [true, true] rfl ?_
    exact h
  · replace h := h.2 q9
    exact zt_vret dX9_survey_7 rfl h
set_option maxHeartbeats 2000000 in
theorem b_X9_survey_20 {v1 : Int32} {X : Nat × (Nat → Int32)} {S : zS} {L : zL} {P : zS → zL → Prop} (h : (((S 10 3) ≤ v1 → P S L) ∧ (¬ (S 10 3) ≤ v1 → zCv mX3_afresh S L [.ref 30] (fun S1 L1 => zCv mX5_takeOut S1 L1 [.ref 36, .int v1] (fun S2 L2 => zCv mX2_run S2 L2 [.ref 52, .int (23 : Int32)] (fun S3 L3 => zCv mX9_keepWools S3 L3 [.ref 59, .int v1] (fun S4 L4 => zCi mX9_comesOut S4 L4 [.ref 59] (fun y5 S5 L5 => ((y5 = 0 → ∀ S6 : zS, S6 = zc S5 59 (upd (S5 59) 1 ((S4 59 1) ||| (0 : Int32))) → ∀ x1 : Int32, x1 = v1 + (1 : Int32) → zU mX9_survey X S6 L5 20 [some (.ref 59), some (.int x1)] [] (zpv P)) ∧ (¬ y5 = 0 → ∀ S6 : zS, S6 = zc S5 59 (upd (S5 59) 1 ((S4 59 1) ||| ((1 : Int32) <<< (v1 &&& 31)))) → ∀ x1 : Int32, x1 = v1 + (1 : Int32) → zU mX9_survey X S6 L5 20 [some (.ref 59), some (.int x1)] [] (zpv P))))))))))) : zU mX9_survey X S L 20 [some (.ref 59), some (.int v1)] [] (zpv P) := by
  refine zi_iload_n dX9_survey_20 rfl rfl ?_
  refine zi_aload_n dX9_survey_21 rfl rfl ?_
  refine zi_getr fl_X9_32 sk59 rfl dX9_survey_22 ?_
  refine zi_getr fl_X9_36 sk30 rfl dX9_survey_25 ?_
  refine zi_getr fl_X9_42 sk5 rfl dX9_survey_28 ?_
  refine zi_geti fl_X9_47 sk10 rfl dX9_survey_31 ?_
  refine zi_icmp_ge (tgt := 104) dX9_survey_34 (by decide) (fun q9 => ?_) (fun q9 => ?_)
  · replace h := h.1 q9
    exact zt_vret dX9_survey_104 rfl h
  · replace h := h.2 q9
    refine zi_aload_n dX9_survey_37 rfl rfl ?_
    refine zi_getr fl_X9_32 sk59 rfl dX9_survey_38 ?_
    refine zt_Vv (As := []) dX9_survey_41 lk_X9_50 sk30 rfl ⟨⟨by decide, by decide⟩, rfl, rfl⟩ rfl ⟨Nat.le_of_ble_eq_true rfl, rfl, rfl⟩ h (fun S1 L1 h => ?_)
    refine zi_aload_n dX9_survey_44 rfl rfl ?_
    refine zi_getr fl_X9_32 sk59 rfl dX9_survey_45 ?_
    refine zi_getr fl_X9_53 sk30 rfl dX9_survey_48 ?_
    refine zi_getr fl_X9_42 sk31 rfl dX9_survey_51 ?_
    refine zi_iload_n dX9_survey_54 rfl rfl ?_
    refine zt_Vv (As := [.int v1]) dX9_survey_55 lk_X9_56 sk36 rfl ⟨⟨by decide, by decide⟩, rfl, rfl⟩ rfl ⟨Nat.le_of_ble_eq_true rfl, rfl, rfl⟩ h (fun S2 L2 h => ?_)
    refine zi_aload_n dX9_survey_58 rfl rfl ?_
    refine zi_getr fl_X9_32 sk59 rfl dX9_survey_59 ?_
    refine zi_getr fl_X9_59 sk30 rfl dX9_survey_62 ?_
    refine zi_bipush (v := 23) dX9_survey_65 (by decide) ?_
    refine zt_Vv (As := [.int (23 : Int32)]) dX9_survey_67 lk_X9_63 sk52 rfl ⟨⟨by decide, by decide⟩, rfl, rfl⟩ rfl ⟨Nat.le_of_ble_eq_true rfl, rfl, rfl⟩ h (fun S3 L3 h => ?_)
    refine zi_aload_n dX9_survey_70 rfl rfl ?_
    refine zi_iload_n dX9_survey_71 rfl rfl ?_
    refine zt_Vv (As := [.int v1]) dX9_survey_72 lk_X9_68 sk59 rfl ⟨⟨by decide, by decide⟩, rfl, rfl⟩ rfl ⟨Nat.le_of_ble_eq_true rfl, rfl, rfl⟩ h (fun S4 L4 h => ?_)
    refine zi_aload_n dX9_survey_75 rfl rfl ?_
    refine zi_dup dX9_survey_76 rfl ?_
    refine zi_geti fl_X9_20 sk59 rfl dX9_survey_77 ?_
    refine zi_aload_n dX9_survey_80 rfl rfl ?_
    refine zt_Vi (As := []) dX9_survey_81 lk_X9_71 sk59 rfl ⟨⟨by decide, by decide⟩, rfl, rfl⟩ rfl ⟨Nat.le_of_ble_eq_true rfl, rfl, rfl⟩ h (fun y5 S5 L5 h => ?_)
    refine zi_if_eq (tgt := 93) dX9_survey_84 (by decide) (fun q9 => ?_) (fun q9 => ?_)
    · replace h := h.1 q9
      refine zi_iconst (v := 0) dX9_survey_93 (by decide) ?_
      refine zi_ior dX9_survey_94 ?_
      refine zi_puti fp_X9_20 sk59 rfl dX9_survey_95 ?_
      refine zt_nmS (fun S6 eS6 => ?_)
      replace h := h S6 eS6
      obtain ⟨x1, ex1⟩ : ∃ y : Int32, y = v1 + (1 : Int32) := ⟨_, rfl⟩
      replace h := h x1 ex1
      refine zi_iinc (v := x1) dX9_survey_98 rfl (by rw [ex1]; rfl) (by decide) rfl ?_
      refine zi_goto (tgt := 20) dX9_survey_101 (by decide) ?_
      refine zt_drop (lv' := [some (.ref 59), some (.int x1)]) [true, true] rfl ?_
      exact h
    · replace h := h.2 q9
      refine zi_iconst (v := 1) dX9_survey_87 (by decide) ?_
      refine zi_iload_n dX9_survey_88 rfl rfl ?_
      refine zi_ishl dX9_survey_89 ?_
      refine zi_goto (tgt := 94) dX9_survey_90 (by decide) ?_
      refine zi_ior dX9_survey_94 ?_
      refine zi_puti fp_X9_20 sk59 rfl dX9_survey_95 ?_
      refine zt_nmS (fun S6 eS6 => ?_)
      replace h := h S6 eS6
      obtain ⟨x1, ex1⟩ : ∃ y : Int32, y = v1 + (1 : Int32) := ⟨_, rfl⟩
      replace h := h x1 ex1
      refine zi_iinc (v := x1) dX9_survey_98 rfl (by rw [ex1]; rfl) (by decide) rfl ?_
      refine zi_goto (tgt := 20) dX9_survey_101 (by decide) ?_
      refine zt_drop (lv' := [some (.ref 59), some (.int x1)]) [true, true] rfl ?_
      exact h
theorem e_X9_survey {S : zS} {L : zL} {P : zS → zL → Prop} (h : ∀ X, zU mX9_survey X S L 0 [some (.ref 59), none] [] (zpv P)) : zCv mX9_survey S L [.ref 59] P := zCv_of pn_X9_survey (Nat.le_of_ble_eq_true rfl) (fun X => zt_pad (j := 1) rfl (h X))
set_option maxHeartbeats 2000000 in
theorem b_X9_keepWools_0 {d : Int32} {X : Nat × (Nat → Int32)} {S : zS} {L : zL} {P : zS → zL → Prop} (h : zU mX9_keepWools X S L 2 [some (.ref 59), some (.int d), some (.int (0 : Int32)), none] [] (zpv P)) : zU mX9_keepWools X S L 0 [some (.ref 59), some (.int d), none, none] [] (zpv P) := by
  refine zi_iconst (v := 0) dX9_keepWools_0 (by decide) ?_
  refine zi_istore_n dX9_keepWools_1 rfl (by decide) rfl ?_
  refine zt_drop (lv' := [some (.ref 59), some (.int d), some (.int (0 : Int32)), none]) [true, true, true, false] rfl ?_
  exact h
set_option maxHeartbeats 2000000 in
theorem b_X9_keepWools_2 {v1 : Int32} {v2 : Int32} {X : Nat × (Nat → Int32)} {S : zS} {L : zL} {P : zS → zL → Prop} (h : (((24 : Int32) ≤ v2 → P S L) ∧ (¬ (24 : Int32) ≤ v2 → zU mX9_keepWools X S L 10 [some (.ref 59), some (.int v1), some (.int v2), some (.int (0 : Int32))] [] (zpv P)))) : zU mX9_keepWools X S L 2 [some (.ref 59), some (.int v1), some (.int v2), none] [] (zpv P) := by
  refine zi_iload_n dX9_keepWools_2 rfl rfl ?_
  refine zi_bipush (v := 24) dX9_keepWools_3 (by decide) ?_
  refine zi_icmp_ge (tgt := 64) dX9_keepWools_5 (by decide) (fun q9 => ?_) (fun q9 => ?_)
  · replace h := h.1 q9
    exact zt_vret dX9_keepWools_64 rfl h
  · replace h := h.2 q9
    refine zi_iconst (v := 0) dX9_keepWools_8 (by decide) ?_
    refine zi_istore_n dX9_keepWools_9 rfl (by decide) rfl ?_
    refine zt_drop (lv' := [some (.ref 59), some (.int v1), some (.int v2), some (.int (0 : Int32))]) [true, true, true, true] rfl ?_
    exact h
set_option maxHeartbeats 2000000 in
theorem b_X9_keepWools_10 {v1 : Int32} {v2 : Int32} {v3 : Int32} {X : Nat × (Nat → Int32)} {S : zS} {L : zL} {P : zS → zL → Prop} (h : (((S 6 3) ≤ v3 → ∀ x1 : Int32, x1 = v2 + (1 : Int32) → zU mX9_keepWools X S L 2 [some (.ref 59), some (.int v1), some (.int x1), none] [] (zpv P)) ∧ (¬ (S 6 3) ≤ v3 → zCi mX9_placeOf S L [.int v1, .int v2, .int v3] (fun y1 S1 L1 => zCi mX2_behind S1 L1 [.ref 52, .int v2, .int ((0 : Int32) + v3)] (fun y2 S2 L2 => vp_in y1 1920 ∧ ∀ S3 : zS, S3 = zc S2 64 (upd (S2 64) y1.toNatClampNeg y2) → ∀ x1 : Int32, x1 = v3 + (1 : Int32) → zU mX9_keepWools X S3 L2 10 [some (.ref 59), some (.int v1), some (.int v2), some (.int x1)] [] (zpv P)))))) : zU mX9_keepWools X S L 10 [some (.ref 59), some (.int v1), some (.int v2), some (.int v3)] [] (zpv P) := by
  refine zi_iload_n dX9_keepWools_10 rfl rfl ?_
  refine zi_aload_n dX9_keepWools_11 rfl rfl ?_
  refine zi_getr fl_X9_32 sk59 rfl dX9_keepWools_12 ?_
  refine zi_getr fl_X9_36 sk30 rfl dX9_keepWools_15 ?_
  refine zi_getr fl_X9_75 sk5 rfl dX9_keepWools_18 ?_
  refine zi_geti fl_X9_47 sk6 rfl dX9_keepWools_21 ?_
  refine zi_icmp_ge (tgt := 58) dX9_keepWools_24 (by decide) (fun q9 => ?_) (fun q9 => ?_)
  · replace h := h.1 q9
    obtain ⟨x1, ex1⟩ : ∃ y : Int32, y = v2 + (1 : Int32) := ⟨_, rfl⟩
    replace h := h x1 ex1
    refine zi_iinc (v := x1) dX9_keepWools_58 rfl (by rw [ex1]; rfl) (by decide) rfl ?_
    refine zi_goto (tgt := 2) dX9_keepWools_61 (by decide) ?_
    refine zt_drop (lv' := [some (.ref 59), some (.int v1), some (.int x1), none]) [true, true, true, false] rfl ?_
    exact h
  · replace h := h.2 q9
    refine zi_aload_n dX9_keepWools_27 rfl rfl ?_
    refine zi_getr fl_X9_24 sk59 rfl dX9_keepWools_28 ?_
    refine zi_iload_n dX9_keepWools_31 rfl rfl ?_
    refine zi_iload_n dX9_keepWools_32 rfl rfl ?_
    refine zi_iload_n dX9_keepWools_33 rfl rfl ?_
    refine zt_Si (As := [.int v1, .int v2, .int v3]) dX9_keepWools_34 lk_X9_78 ⟨⟨by decide, by decide⟩, rfl, rfl⟩ rfl ⟨Nat.le_of_ble_eq_true rfl, rfl, rfl⟩ h (fun y1 S1 L1 h => ?_)
    refine zi_aload_n dX9_keepWools_37 rfl rfl ?_
    refine zi_getr fl_X9_32 sk59 rfl dX9_keepWools_38 ?_
    refine zi_getr fl_X9_59 sk30 rfl dX9_keepWools_41 ?_
    refine zi_iload_n dX9_keepWools_44 rfl rfl ?_
    refine zi_iconst (v := 0) dX9_keepWools_45 (by decide) ?_
    refine zi_iload_n dX9_keepWools_46 rfl rfl ?_
    refine zi_iadd dX9_keepWools_47 ?_
    refine zt_Vi (As := [.int v2, .int ((0 : Int32) + v3)]) dX9_keepWools_48 lk_X9_82 sk52 rfl ⟨⟨by decide, by decide⟩, rfl, rfl⟩ rfl ⟨Nat.le_of_ble_eq_true rfl, rfl, rfl⟩ h (fun y2 S2 L2 h => ?_)
    refine zi_iast sk64 h.1 dX9_keepWools_51 ?_
    replace h := h.2
    refine zt_nmS (fun S3 eS3 => ?_)
    replace h := h S3 eS3
    obtain ⟨x1, ex1⟩ : ∃ y : Int32, y = v3 + (1 : Int32) := ⟨_, rfl⟩
    replace h := h x1 ex1
    refine zi_iinc (v := x1) dX9_keepWools_52 rfl (by rw [ex1]; rfl) (by decide) rfl ?_
    refine zi_goto (tgt := 10) dX9_keepWools_55 (by decide) ?_
    refine zt_drop (lv' := [some (.ref 59), some (.int v1), some (.int v2), some (.int x1)]) [true, true, true, true] rfl ?_
    exact h
theorem e_X9_keepWools {d : Int32} {S : zS} {L : zL} {P : zS → zL → Prop} (h : ∀ X, zU mX9_keepWools X S L 0 [some (.ref 59), some (.int d), none, none] [] (zpv P)) : zCv mX9_keepWools S L [.ref 59, .int d] P := zCv_of pn_X9_keepWools (Nat.le_of_ble_eq_true rfl) (fun X => zt_pad (j := 2) rfl (h X))
set_option maxHeartbeats 2000000 in
theorem b_X9_placeOf_0 {d : Int32} {m : Int32} {p : Int32} {X : Nat × (Nat → Int32)} {S : zS} {L : zL} {P : Int32 → zS → zL → Prop} (h : P ((((d * (24 : Int32)) + m) * (8 : Int32)) + p) S L) : zU mX9_placeOf X S L 0 [some (.int d), some (.int m), some (.int p)] [] (zpi P) := by
  refine zi_iload_n dX9_placeOf_0 rfl rfl ?_
  refine zi_bipush (v := 24) dX9_placeOf_1 (by decide) ?_
  refine zi_imul dX9_placeOf_3 ?_
  refine zi_iload_n dX9_placeOf_4 rfl rfl ?_
  refine zi_iadd dX9_placeOf_5 ?_
  refine zi_bipush (v := 8) dX9_placeOf_6 (by decide) ?_
  refine zi_imul dX9_placeOf_8 ?_
  refine zi_iload_n dX9_placeOf_9 rfl rfl ?_
  refine zi_iadd dX9_placeOf_10 ?_
  exact zt_iret dX9_placeOf_11 rfl h
theorem e_X9_placeOf {d : Int32} {m : Int32} {p : Int32} {S : zS} {L : zL} {P : Int32 → zS → zL → Prop} (h : ∀ X, zU mX9_placeOf X S L 0 [some (.int d), some (.int m), some (.int p)] [] (zpi P)) : zCi mX9_placeOf S L [.int d, .int m, .int p] P := zCi_of pn_X9_placeOf (Nat.le_of_ble_eq_true rfl) (fun X => zt_pad (j := 0) rfl (h X))
set_option maxHeartbeats 2000000 in
theorem b_X9_fitting_0 {d : Int32} {col : Int32} {vals : Int32} {X : Nat × (Nat → Int32)} {S : zS} {L : zL} {P : Int32 → zS → zL → Prop} (h : zCi mX9_lastSeen S L [.ref 59] (fun y1 S1 L1 => zU mX9_fitting X S1 L1 12 [some (.ref 59), some (.int d), some (.int col), some (.int vals), some (.int y1), some (.int (0 : Int32)), some (.int (0 : Int32))] [] (zpi P))) : zU mX9_fitting X S L 0 [some (.ref 59), some (.int d), some (.int col), some (.int vals), none, none, none] [] (zpi P) := by
  refine zi_aload_n dX9_fitting_0 rfl rfl ?_
  refine zt_Vi (As := []) dX9_fitting_1 lk_X9_86 sk59 rfl ⟨⟨by decide, by decide⟩, rfl, rfl⟩ rfl ⟨Nat.le_of_ble_eq_true rfl, rfl, rfl⟩ h (fun y1 S1 L1 h => ?_)
  refine zi_istore dX9_fitting_4 (by decide) rfl ?_
  refine zi_iconst (v := 0) dX9_fitting_6 (by decide) ?_
  refine zi_istore dX9_fitting_7 (by decide) rfl ?_
  refine zi_iconst (v := 0) dX9_fitting_9 (by decide) ?_
  refine zi_istore dX9_fitting_10 (by decide) rfl ?_
  refine zt_drop (lv' := [some (.ref 59), some (.int d), some (.int col), some (.int vals), some (.int y1), some (.int (0 : Int32)), some (.int (0 : Int32))]) [true, true, true, true, true, true, true] rfl ?_
  exact h
set_option maxHeartbeats 2000000 in
theorem b_X9_fitting_12 {v1 : Int32} {v2 : Int32} {v3 : Int32} {v4 : Int32} {v5 : Int32} {v6 : Int32} {X : Nat × (Nat → Int32)} {S : zS} {L : zL} {P : Int32 → zS → zL → Prop} (h : ((v3 ≤ v6 → P v5 S L) ∧ (¬ v3 ≤ v6 → zCv mX3_afresh S L [.ref 30] (fun S1 L1 => zCv mX5_setCell S1 L1 [.ref 36, .int v1, .int v2, .int v6] (fun S2 L2 => zCv mX2_run S2 L2 [.ref 52, .int v4] (fun S3 L3 => zCi mX9_comesOut S3 L3 [.ref 59] (fun y4 S4 L4 => ((y4 = 0 → ∀ x1 : Int32, x1 = (v5 ||| (0 : Int32)) → ∀ x2 : Int32, x2 = v6 + (1 : Int32) → zU mX9_fitting X S4 L4 12 [some (.ref 59), some (.int v1), some (.int v2), some (.int v3), some (.int v4), some (.int x1), some (.int x2)] [] (zpi P)) ∧ (¬ y4 = 0 → ∀ x1 : Int32, x1 = (v5 ||| ((1 : Int32) <<< (v6 &&& 31))) → ∀ x2 : Int32, x2 = v6 + (1 : Int32) → zU mX9_fitting X S4 L4 12 [some (.ref 59), some (.int v1), some (.int v2), some (.int v3), some (.int v4), some (.int x1), some (.int x2)] [] (zpi P)))))))))) : zU mX9_fitting X S L 12 [some (.ref 59), some (.int v1), some (.int v2), some (.int v3), some (.int v4), some (.int v5), some (.int v6)] [] (zpi P) := by
  refine zi_iload dX9_fitting_12 rfl ?_
  refine zi_iload_n dX9_fitting_14 rfl rfl ?_
  refine zi_icmp_ge (tgt := 80) dX9_fitting_15 (by decide) (fun q9 => ?_) (fun q9 => ?_)
  · replace h := h.1 q9
    refine zi_iload dX9_fitting_80 rfl ?_
    exact zt_iret dX9_fitting_82 rfl h
  · replace h := h.2 q9
    refine zi_aload_n dX9_fitting_18 rfl rfl ?_
    refine zi_getr fl_X9_32 sk59 rfl dX9_fitting_19 ?_
    refine zt_Vv (As := []) dX9_fitting_22 lk_X9_50 sk30 rfl ⟨⟨by decide, by decide⟩, rfl, rfl⟩ rfl ⟨Nat.le_of_ble_eq_true rfl, rfl, rfl⟩ h (fun S1 L1 h => ?_)
    refine zi_aload_n dX9_fitting_25 rfl rfl ?_
    refine zi_getr fl_X9_32 sk59 rfl dX9_fitting_26 ?_
    refine zi_getr fl_X9_53 sk30 rfl dX9_fitting_29 ?_
    refine zi_getr fl_X9_42 sk31 rfl dX9_fitting_32 ?_
    refine zi_iload_n dX9_fitting_35 rfl rfl ?_
    refine zi_iload_n dX9_fitting_36 rfl rfl ?_
    refine zi_iload dX9_fitting_37 rfl ?_
    refine zt_Vv (As := [.int v1, .int v2, .int v6]) dX9_fitting_39 lk_X9_90 sk36 rfl ⟨⟨by decide, by decide⟩, rfl, rfl⟩ rfl ⟨Nat.le_of_ble_eq_true rfl, rfl, rfl⟩ h (fun S2 L2 h => ?_)
    refine zi_aload_n dX9_fitting_42 rfl rfl ?_
    refine zi_getr fl_X9_32 sk59 rfl dX9_fitting_43 ?_
    refine zi_getr fl_X9_59 sk30 rfl dX9_fitting_46 ?_
    refine zi_iload dX9_fitting_49 rfl ?_
    refine zt_Vv (As := [.int v4]) dX9_fitting_51 lk_X9_63 sk52 rfl ⟨⟨by decide, by decide⟩, rfl, rfl⟩ rfl ⟨Nat.le_of_ble_eq_true rfl, rfl, rfl⟩ h (fun S3 L3 h => ?_)
    refine zi_iload dX9_fitting_54 rfl ?_
    refine zi_aload_n dX9_fitting_56 rfl rfl ?_
    refine zt_Vi (As := []) dX9_fitting_57 lk_X9_71 sk59 rfl ⟨⟨by decide, by decide⟩, rfl, rfl⟩ rfl ⟨Nat.le_of_ble_eq_true rfl, rfl, rfl⟩ h (fun y4 S4 L4 h => ?_)
    refine zi_if_eq (tgt := 70) dX9_fitting_60 (by decide) (fun q9 => ?_) (fun q9 => ?_)
    · replace h := h.1 q9
      refine zi_iconst (v := 0) dX9_fitting_70 (by decide) ?_
      refine zi_ior dX9_fitting_71 ?_
      refine zt_nmi (fun x1 ex1 => ?_)
      replace h := h x1 ex1
      refine zi_istore dX9_fitting_72 (by decide) rfl ?_
      obtain ⟨x2, ex2⟩ : ∃ y : Int32, y = v6 + (1 : Int32) := ⟨_, rfl⟩
      replace h := h x2 ex2
      refine zi_iinc (v := x2) dX9_fitting_74 rfl (by rw [ex2]; rfl) (by decide) rfl ?_
      refine zi_goto (tgt := 12) dX9_fitting_77 (by decide) ?_
      refine zt_drop (lv' := [some (.ref 59), some (.int v1), some (.int v2), some (.int v3), some (.int v4), some (.int x1), some (.int x2)]) [true, true, true, true, true, true, true] rfl ?_
      exact h
    · replace h := h.2 q9
      refine zi_iconst (v := 1) dX9_fitting_63 (by decide) ?_
      refine zi_iload dX9_fitting_64 rfl ?_
      refine zi_ishl dX9_fitting_66 ?_
      refine zi_goto (tgt := 71) dX9_fitting_67 (by decide) ?_
      refine zi_ior dX9_fitting_71 ?_
      refine zt_nmi (fun x1 ex1 => ?_)
      replace h := h x1 ex1
      refine zi_istore dX9_fitting_72 (by decide) rfl ?_
      obtain ⟨x2, ex2⟩ : ∃ y : Int32, y = v6 + (1 : Int32) := ⟨_, rfl⟩
      replace h := h x2 ex2
      refine zi_iinc (v := x2) dX9_fitting_74 rfl (by rw [ex2]; rfl) (by decide) rfl ?_
      refine zi_goto (tgt := 12) dX9_fitting_77 (by decide) ?_
      refine zt_drop (lv' := [some (.ref 59), some (.int v1), some (.int v2), some (.int v3), some (.int v4), some (.int x1), some (.int x2)]) [true, true, true, true, true, true, true] rfl ?_
      exact h
theorem e_X9_fitting {d : Int32} {col : Int32} {vals : Int32} {S : zS} {L : zL} {P : Int32 → zS → zL → Prop} (h : ∀ X, zU mX9_fitting X S L 0 [some (.ref 59), some (.int d), some (.int col), some (.int vals), none, none, none] [] (zpi P)) : zCi mX9_fitting S L [.ref 59, .int d, .int col, .int vals] P := zCi_of pn_X9_fitting (Nat.le_of_ble_eq_true rfl) (fun X => zt_pad (j := 3) rfl (h X))
set_option maxHeartbeats 2000000 in
theorem b_X9_lastSeen_0 {X : Nat × (Nat → Int32)} {S : zS} {L : zL} {P : Int32 → zS → zL → Prop} (h : zU mX9_lastSeen X S L 4 [some (.ref 59), some (.int (-1 : Int32)), some (.int (0 : Int32))] [] (zpi P)) : zU mX9_lastSeen X S L 0 [some (.ref 59), none, none] [] (zpi P) := by
  refine zi_iconst (v := -1) dX9_lastSeen_0 (by decide) ?_
  refine zi_istore_n dX9_lastSeen_1 rfl (by decide) rfl ?_
  refine zi_iconst (v := 0) dX9_lastSeen_2 (by decide) ?_
  refine zi_istore_n dX9_lastSeen_3 rfl (by decide) rfl ?_
  refine zt_drop (lv' := [some (.ref 59), some (.int (-1 : Int32)), some (.int (0 : Int32))]) [true, true, true] rfl ?_
  exact h
set_option maxHeartbeats 2000000 in
theorem b_X9_lastSeen_4 {v1 : Int32} {v2 : Int32} {X : Nat × (Nat → Int32)} {S : zS} {L : zL} {P : Int32 → zS → zL → Prop} (h : (((S 60 3) ≤ v2 → P v1 S L) ∧ (¬ (S 60 3) ≤ v2 → vp_in v2 8 ∧ ∀ x1 : Int32, x1 = (if v1 < (S 61 v2.toNatClampNeg) then (S 61 v2.toNatClampNeg) else v1) → ∀ x2 : Int32, x2 = v2 + (1 : Int32) → zU mX9_lastSeen X S L 4 [some (.ref 59), some (.int x1), some (.int x2)] [] (zpi P)))) : zU mX9_lastSeen X S L 4 [some (.ref 59), some (.int v1), some (.int v2)] [] (zpi P) := by
  refine zi_iload_n dX9_lastSeen_4 rfl rfl ?_
  refine zi_aload_n dX9_lastSeen_5 rfl rfl ?_
  refine zi_getr fl_X9_14 sk59 rfl dX9_lastSeen_6 ?_
  refine zi_geti fl_X9_47 sk60 rfl dX9_lastSeen_9 ?_
  refine zi_icmp_ge (tgt := 35) dX9_lastSeen_12 (by decide) (fun q9 => ?_) (fun q9 => ?_)
  · replace h := h.1 q9
    refine zi_iload_n dX9_lastSeen_35 rfl rfl ?_
    exact zt_iret dX9_lastSeen_36 rfl h
  · replace h := h.2 q9
    refine zi_iload_n dX9_lastSeen_15 rfl rfl ?_
    refine zi_aload_n dX9_lastSeen_16 rfl rfl ?_
    refine zi_getr fl_X9_14 sk59 rfl dX9_lastSeen_17 ?_
    refine zi_getr fl_X9_94 sk60 rfl dX9_lastSeen_20 ?_
    refine zi_iload_n dX9_lastSeen_23 rfl rfl ?_
    refine zi_iald sk61 h.1 dX9_lastSeen_24 ?_
    replace h := h.2
    refine zi_mmax dX9_lastSeen_25 lm_X9_97 ⟨by decide, by decide, by decide⟩ (Nat.le_of_ble_eq_true rfl) ?_
    refine zt_nmi (fun x1 ex1 => ?_)
    replace h := h x1 ex1
    refine zi_istore_n dX9_lastSeen_28 rfl (by decide) rfl ?_
    obtain ⟨x2, ex2⟩ : ∃ y : Int32, y = v2 + (1 : Int32) := ⟨_, rfl⟩
    replace h := h x2 ex2
    refine zi_iinc (v := x2) dX9_lastSeen_29 rfl (by rw [ex2]; rfl) (by decide) rfl ?_
    refine zi_goto (tgt := 4) dX9_lastSeen_32 (by decide) ?_
    refine zt_drop (lv' := [some (.ref 59), some (.int x1), some (.int x2)]) [true, true, true] rfl ?_
    exact h
theorem e_X9_lastSeen {S : zS} {L : zL} {P : Int32 → zS → zL → Prop} (h : ∀ X, zU mX9_lastSeen X S L 0 [some (.ref 59), none, none] [] (zpi P)) : zCi mX9_lastSeen S L [.ref 59] P := zCi_of pn_X9_lastSeen (Nat.le_of_ble_eq_true rfl) (fun X => zt_pad (j := 2) rfl (h X))
set_option maxHeartbeats 2000000 in
theorem b_X9_comesOut_0 {X : Nat × (Nat → Int32)} {S : zS} {L : zL} {P : Int32 → zS → zL → Prop} (h : zU mX9_comesOut X S L 2 [some (.ref 59), some (.int (0 : Int32)), none] [] (zpi P)) : zU mX9_comesOut X S L 0 [some (.ref 59), none, none] [] (zpi P) := by
  refine zi_iconst (v := 0) dX9_comesOut_0 (by decide) ?_
  refine zi_istore_n dX9_comesOut_1 rfl (by decide) rfl ?_
  refine zt_drop (lv' := [some (.ref 59), some (.int (0 : Int32)), none]) [true, true, false] rfl ?_
  exact h
set_option maxHeartbeats 2000000 in
theorem b_X9_comesOut_2 {v1 : Int32} {X : Nat × (Nat → Int32)} {S : zS} {L : zL} {P : Int32 → zS → zL → Prop} (h : (((S 60 3) ≤ v1 → P (1 : Int32) S L) ∧ (¬ (S 60 3) ≤ v1 → vp_in v1 8 ∧ ∀ x1 : Int32, x1 = (S 62 v1.toNatClampNeg) → (((S 6 3) ≤ x1 → P (0 : Int32) S L) ∧ (¬ (S 6 3) ≤ x1 → vp_in v1 8 ∧ zCi mX2_behind S L [.ref 52, .int (S 61 v1.toNatClampNeg), .int ((0 : Int32) + x1)] (fun y1 S1 L1 => vp_in v1 8 ∧ ((y1 = (S1 63 v1.toNatClampNeg) → ∀ x2 : Int32, x2 = v1 + (1 : Int32) → zU mX9_comesOut X S1 L1 2 [some (.ref 59), some (.int x2), none] [] (zpi P)) ∧ (¬ y1 = (S1 63 v1.toNatClampNeg) → P (0 : Int32) S1 L1)))))))) : zU mX9_comesOut X S L 2 [some (.ref 59), some (.int v1), none] [] (zpi P) := by
  refine zi_iload_n dX9_comesOut_2 rfl rfl ?_
  refine zi_aload_n dX9_comesOut_3 rfl rfl ?_
  refine zi_getr fl_X9_14 sk59 rfl dX9_comesOut_4 ?_
  refine zi_geti fl_X9_47 sk60 rfl dX9_comesOut_7 ?_
  refine zi_icmp_ge (tgt := 82) dX9_comesOut_10 (by decide) (fun q9 => ?_) (fun q9 => ?_)
  · replace h := h.1 q9
    refine zi_iconst (v := 1) dX9_comesOut_82 (by decide) ?_
    exact zt_zret (ty := .boolean) dX9_comesOut_83 rfl rfl h
  · replace h := h.2 q9
    refine zi_aload_n dX9_comesOut_13 rfl rfl ?_
    refine zi_getr fl_X9_14 sk59 rfl dX9_comesOut_14 ?_
    refine zi_getr fl_X9_102 sk60 rfl dX9_comesOut_17 ?_
    refine zi_iload_n dX9_comesOut_20 rfl rfl ?_
    refine zi_iald sk62 h.1 dX9_comesOut_21 ?_
    replace h := h.2
    refine zt_nmi (fun x1 ex1 => ?_)
    replace h := h x1 ex1
    refine zi_istore_n dX9_comesOut_22 rfl (by decide) rfl ?_
    refine zi_iload_n dX9_comesOut_23 rfl rfl ?_
    refine zi_aload_n dX9_comesOut_24 rfl rfl ?_
    refine zi_getr fl_X9_32 sk59 rfl dX9_comesOut_25 ?_
    refine zi_getr fl_X9_36 sk30 rfl dX9_comesOut_28 ?_
    refine zi_getr fl_X9_75 sk5 rfl dX9_comesOut_31 ?_
    refine zi_geti fl_X9_47 sk6 rfl dX9_comesOut_34 ?_
    refine zi_icmp_ge (tgt := 74) dX9_comesOut_37 (by decide) (fun q9 => ?_) (fun q9 => ?_)
    · replace h := h.1 q9
      refine zi_iconst (v := 0) dX9_comesOut_74 (by decide) ?_
      exact zt_zret (ty := .boolean) dX9_comesOut_75 rfl rfl h
    · replace h := h.2 q9
      refine zi_aload_n dX9_comesOut_40 rfl rfl ?_
      refine zi_getr fl_X9_32 sk59 rfl dX9_comesOut_41 ?_
      refine zi_getr fl_X9_59 sk30 rfl dX9_comesOut_44 ?_
      refine zi_aload_n dX9_comesOut_47 rfl rfl ?_
      refine zi_getr fl_X9_14 sk59 rfl dX9_comesOut_48 ?_
      refine zi_getr fl_X9_94 sk60 rfl dX9_comesOut_51 ?_
      refine zi_iload_n dX9_comesOut_54 rfl rfl ?_
      refine zi_iald sk61 h.1 dX9_comesOut_55 ?_
      replace h := h.2
      refine zi_iconst (v := 0) dX9_comesOut_56 (by decide) ?_
      refine zi_iload_n dX9_comesOut_57 rfl rfl ?_
      refine zi_iadd dX9_comesOut_58 ?_
      refine zt_Vi (As := [.int (S 61 v1.toNatClampNeg), .int ((0 : Int32) + x1)]) dX9_comesOut_59 lk_X9_82 sk52 rfl ⟨⟨by decide, by decide⟩, rfl, rfl⟩ rfl ⟨Nat.le_of_ble_eq_true rfl, rfl, rfl⟩ h (fun y1 S1 L1 h => ?_)
      refine zi_aload_n dX9_comesOut_62 rfl rfl ?_
      refine zi_getr fl_X9_14 sk59 rfl dX9_comesOut_63 ?_
      refine zi_getr fl_X9_105 sk60 rfl dX9_comesOut_66 ?_
      refine zi_iload_n dX9_comesOut_69 rfl rfl ?_
      refine zi_iald sk63 h.1 dX9_comesOut_70 ?_
      replace h := h.2
      refine zi_icmp_eq (tgt := 76) dX9_comesOut_71 (by decide) (fun q9 => ?_) (fun q9 => ?_)
      · replace h := h.1 q9
        obtain ⟨x2, ex2⟩ : ∃ y : Int32, y = v1 + (1 : Int32) := ⟨_, rfl⟩
        replace h := h x2 ex2
        refine zi_iinc (v := x2) dX9_comesOut_76 rfl (by rw [ex2]; rfl) (by decide) rfl ?_
        refine zi_goto (tgt := 2) dX9_comesOut_79 (by decide) ?_
        refine zt_drop (lv' := [some (.ref 59), some (.int x2), none]) [true, true, false] rfl ?_
        exact h
      · replace h := h.2 q9
        refine zi_iconst (v := 0) dX9_comesOut_74 (by decide) ?_
        exact zt_zret (ty := .boolean) dX9_comesOut_75 rfl rfl h
theorem e_X9_comesOut {S : zS} {L : zL} {P : Int32 → zS → zL → Prop} (h : ∀ X, zU mX9_comesOut X S L 0 [some (.ref 59), none, none] [] (zpi P)) : zCi mX9_comesOut S L [.ref 59] P := zCi_of pn_X9_comesOut (Nat.le_of_ble_eq_true rfl) (fun X => zt_pad (j := 2) rfl (h X))
set_option maxHeartbeats 2000000 in
theorem b_X9_monthToAsk_0 {p : Int32} {X : Nat × (Nat → Int32)} {S : zS} {L : zL} {P : Int32 → zS → zL → Prop} (h : zU mX9_monthToAsk X S L 8 [some (.ref 59), some (.int p), some (.int (0 : Int32)), some (.int (11 : Int32)), some (.int (0 : Int32)), none] [] (zpi P)) : zU mX9_monthToAsk X S L 0 [some (.ref 59), some (.int p), none, none, none, none] [] (zpi P) := by
  refine zi_iconst (v := 0) dX9_monthToAsk_0 (by decide) ?_
  refine zi_istore_n dX9_monthToAsk_1 rfl (by decide) rfl ?_
  refine zi_bipush (v := 11) dX9_monthToAsk_2 (by decide) ?_
  refine zi_istore_n dX9_monthToAsk_4 rfl (by decide) rfl ?_
  refine zi_iconst (v := 0) dX9_monthToAsk_5 (by decide) ?_
  refine zi_istore dX9_monthToAsk_6 (by decide) rfl ?_
  refine zt_drop (lv' := [some (.ref 59), some (.int p), some (.int (0 : Int32)), some (.int (11 : Int32)), some (.int (0 : Int32)), none]) [true, true, true, true, true, false] rfl ?_
  exact h
set_option maxHeartbeats 2000000 in
theorem b_X9_monthToAsk_8 {v1 : Int32} {v2 : Int32} {v3 : Int32} {v4 : Int32} {X : Nat × (Nat → Int32)} {S : zS} {L : zL} {P : Int32 → zS → zL → Prop} (h : (((24 : Int32) ≤ v4 → P v2 S L) ∧ (¬ (24 : Int32) ≤ v4 → zCi mX9_mostAlike S L [.ref 59, .int v4, .int v1] (fun y1 S1 L1 => ((v3 ≤ y1 → ∀ x1 : Int32, x1 = v4 + (1 : Int32) → zU mX9_monthToAsk X S1 L1 8 [some (.ref 59), some (.int v1), some (.int v2), some (.int v3), some (.int x1), none] [] (zpi P)) ∧ (¬ v3 ≤ y1 → ∀ x1 : Int32, x1 = v4 + (1 : Int32) → zU mX9_monthToAsk X S1 L1 8 [some (.ref 59), some (.int v1), some (.int v4), some (.int y1), some (.int x1), none] [] (zpi P))))))) : zU mX9_monthToAsk X S L 8 [some (.ref 59), some (.int v1), some (.int v2), some (.int v3), some (.int v4), none] [] (zpi P) := by
  refine zi_iload dX9_monthToAsk_8 rfl ?_
  refine zi_bipush (v := 24) dX9_monthToAsk_10 (by decide) ?_
  refine zi_icmp_ge (tgt := 42) dX9_monthToAsk_12 (by decide) (fun q9 => ?_) (fun q9 => ?_)
  · replace h := h.1 q9
    refine zi_iload_n dX9_monthToAsk_42 rfl rfl ?_
    exact zt_iret dX9_monthToAsk_43 rfl h
  · replace h := h.2 q9
    refine zi_aload_n dX9_monthToAsk_15 rfl rfl ?_
    refine zi_iload dX9_monthToAsk_16 rfl ?_
    refine zi_iload_n dX9_monthToAsk_18 rfl rfl ?_
    refine zt_Vi (As := [.int v4, .int v1]) dX9_monthToAsk_19 lk_X9_108 sk59 rfl ⟨⟨by decide, by decide⟩, rfl, rfl⟩ rfl ⟨Nat.le_of_ble_eq_true rfl, rfl, rfl⟩ h (fun y1 S1 L1 h => ?_)
    refine zi_istore dX9_monthToAsk_22 (by decide) rfl ?_
    refine zi_iload dX9_monthToAsk_24 rfl ?_
    refine zi_iload_n dX9_monthToAsk_26 rfl rfl ?_
    refine zi_icmp_ge (tgt := 36) dX9_monthToAsk_27 (by decide) (fun q9 => ?_) (fun q9 => ?_)
    · replace h := h.1 q9
      obtain ⟨x1, ex1⟩ : ∃ y : Int32, y = v4 + (1 : Int32) := ⟨_, rfl⟩
      replace h := h x1 ex1
      refine zi_iinc (v := x1) dX9_monthToAsk_36 rfl (by rw [ex1]; rfl) (by decide) rfl ?_
      refine zi_goto (tgt := 8) dX9_monthToAsk_39 (by decide) ?_
      refine zt_drop (lv' := [some (.ref 59), some (.int v1), some (.int v2), some (.int v3), some (.int x1), none]) [true, true, true, true, true, false] rfl ?_
      exact h
    · replace h := h.2 q9
      refine zi_iload dX9_monthToAsk_30 rfl ?_
      refine zi_istore_n dX9_monthToAsk_32 rfl (by decide) rfl ?_
      refine zi_iload dX9_monthToAsk_33 rfl ?_
      refine zi_istore_n dX9_monthToAsk_35 rfl (by decide) rfl ?_
      obtain ⟨x1, ex1⟩ : ∃ y : Int32, y = v4 + (1 : Int32) := ⟨_, rfl⟩
      replace h := h x1 ex1
      refine zi_iinc (v := x1) dX9_monthToAsk_36 rfl (by rw [ex1]; rfl) (by decide) rfl ?_
      refine zi_goto (tgt := 8) dX9_monthToAsk_39 (by decide) ?_
      refine zt_drop (lv' := [some (.ref 59), some (.int v1), some (.int v4), some (.int y1), some (.int x1), none]) [true, true, true, true, true, false] rfl ?_
      exact h
theorem e_X9_monthToAsk {p : Int32} {S : zS} {L : zL} {P : Int32 → zS → zL → Prop} (h : ∀ X, zU mX9_monthToAsk X S L 0 [some (.ref 59), some (.int p), none, none, none, none] [] (zpi P)) : zCi mX9_monthToAsk S L [.ref 59, .int p] P := zCi_of pn_X9_monthToAsk (Nat.le_of_ble_eq_true rfl) (fun X => zt_pad (j := 4) rfl (h X))
set_option maxHeartbeats 2000000 in
theorem b_X9_mostAlike_0 {m : Int32} {p : Int32} {X : Nat × (Nat → Int32)} {S : zS} {L : zL} {P : Int32 → zS → zL → Prop} (h : zU mX9_mostAlike X S L 5 [some (.ref 59), some (.int m), some (.int p), some (.int (0 : Int32)), some (.int (0 : Int32))] [] (zpi P)) : zU mX9_mostAlike X S L 0 [some (.ref 59), some (.int m), some (.int p), none, none] [] (zpi P) := by
  refine zi_iconst (v := 0) dX9_mostAlike_0 (by decide) ?_
  refine zi_istore_n dX9_mostAlike_1 rfl (by decide) rfl ?_
  refine zi_iconst (v := 0) dX9_mostAlike_2 (by decide) ?_
  refine zi_istore dX9_mostAlike_3 (by decide) rfl ?_
  refine zt_drop (lv' := [some (.ref 59), some (.int m), some (.int p), some (.int (0 : Int32)), some (.int (0 : Int32))]) [true, true, true, true, true] rfl ?_
  exact h
set_option maxHeartbeats 2000000 in
theorem b_X9_mostAlike_5 {v1 : Int32} {v2 : Int32} {v3 : Int32} {v4 : Int32} {X : Nat × (Nat → Int32)} {S : zS} {L : zL} {P : Int32 → zS → zL → Prop} (h : (((S 10 3) ≤ v4 → P v3 S L) ∧ (¬ (S 10 3) ≤ v4 → (((((S 59 1) >>> (v4 &&& 31)) &&& (1 : Int32)) = 0 → ∀ x1 : Int32, x1 = v4 + (1 : Int32) → zU mX9_mostAlike X S L 5 [some (.ref 59), some (.int v1), some (.int v2), some (.int v3), some (.int x1)] [] (zpi P)) ∧ (¬ (((S 59 1) >>> (v4 &&& 31)) &&& (1 : Int32)) = 0 → zCi mX9_manyLike S L [.ref 59, .int v4, .int v1, .int v2] (fun y1 S1 L1 => ∀ x1 : Int32, x1 = (if v3 < y1 then y1 else v3) → ∀ x2 : Int32, x2 = v4 + (1 : Int32) → zU mX9_mostAlike X S1 L1 5 [some (.ref 59), some (.int v1), some (.int v2), some (.int x1), some (.int x2)] [] (zpi P))))))) : zU mX9_mostAlike X S L 5 [some (.ref 59), some (.int v1), some (.int v2), some (.int v3), some (.int v4)] [] (zpi P) := by
  refine zi_iload dX9_mostAlike_5 rfl ?_
  refine zi_aload_n dX9_mostAlike_7 rfl rfl ?_
  refine zi_getr fl_X9_32 sk59 rfl dX9_mostAlike_8 ?_
  refine zi_getr fl_X9_36 sk30 rfl dX9_mostAlike_11 ?_
  refine zi_getr fl_X9_42 sk5 rfl dX9_mostAlike_14 ?_
  refine zi_geti fl_X9_47 sk10 rfl dX9_mostAlike_17 ?_
  refine zi_icmp_ge (tgt := 54) dX9_mostAlike_20 (by decide) (fun q9 => ?_) (fun q9 => ?_)
  · replace h := h.1 q9
    refine zi_iload_n dX9_mostAlike_54 rfl rfl ?_
    exact zt_iret dX9_mostAlike_55 rfl h
  · replace h := h.2 q9
    refine zi_aload_n dX9_mostAlike_23 rfl rfl ?_
    refine zi_geti fl_X9_20 sk59 rfl dX9_mostAlike_24 ?_
    refine zi_iload dX9_mostAlike_27 rfl ?_
    refine zi_ishr dX9_mostAlike_29 ?_
    refine zi_iconst (v := 1) dX9_mostAlike_30 (by decide) ?_
    refine zi_iand dX9_mostAlike_31 ?_
    refine zi_if_eq (tgt := 48) dX9_mostAlike_32 (by decide) (fun q9 => ?_) (fun q9 => ?_)
    · replace h := h.1 q9
      obtain ⟨x1, ex1⟩ : ∃ y : Int32, y = v4 + (1 : Int32) := ⟨_, rfl⟩
      replace h := h x1 ex1
      refine zi_iinc (v := x1) dX9_mostAlike_48 rfl (by rw [ex1]; rfl) (by decide) rfl ?_
      refine zi_goto (tgt := 5) dX9_mostAlike_51 (by decide) ?_
      refine zt_drop (lv' := [some (.ref 59), some (.int v1), some (.int v2), some (.int v3), some (.int x1)]) [true, true, true, true, true] rfl ?_
      exact h
    · replace h := h.2 q9
      refine zi_iload_n dX9_mostAlike_35 rfl rfl ?_
      refine zi_aload_n dX9_mostAlike_36 rfl rfl ?_
      refine zi_iload dX9_mostAlike_37 rfl ?_
      refine zi_iload_n dX9_mostAlike_39 rfl rfl ?_
      refine zi_iload_n dX9_mostAlike_40 rfl rfl ?_
      refine zt_Vi (As := [.int v4, .int v1, .int v2]) dX9_mostAlike_41 lk_X9_111 sk59 rfl ⟨⟨by decide, by decide⟩, rfl, rfl⟩ rfl ⟨Nat.le_of_ble_eq_true rfl, rfl, rfl⟩ h (fun y1 S1 L1 h => ?_)
      refine zi_mmax dX9_mostAlike_44 lm_X9_97 ⟨by decide, by decide, by decide⟩ (Nat.le_of_ble_eq_true rfl) ?_
      refine zt_nmi (fun x1 ex1 => ?_)
      replace h := h x1 ex1
      refine zi_istore_n dX9_mostAlike_47 rfl (by decide) rfl ?_
      obtain ⟨x2, ex2⟩ : ∃ y : Int32, y = v4 + (1 : Int32) := ⟨_, rfl⟩
      replace h := h x2 ex2
      refine zi_iinc (v := x2) dX9_mostAlike_48 rfl (by rw [ex2]; rfl) (by decide) rfl ?_
      refine zi_goto (tgt := 5) dX9_mostAlike_51 (by decide) ?_
      refine zt_drop (lv' := [some (.ref 59), some (.int v1), some (.int v2), some (.int x1), some (.int x2)]) [true, true, true, true, true] rfl ?_
      exact h
theorem e_X9_mostAlike {m : Int32} {p : Int32} {S : zS} {L : zL} {P : Int32 → zS → zL → Prop} (h : ∀ X, zU mX9_mostAlike X S L 0 [some (.ref 59), some (.int m), some (.int p), none, none] [] (zpi P)) : zCi mX9_mostAlike S L [.ref 59, .int m, .int p] P := zCi_of pn_X9_mostAlike (Nat.le_of_ble_eq_true rfl) (fun X => zt_pad (j := 2) rfl (h X))
set_option maxHeartbeats 2000000 in
theorem b_X9_manyLike_0 {d : Int32} {m : Int32} {p : Int32} {X : Nat × (Nat → Int32)} {S : zS} {L : zL} {P : Int32 → zS → zL → Prop} (h : zCi mX9_placeOf S L [.int d, .int m, .int p] (fun y1 S1 L1 => vp_in y1 1920 ∧ ∀ x1 : Int32, x1 = (S1 64 y1.toNatClampNeg) → zU mX9_manyLike X S1 L1 19 [some (.ref 59), none, some (.int m), some (.int p), some (.int x1), some (.int (0 : Int32)), some (.int (0 : Int32))] [] (zpi P))) : zU mX9_manyLike X S L 0 [some (.ref 59), some (.int d), some (.int m), some (.int p), none, none, none] [] (zpi P) := by
  refine zi_aload_n dX9_manyLike_0 rfl rfl ?_
  refine zi_getr fl_X9_24 sk59 rfl dX9_manyLike_1 ?_
  refine zi_iload_n dX9_manyLike_4 rfl rfl ?_
  refine zi_iload_n dX9_manyLike_5 rfl rfl ?_
  refine zi_iload_n dX9_manyLike_6 rfl rfl ?_
  refine zt_Si (As := [.int d, .int m, .int p]) dX9_manyLike_7 lk_X9_78 ⟨⟨by decide, by decide⟩, rfl, rfl⟩ rfl ⟨Nat.le_of_ble_eq_true rfl, rfl, rfl⟩ h (fun y1 S1 L1 h => ?_)
  refine zi_iald sk64 h.1 dX9_manyLike_10 ?_
  replace h := h.2
  refine zt_nmi (fun x1 ex1 => ?_)
  replace h := h x1 ex1
  refine zi_istore dX9_manyLike_11 (by decide) rfl ?_
  refine zi_iconst (v := 0) dX9_manyLike_13 (by decide) ?_
  refine zi_istore dX9_manyLike_14 (by decide) rfl ?_
  refine zi_iconst (v := 0) dX9_manyLike_16 (by decide) ?_
  refine zi_istore dX9_manyLike_17 (by decide) rfl ?_
  refine zt_drop (lv' := [some (.ref 59), none, some (.int m), some (.int p), some (.int x1), some (.int (0 : Int32)), some (.int (0 : Int32))]) [true, false, true, true, true, true, true] rfl ?_
  exact h
set_option maxHeartbeats 2000000 in
theorem b_X9_manyLike_19 {v2 : Int32} {v3 : Int32} {v4 : Int32} {v5 : Int32} {v6 : Int32} {X : Nat × (Nat → Int32)} {S : zS} {L : zL} {P : Int32 → zS → zL → Prop} (h : (((S 10 3) ≤ v6 → P v5 S L) ∧ (¬ (S 10 3) ≤ v6 → (((((S 59 1) >>> (v6 &&& 31)) &&& (1 : Int32)) = 0 → ∀ x1 : Int32, x1 = v6 + (1 : Int32) → zU mX9_manyLike X S L 19 [some (.ref 59), none, some (.int v2), some (.int v3), some (.int v4), some (.int v5), some (.int x1)] [] (zpi P)) ∧ (¬ (((S 59 1) >>> (v6 &&& 31)) &&& (1 : Int32)) = 0 → zCi mX9_placeOf S L [.int v6, .int v2, .int v3] (fun y1 S1 L1 => vp_in y1 1920 ∧ ((¬ (S1 64 y1.toNatClampNeg) = v4 → ∀ x1 : Int32, x1 = v6 + (1 : Int32) → zU mX9_manyLike X S1 L1 19 [some (.ref 59), none, some (.int v2), some (.int v3), some (.int v4), some (.int v5), some (.int x1)] [] (zpi P)) ∧ ((S1 64 y1.toNatClampNeg) = v4 → ∀ x1 : Int32, x1 = v5 + (1 : Int32) → ∀ x2 : Int32, x2 = v6 + (1 : Int32) → zU mX9_manyLike X S1 L1 19 [some (.ref 59), none, some (.int v2), some (.int v3), some (.int v4), some (.int x1), some (.int x2)] [] (zpi P))))))))) : zU mX9_manyLike X S L 19 [some (.ref 59), none, some (.int v2), some (.int v3), some (.int v4), some (.int v5), some (.int v6)] [] (zpi P) := by
  refine zi_iload dX9_manyLike_19 rfl ?_
  refine zi_aload_n dX9_manyLike_21 rfl rfl ?_
  refine zi_getr fl_X9_32 sk59 rfl dX9_manyLike_22 ?_
  refine zi_getr fl_X9_36 sk30 rfl dX9_manyLike_25 ?_
  refine zi_getr fl_X9_42 sk5 rfl dX9_manyLike_28 ?_
  refine zi_geti fl_X9_47 sk10 rfl dX9_manyLike_31 ?_
  refine zi_icmp_ge (tgt := 75) dX9_manyLike_34 (by decide) (fun q9 => ?_) (fun q9 => ?_)
  · replace h := h.1 q9
    refine zi_iload dX9_manyLike_75 rfl ?_
    exact zt_iret dX9_manyLike_77 rfl h
  · replace h := h.2 q9
    refine zi_aload_n dX9_manyLike_37 rfl rfl ?_
    refine zi_geti fl_X9_20 sk59 rfl dX9_manyLike_38 ?_
    refine zi_iload dX9_manyLike_41 rfl ?_
    refine zi_ishr dX9_manyLike_43 ?_
    refine zi_iconst (v := 1) dX9_manyLike_44 (by decide) ?_
    refine zi_iand dX9_manyLike_45 ?_
    refine zi_if_eq (tgt := 69) dX9_manyLike_46 (by decide) (fun q9 => ?_) (fun q9 => ?_)
    · replace h := h.1 q9
      obtain ⟨x1, ex1⟩ : ∃ y : Int32, y = v6 + (1 : Int32) := ⟨_, rfl⟩
      replace h := h x1 ex1
      refine zi_iinc (v := x1) dX9_manyLike_69 rfl (by rw [ex1]; rfl) (by decide) rfl ?_
      refine zi_goto (tgt := 19) dX9_manyLike_72 (by decide) ?_
      refine zt_drop (lv' := [some (.ref 59), none, some (.int v2), some (.int v3), some (.int v4), some (.int v5), some (.int x1)]) [true, false, true, true, true, true, true] rfl ?_
      exact h
    · replace h := h.2 q9
      refine zi_aload_n dX9_manyLike_49 rfl rfl ?_
      refine zi_getr fl_X9_24 sk59 rfl dX9_manyLike_50 ?_
      refine zi_iload dX9_manyLike_53 rfl ?_
      refine zi_iload_n dX9_manyLike_55 rfl rfl ?_
      refine zi_iload_n dX9_manyLike_56 rfl rfl ?_
      refine zt_Si (As := [.int v6, .int v2, .int v3]) dX9_manyLike_57 lk_X9_78 ⟨⟨by decide, by decide⟩, rfl, rfl⟩ rfl ⟨Nat.le_of_ble_eq_true rfl, rfl, rfl⟩ h (fun y1 S1 L1 h => ?_)
      refine zi_iald sk64 h.1 dX9_manyLike_60 ?_
      replace h := h.2
      refine zi_iload dX9_manyLike_61 rfl ?_
      refine zi_icmp_ne (tgt := 69) dX9_manyLike_63 (by decide) (fun q9 => ?_) (fun q9 => ?_)
      · replace h := h.1 q9
        obtain ⟨x1, ex1⟩ : ∃ y : Int32, y = v6 + (1 : Int32) := ⟨_, rfl⟩
        replace h := h x1 ex1
        refine zi_iinc (v := x1) dX9_manyLike_69 rfl (by rw [ex1]; rfl) (by decide) rfl ?_
        refine zi_goto (tgt := 19) dX9_manyLike_72 (by decide) ?_
        refine zt_drop (lv' := [some (.ref 59), none, some (.int v2), some (.int v3), some (.int v4), some (.int v5), some (.int x1)]) [true, false, true, true, true, true, true] rfl ?_
        exact h
      · replace h := h.2 q9
        obtain ⟨x1, ex1⟩ : ∃ y : Int32, y = v5 + (1 : Int32) := ⟨_, rfl⟩
        replace h := h x1 ex1
        refine zi_iinc (v := x1) dX9_manyLike_66 rfl (by rw [ex1]; rfl) (by decide) rfl ?_
        obtain ⟨x2, ex2⟩ : ∃ y : Int32, y = v6 + (1 : Int32) := ⟨_, rfl⟩
        replace h := h x2 ex2
        refine zi_iinc (v := x2) dX9_manyLike_69 rfl (by rw [ex2]; rfl) (by decide) rfl ?_
        refine zi_goto (tgt := 19) dX9_manyLike_72 (by decide) ?_
        refine zt_drop (lv' := [some (.ref 59), none, some (.int v2), some (.int v3), some (.int v4), some (.int x1), some (.int x2)]) [true, false, true, true, true, true, true] rfl ?_
        exact h
theorem e_X9_manyLike {d : Int32} {m : Int32} {p : Int32} {S : zS} {L : zL} {P : Int32 → zS → zL → Prop} (h : ∀ X, zU mX9_manyLike X S L 0 [some (.ref 59), some (.int d), some (.int m), some (.int p), none, none, none] [] (zpi P)) : zCi mX9_manyLike S L [.ref 59, .int d, .int m, .int p] P := zCi_of pn_X9_manyLike (Nat.le_of_ble_eq_true rfl) (fun X => zt_pad (j := 3) rfl (h X))
