set_option maxHeartbeats 2000000 in
theorem b_X1_begin_0 {X : Nat × (Nat → Int32)} {S : zS} {L : zL} {P : zS → zL → Prop} (h : ∀ S1 : zS, S1 = zc S 57 (upd (S 57) 0 (-1 : Int32)) → ∀ S2 : zS, S2 = zc S1 57 (upd (S1 57) 1 (-1 : Int32)) → P S2 L) : zU mX1_begin X S L 0 [some (.ref 57)] [] (zpv P) := by
  refine zi_aload_n dX1_begin_0 rfl rfl ?_
  refine zi_iconst (v := -1) dX1_begin_1 (by decide) ?_
  refine zi_puti fp_X1_9 sk57 rfl dX1_begin_2 ?_
  refine zt_nmS (fun S1 eS1 => ?_)
  replace h := h S1 eS1
  refine zi_aload_n dX1_begin_5 rfl rfl ?_
  refine zi_iconst (v := -1) dX1_begin_6 (by decide) ?_
  refine zi_puti fp_X1_15 sk57 rfl dX1_begin_7 ?_
  refine zt_nmS (fun S2 eS2 => ?_)
  replace h := h S2 eS2
  exact zt_vret dX1_begin_10 rfl h
theorem e_X1_begin {S : zS} {L : zL} {P : zS → zL → Prop} (h : ∀ X, zU mX1_begin X S L 0 [some (.ref 57)] [] (zpv P)) : zCv mX1_begin S L [.ref 57] P := zCv_of pn_X1_begin (Nat.le_of_ble_eq_true rfl) (fun X => zt_pad (j := 0) rfl (h X))
set_option maxHeartbeats 2000000 in
theorem b_X1_goOn_0 {things : Int32} {X : Nat × (Nat → Int32)} {S : zS} {L : zL} {P : Int32 → zS → zL → Prop} (h : ((¬ (S 57 1) = (-1 : Int32) → zU mX1_goOn X S L 30 [some (.ref 57), some (.int things)] [] (zpi P)) ∧ ((S 57 1) = (-1 : Int32) → ((things ≤ ((S 57 0) + (1 : Int32)) → zU mX1_goOn X S L 30 [some (.ref 57), some (.int things)] [] (zpi P)) ∧ (¬ things ≤ ((S 57 0) + (1 : Int32)) → ∀ S1 : zS, S1 = zc S 57 (upd (S 57) 0 ((S 57 0) + (1 : Int32))) → P (1 : Int32) S1 L))))) : zU mX1_goOn X S L 0 [some (.ref 57), some (.int things)] [] (zpi P) := by
  refine zi_aload_n dX1_goOn_0 rfl rfl ?_
  refine zi_geti fl_X1_15 sk57 rfl dX1_goOn_1 ?_
  refine zi_iconst (v := -1) dX1_goOn_4 (by decide) ?_
  refine zi_icmp_ne (tgt := 30) dX1_goOn_5 (by decide) (fun q9 => ?_) (fun q9 => ?_)
  · replace h := h.1 q9
    refine zt_drop (lv' := [some (.ref 57), some (.int things)]) [true, true] rfl ?_
    exact h
  · replace h := h.2 q9
    refine zi_aload_n dX1_goOn_8 rfl rfl ?_
    refine zi_geti fl_X1_9 sk57 rfl dX1_goOn_9 ?_
    refine zi_iconst (v := 1) dX1_goOn_12 (by decide) ?_
    refine zi_iadd dX1_goOn_13 ?_
    refine zi_iload_n dX1_goOn_14 rfl rfl ?_
    refine zi_icmp_ge (tgt := 30) dX1_goOn_15 (by decide) (fun q9 => ?_) (fun q9 => ?_)
    · replace h := h.1 q9
      refine zt_drop (lv' := [some (.ref 57), some (.int things)]) [true, true] rfl ?_
      exact h
    · replace h := h.2 q9
      refine zi_aload_n dX1_goOn_18 rfl rfl ?_
      refine zi_dup dX1_goOn_19 rfl ?_
      refine zi_geti fl_X1_9 sk57 rfl dX1_goOn_20 ?_
      refine zi_iconst (v := 1) dX1_goOn_23 (by decide) ?_
      refine zi_iadd dX1_goOn_24 ?_
      refine zi_puti fp_X1_9 sk57 rfl dX1_goOn_25 ?_
      refine zt_nmS (fun S1 eS1 => ?_)
      replace h := h S1 eS1
      refine zi_iconst (v := 1) dX1_goOn_28 (by decide) ?_
      exact zt_zret (ty := .boolean) dX1_goOn_29 rfl rfl h
set_option maxHeartbeats 2000000 in
theorem b_X1_goOn_30 {v1 : Int32} {X : Nat × (Nat → Int32)} {S : zS} {L : zL} {P : Int32 → zS → zL → Prop} (h : ((¬ (S 57 1) = (-1 : Int32) → ((v1 ≤ ((S 57 1) + (1 : Int32)) → ∀ S1 : zS, S1 = zc S 57 (upd (S 57) 0 ((S 57 0) + (1 : Int32))) → ∀ S2 : zS, S2 = zc S1 57 (upd (S1 57) 1 ((S1 57 0) + (1 : Int32))) → zU mX1_goOn X S2 L 94 [some (.ref 57), some (.int v1)] [] (zpi P)) ∧ (¬ v1 ≤ ((S 57 1) + (1 : Int32)) → ∀ S1 : zS, S1 = zc S 57 (upd (S 57) 1 ((S 57 1) + (1 : Int32))) → zU mX1_goOn X S1 L 94 [some (.ref 57), some (.int v1)] [] (zpi P)))) ∧ ((S 57 1) = (-1 : Int32) → ∀ S1 : zS, S1 = zc S 57 (upd (S 57) 0 (0 : Int32)) → ∀ S2 : zS, S2 = zc S1 57 (upd (S1 57) 1 (1 : Int32)) → zU mX1_goOn X S2 L 94 [some (.ref 57), some (.int v1)] [] (zpi P)))) : zU mX1_goOn X S L 30 [some (.ref 57), some (.int v1)] [] (zpi P) := by
  refine zi_aload_n dX1_goOn_30 rfl rfl ?_
  refine zi_geti fl_X1_15 sk57 rfl dX1_goOn_31 ?_
  refine zi_iconst (v := -1) dX1_goOn_34 (by decide) ?_
  refine zi_icmp_ne (tgt := 51) dX1_goOn_35 (by decide) (fun q9 => ?_) (fun q9 => ?_)
  · replace h := h.1 q9
    refine zi_aload_n dX1_goOn_51 rfl rfl ?_
    refine zi_geti fl_X1_15 sk57 rfl dX1_goOn_52 ?_
    refine zi_iconst (v := 1) dX1_goOn_55 (by decide) ?_
    refine zi_iadd dX1_goOn_56 ?_
    refine zi_iload_n dX1_goOn_57 rfl rfl ?_
    refine zi_icmp_ge (tgt := 74) dX1_goOn_58 (by decide) (fun q9 => ?_) (fun q9 => ?_)
    · replace h := h.1 q9
      refine zi_aload_n dX1_goOn_74 rfl rfl ?_
      refine zi_dup dX1_goOn_75 rfl ?_
      refine zi_geti fl_X1_9 sk57 rfl dX1_goOn_76 ?_
      refine zi_iconst (v := 1) dX1_goOn_79 (by decide) ?_
      refine zi_iadd dX1_goOn_80 ?_
      refine zi_puti fp_X1_9 sk57 rfl dX1_goOn_81 ?_
      refine zt_nmS (fun S1 eS1 => ?_)
      replace h := h S1 eS1
      refine zi_aload_n dX1_goOn_84 rfl rfl ?_
      refine zi_aload_n dX1_goOn_85 rfl rfl ?_
      refine zi_geti fl_X1_9 sk57 rfl dX1_goOn_86 ?_
      refine zi_iconst (v := 1) dX1_goOn_89 (by decide) ?_
      refine zi_iadd dX1_goOn_90 ?_
      refine zi_puti fp_X1_15 sk57 rfl dX1_goOn_91 ?_
      refine zt_nmS (fun S2 eS2 => ?_)
      replace h := h S2 eS2
      refine zt_drop (lv' := [some (.ref 57), some (.int v1)]) [true, true] rfl ?_
      exact h
    · replace h := h.2 q9
      refine zi_aload_n dX1_goOn_61 rfl rfl ?_
      refine zi_dup dX1_goOn_62 rfl ?_
      refine zi_geti fl_X1_15 sk57 rfl dX1_goOn_63 ?_
      refine zi_iconst (v := 1) dX1_goOn_66 (by decide) ?_
      refine zi_iadd dX1_goOn_67 ?_
      refine zi_puti fp_X1_15 sk57 rfl dX1_goOn_68 ?_
      refine zt_nmS (fun S1 eS1 => ?_)
      replace h := h S1 eS1
      refine zi_goto (tgt := 94) dX1_goOn_71 (by decide) ?_
      refine zt_drop (lv' := [some (.ref 57), some (.int v1)]) [true, true] rfl ?_
      exact h
  · replace h := h.2 q9
    refine zi_aload_n dX1_goOn_38 rfl rfl ?_
    refine zi_iconst (v := 0) dX1_goOn_39 (by decide) ?_
    refine zi_puti fp_X1_9 sk57 rfl dX1_goOn_40 ?_
    refine zt_nmS (fun S1 eS1 => ?_)
    replace h := h S1 eS1
    refine zi_aload_n dX1_goOn_43 rfl rfl ?_
    refine zi_iconst (v := 1) dX1_goOn_44 (by decide) ?_
    refine zi_puti fp_X1_15 sk57 rfl dX1_goOn_45 ?_
    refine zt_nmS (fun S2 eS2 => ?_)
    replace h := h S2 eS2
    refine zi_goto (tgt := 94) dX1_goOn_48 (by decide) ?_
    refine zt_drop (lv' := [some (.ref 57), some (.int v1)]) [true, true] rfl ?_
    exact h
set_option maxHeartbeats 2000000 in
theorem b_X1_goOn_94 {v1 : Int32} {X : Nat × (Nat → Int32)} {S : zS} {L : zL} {P : Int32 → zS → zL → Prop} (h : ((v1 ≤ (S 57 1) → P (0 : Int32) S L) ∧ (¬ v1 ≤ (S 57 1) → P (1 : Int32) S L))) : zU mX1_goOn X S L 94 [some (.ref 57), some (.int v1)] [] (zpi P) := by
  refine zi_aload_n dX1_goOn_94 rfl rfl ?_
  refine zi_geti fl_X1_15 sk57 rfl dX1_goOn_95 ?_
  refine zi_iload_n dX1_goOn_98 rfl rfl ?_
  refine zi_icmp_ge (tgt := 106) dX1_goOn_99 (by decide) (fun q9 => ?_) (fun q9 => ?_)
  · replace h := h.1 q9
    refine zi_iconst (v := 0) dX1_goOn_106 (by decide) ?_
    exact zt_zret (ty := .boolean) dX1_goOn_107 rfl rfl h
  · replace h := h.2 q9
    refine zi_iconst (v := 1) dX1_goOn_102 (by decide) ?_
    refine zi_goto (tgt := 107) dX1_goOn_103 (by decide) ?_
    exact zt_zret (ty := .boolean) dX1_goOn_107 rfl rfl h
theorem e_X1_goOn {things : Int32} {S : zS} {L : zL} {P : Int32 → zS → zL → Prop} (h : ∀ X, zU mX1_goOn X S L 0 [some (.ref 57), some (.int things)] [] (zpi P)) : zCi mX1_goOn S L [.ref 57, .int things] P := zCi_of pn_X1_goOn (Nat.le_of_ble_eq_true rfl) (fun X => zt_pad (j := 0) rfl (h X))
set_option maxHeartbeats 2000000 in
theorem b_X1_takeOutOf_36_0 {X : Nat × (Nat → Int32)} {S : zS} {L : zL} {P : zS → zL → Prop} (h : zCv mX5_takeOut S L [.ref 36, .int (S 57 1)] (fun S1 L1 => zCv mX5_takeOut S1 L1 [.ref 36, .int (S1 57 0)] (fun S2 L2 => P S2 L2))) : zU mX1_takeOutOf X S L 0 [some (.ref 57), some (.ref 36)] [] (zpv P) := by
  refine zi_aload_n dX1_takeOutOf_0 rfl rfl ?_
  refine zi_aload_n dX1_takeOutOf_1 rfl rfl ?_
  refine zi_geti fl_X1_15 sk57 rfl dX1_takeOutOf_2 ?_
  refine zt_Vv (As := [.int (S 57 1)]) dX1_takeOutOf_5 lk_X1_18 sk36 rfl ⟨⟨by decide, by decide⟩, rfl, rfl⟩ rfl ⟨Nat.le_of_ble_eq_true rfl, rfl, rfl⟩ h (fun S1 L1 h => ?_)
  refine zi_aload_n dX1_takeOutOf_8 rfl rfl ?_
  refine zi_aload_n dX1_takeOutOf_9 rfl rfl ?_
  refine zi_geti fl_X1_9 sk57 rfl dX1_takeOutOf_10 ?_
  refine zt_Vv (As := [.int (S1 57 0)]) dX1_takeOutOf_13 lk_X1_18 sk36 rfl ⟨⟨by decide, by decide⟩, rfl, rfl⟩ rfl ⟨Nat.le_of_ble_eq_true rfl, rfl, rfl⟩ h (fun S2 L2 h => ?_)
  exact zt_vret dX1_takeOutOf_16 rfl h
theorem e_X1_takeOutOf_36 {S : zS} {L : zL} {P : zS → zL → Prop} (h : ∀ X, zU mX1_takeOutOf X S L 0 [some (.ref 57), some (.ref 36)] [] (zpv P)) : zCv mX1_takeOutOf S L [.ref 57, .ref 36] P := zCv_of pn_X1_takeOutOf (Nat.le_of_ble_eq_true rfl) (fun X => zt_pad (j := 0) rfl (h X))
set_option maxHeartbeats 2000000 in
theorem b_X1_takeOutOf_40_0 {X : Nat × (Nat → Int32)} {S : zS} {L : zL} {P : zS → zL → Prop} (h : zCv mX5_takeOut S L [.ref 40, .int (S 57 1)] (fun S1 L1 => zCv mX5_takeOut S1 L1 [.ref 40, .int (S1 57 0)] (fun S2 L2 => P S2 L2))) : zU mX1_takeOutOf X S L 0 [some (.ref 57), some (.ref 40)] [] (zpv P) := by
  refine zi_aload_n dX1_takeOutOf_0 rfl rfl ?_
  refine zi_aload_n dX1_takeOutOf_1 rfl rfl ?_
  refine zi_geti fl_X1_15 sk57 rfl dX1_takeOutOf_2 ?_
  refine zt_Vv (As := [.int (S 57 1)]) dX1_takeOutOf_5 lk_X1_18 sk40 rfl ⟨⟨by decide, by decide⟩, rfl, rfl⟩ rfl ⟨Nat.le_of_ble_eq_true rfl, rfl, rfl⟩ h (fun S1 L1 h => ?_)
  refine zi_aload_n dX1_takeOutOf_8 rfl rfl ?_
  refine zi_aload_n dX1_takeOutOf_9 rfl rfl ?_
  refine zi_geti fl_X1_9 sk57 rfl dX1_takeOutOf_10 ?_
  refine zt_Vv (As := [.int (S1 57 0)]) dX1_takeOutOf_13 lk_X1_18 sk40 rfl ⟨⟨by decide, by decide⟩, rfl, rfl⟩ rfl ⟨Nat.le_of_ble_eq_true rfl, rfl, rfl⟩ h (fun S2 L2 h => ?_)
  exact zt_vret dX1_takeOutOf_16 rfl h
theorem e_X1_takeOutOf_40 {S : zS} {L : zL} {P : zS → zL → Prop} (h : ∀ X, zU mX1_takeOutOf X S L 0 [some (.ref 57), some (.ref 40)] [] (zpv P)) : zCv mX1_takeOutOf S L [.ref 57, .ref 40] P := zCv_of pn_X1_takeOutOf (Nat.le_of_ble_eq_true rfl) (fun X => zt_pad (j := 0) rfl (h X))
set_option maxHeartbeats 2000000 in
theorem b_X1_tell_0 {i : Int32} {X : Nat × (Nat → Int32)} {S : zS} {L : zL} {P : Int32 → zS → zL → Prop} (h : ((¬ i = (-1 : Int32) → ((¬ i = 0 → P (S 57 1) S L) ∧ (i = 0 → P (S 57 0) S L))) ∧ (i = (-1 : Int32) → ((¬ (S 57 0) = (-1 : Int32) → ((¬ (S 57 1) = (-1 : Int32) → P (2 : Int32) S L) ∧ ((S 57 1) = (-1 : Int32) → P (1 : Int32) S L))) ∧ ((S 57 0) = (-1 : Int32) → P (0 : Int32) S L))))) : zU mX1_tell X S L 0 [some (.ref 57), some (.int i)] [] (zpi P) := by
  refine zi_iload_n dX1_tell_0 rfl rfl ?_
  refine zi_iconst (v := -1) dX1_tell_1 (by decide) ?_
  refine zi_icmp_ne (tgt := 31) dX1_tell_2 (by decide) (fun q9 => ?_) (fun q9 => ?_)
  · replace h := h.1 q9
    refine zi_iload_n dX1_tell_31 rfl rfl ?_
    refine zi_if_ne (tgt := 42) dX1_tell_32 (by decide) (fun q9 => ?_) (fun q9 => ?_)
    · replace h := h.1 q9
      refine zi_aload_n dX1_tell_42 rfl rfl ?_
      refine zi_geti fl_X1_15 sk57 rfl dX1_tell_43 ?_
      exact zt_iret dX1_tell_46 rfl h
    · replace h := h.2 q9
      refine zi_aload_n dX1_tell_35 rfl rfl ?_
      refine zi_geti fl_X1_9 sk57 rfl dX1_tell_36 ?_
      refine zi_goto (tgt := 46) dX1_tell_39 (by decide) ?_
      exact zt_iret dX1_tell_46 rfl h
  · replace h := h.2 q9
    refine zi_aload_n dX1_tell_5 rfl rfl ?_
    refine zi_geti fl_X1_9 sk57 rfl dX1_tell_6 ?_
    refine zi_iconst (v := -1) dX1_tell_9 (by decide) ?_
    refine zi_icmp_ne (tgt := 17) dX1_tell_10 (by decide) (fun q9 => ?_) (fun q9 => ?_)
    · replace h := h.1 q9
      refine zi_aload_n dX1_tell_17 rfl rfl ?_
      refine zi_geti fl_X1_15 sk57 rfl dX1_tell_18 ?_
      refine zi_iconst (v := -1) dX1_tell_21 (by decide) ?_
      refine zi_icmp_ne (tgt := 29) dX1_tell_22 (by decide) (fun q9 => ?_) (fun q9 => ?_)
      · replace h := h.1 q9
        refine zi_iconst (v := 2) dX1_tell_29 (by decide) ?_
        exact zt_iret dX1_tell_30 rfl h
      · replace h := h.2 q9
        refine zi_iconst (v := 1) dX1_tell_25 (by decide) ?_
        refine zi_goto (tgt := 30) dX1_tell_26 (by decide) ?_
        exact zt_iret dX1_tell_30 rfl h
    · replace h := h.2 q9
      refine zi_iconst (v := 0) dX1_tell_13 (by decide) ?_
      refine zi_goto (tgt := 30) dX1_tell_14 (by decide) ?_
      exact zt_iret dX1_tell_30 rfl h
theorem e_X1_tell {i : Int32} {S : zS} {L : zL} {P : Int32 → zS → zL → Prop} (h : ∀ X, zU mX1_tell X S L 0 [some (.ref 57), some (.int i)] [] (zpi P)) : zCi mX1_tell S L [.ref 57, .int i] P := zCi_of pn_X1_tell (Nat.le_of_ble_eq_true rfl) (fun X => zt_pad (j := 0) rfl (h X))
set_option maxHeartbeats 2000000 in
theorem b_X4_findRound_0 {pace : Int32} {X : Nat × (Nat → Int32)} {S : zS} {L : zL} {P : zS → zL → Prop} (h : ((¬ (S 56 4) = pace → ∀ S1 : zS, S1 = zc S 56 (upd (S 56) 4 pace) → ∀ S2 : zS, S2 = zc S1 56 (upd (S1 56) 7 (-1 : Int32)) → zU mX4_findRound X S2 L 21 [some (.ref 56), some (.int pace), some (.int (0 : Int32)), none, none] [] (zpv P)) ∧ ((S 56 4) = pace → P S L))) : zU mX4_findRound X S L 0 [some (.ref 56), some (.int pace), none, none, none] [] (zpv P) := by
  refine zi_aload_n dX4_findRound_0 rfl rfl ?_
  refine zi_geti fl_X4_26 sk56 rfl dX4_findRound_1 ?_
  refine zi_iload_n dX4_findRound_4 rfl rfl ?_
  refine zi_icmp_ne (tgt := 9) dX4_findRound_5 (by decide) (fun q9 => ?_) (fun q9 => ?_)
  · replace h := h.1 q9
    refine zi_aload_n dX4_findRound_9 rfl rfl ?_
    refine zi_iload_n dX4_findRound_10 rfl rfl ?_
    refine zi_puti fp_X4_26 sk56 rfl dX4_findRound_11 ?_
    refine zt_nmS (fun S1 eS1 => ?_)
    replace h := h S1 eS1
    refine zi_aload_n dX4_findRound_14 rfl rfl ?_
    refine zi_iconst (v := -1) dX4_findRound_15 (by decide) ?_
    refine zi_puti fp_X4_35 sk56 rfl dX4_findRound_16 ?_
    refine zt_nmS (fun S2 eS2 => ?_)
    replace h := h S2 eS2
    refine zi_iconst (v := 0) dX4_findRound_19 (by decide) ?_
    refine zi_istore_n dX4_findRound_20 rfl (by decide) rfl ?_
    refine zt_drop (lv' := [some (.ref 56), some (.int pace), some (.int (0 : Int32)), none, none]) [true, true, true, false, false] rfl ?_
    exact h
  · replace h := h.2 q9
    exact zt_vret dX4_findRound_8 rfl h
set_option maxHeartbeats 2000000 in
theorem b_X4_findRound_21 {v1 : Int32} {v2 : Int32} {X : Nat × (Nat → Int32)} {S : zS} {L : zL} {P : zS → zL → Prop} (h : (((24 : Int32) ≤ v2 → P S L) ∧ (¬ (24 : Int32) ≤ v2 → zU mX4_findRound X S L 29 [some (.ref 56), some (.int v1), some (.int v2), some (.int (0 : Int32)), none] [] (zpv P)))) : zU mX4_findRound X S L 21 [some (.ref 56), some (.int v1), some (.int v2), none, none] [] (zpv P) := by
  refine zi_iload_n dX4_findRound_21 rfl rfl ?_
  refine zi_bipush (v := 24) dX4_findRound_22 (by decide) ?_
  refine zi_icmp_ge (tgt := 119) dX4_findRound_24 (by decide) (fun q9 => ?_) (fun q9 => ?_)
  · replace h := h.1 q9
    exact zt_vret dX4_findRound_119 rfl h
  · replace h := h.2 q9
    refine zi_iconst (v := 0) dX4_findRound_27 (by decide) ?_
    refine zi_istore_n dX4_findRound_28 rfl (by decide) rfl ?_
    refine zt_drop (lv' := [some (.ref 56), some (.int v1), some (.int v2), some (.int (0 : Int32)), none]) [true, true, true, true, false] rfl ?_
    exact h
set_option maxHeartbeats 2000000 in
theorem b_X4_findRound_29 {v1 : Int32} {v2 : Int32} {v3 : Int32} {X : Nat × (Nat → Int32)} {S : zS} {L : zL} {P : zS → zL → Prop} (h : (((4 : Int32) ≤ v3 → ∀ x1 : Int32, x1 = v2 + (1 : Int32) → zU mX4_findRound X S L 21 [some (.ref 56), some (.int v1), some (.int x1), none, none] [] (zpv P)) ∧ (¬ (4 : Int32) ≤ v3 → zCv mX3_afresh S L [.ref 30] (fun S1 L1 => zCi mX5_append S1 L1 [.ref 40, .int v2, .int v3, .int v1] (fun y2 S2 L2 => zCv mX2_run S2 L2 [.ref 52, .int (23 : Int32)] (fun S3 L3 => zCi mX2_worthInAll S3 L3 [.ref 52] (fun y4 S4 L4 => ((y4 ≤ (S4 56 7) → ∀ x1 : Int32, x1 = v3 + (1 : Int32) → zU mX4_findRound X S4 L4 29 [some (.ref 56), some (.int v1), some (.int v2), some (.int x1), none] [] (zpv P)) ∧ (¬ y4 ≤ (S4 56 7) → ∀ S5 : zS, S5 = zc S4 56 (upd (S4 56) 7 y4) → ∀ S6 : zS, S6 = zc S5 56 (upd (S5 56) 5 v2) → ∀ S7 : zS, S7 = zc S6 56 (upd (S6 56) 6 v3) → ∀ x1 : Int32, x1 = v3 + (1 : Int32) → zU mX4_findRound X S7 L4 29 [some (.ref 56), some (.int v1), some (.int v2), some (.int x1), none] [] (zpv P)))))))))) : zU mX4_findRound X S L 29 [some (.ref 56), some (.int v1), some (.int v2), some (.int v3), none] [] (zpv P) := by
  refine zi_iload_n dX4_findRound_29 rfl rfl ?_
  refine zi_iconst (v := 4) dX4_findRound_30 (by decide) ?_
  refine zi_icmp_ge (tgt := 113) dX4_findRound_31 (by decide) (fun q9 => ?_) (fun q9 => ?_)
  · replace h := h.1 q9
    obtain ⟨x1, ex1⟩ : ∃ y : Int32, y = v2 + (1 : Int32) := ⟨_, rfl⟩
    replace h := h x1 ex1
    refine zi_iinc (v := x1) dX4_findRound_113 rfl (by rw [ex1]; rfl) (by decide) rfl ?_
    refine zi_goto (tgt := 21) dX4_findRound_116 (by decide) ?_
    refine zt_drop (lv' := [some (.ref 56), some (.int v1), some (.int x1), none, none]) [true, true, true, false, false] rfl ?_
    exact h
  · replace h := h.2 q9
    refine zi_aload_n dX4_findRound_34 rfl rfl ?_
    refine zi_getr fl_X4_47 sk56 rfl dX4_findRound_35 ?_
    refine zt_Vv (As := []) dX4_findRound_38 lk_X4_51 sk30 rfl ⟨⟨by decide, by decide⟩, rfl, rfl⟩ rfl ⟨Nat.le_of_ble_eq_true rfl, rfl, rfl⟩ h (fun S1 L1 h => ?_)
    refine zi_aload_n dX4_findRound_41 rfl rfl ?_
    refine zi_getr fl_X4_47 sk56 rfl dX4_findRound_42 ?_
    refine zi_getr fl_X4_56 sk30 rfl dX4_findRound_45 ?_
    refine zi_getr fl_X4_60 sk31 rfl dX4_findRound_48 ?_
    refine zi_iload_n dX4_findRound_51 rfl rfl ?_
    refine zi_iload_n dX4_findRound_52 rfl rfl ?_
    refine zi_iload_n dX4_findRound_53 rfl rfl ?_
    refine zt_Vi (As := [.int v2, .int v3, .int v1]) dX4_findRound_54 lk_X4_66 sk40 rfl ⟨⟨by decide, by decide⟩, rfl, rfl⟩ rfl ⟨Nat.le_of_ble_eq_true rfl, rfl, rfl⟩ h (fun y2 S2 L2 h => ?_)
    refine zi_pop dX4_findRound_57 rfl ?_
    refine zi_aload_n dX4_findRound_58 rfl rfl ?_
    refine zi_getr fl_X4_47 sk56 rfl dX4_findRound_59 ?_
    refine zi_getr fl_X4_72 sk30 rfl dX4_findRound_62 ?_
    refine zi_bipush (v := 23) dX4_findRound_65 (by decide) ?_
    refine zt_Vv (As := [.int (23 : Int32)]) dX4_findRound_67 lk_X4_76 sk52 rfl ⟨⟨by decide, by decide⟩, rfl, rfl⟩ rfl ⟨Nat.le_of_ble_eq_true rfl, rfl, rfl⟩ h (fun S3 L3 h => ?_)
    refine zi_aload_n dX4_findRound_70 rfl rfl ?_
    refine zi_getr fl_X4_47 sk56 rfl dX4_findRound_71 ?_
    refine zi_getr fl_X4_72 sk30 rfl dX4_findRound_74 ?_
    refine zt_Vi (As := []) dX4_findRound_77 lk_X4_82 sk52 rfl ⟨⟨by decide, by decide⟩, rfl, rfl⟩ rfl ⟨Nat.le_of_ble_eq_true rfl, rfl, rfl⟩ h (fun y4 S4 L4 h => ?_)
    refine zi_istore dX4_findRound_80 (by decide) rfl ?_
    refine zi_iload dX4_findRound_82 rfl ?_
    refine zi_aload_n dX4_findRound_84 rfl rfl ?_
    refine zi_geti fl_X4_35 sk56 rfl dX4_findRound_85 ?_
    refine zi_icmp_le (tgt := 107) dX4_findRound_88 (by decide) (fun q9 => ?_) (fun q9 => ?_)
    · replace h := h.1 q9
      obtain ⟨x1, ex1⟩ : ∃ y : Int32, y = v3 + (1 : Int32) := ⟨_, rfl⟩
      replace h := h x1 ex1
      refine zi_iinc (v := x1) dX4_findRound_107 rfl (by rw [ex1]; rfl) (by decide) rfl ?_
      refine zi_goto (tgt := 29) dX4_findRound_110 (by decide) ?_
      refine zt_drop (lv' := [some (.ref 56), some (.int v1), some (.int v2), some (.int x1), none]) [true, true, true, true, false] rfl ?_
      exact h
    · replace h := h.2 q9
      refine zi_aload_n dX4_findRound_91 rfl rfl ?_
      refine zi_iload dX4_findRound_92 rfl ?_
      refine zi_puti fp_X4_35 sk56 rfl dX4_findRound_94 ?_
      refine zt_nmS (fun S5 eS5 => ?_)
      replace h := h S5 eS5
      refine zi_aload_n dX4_findRound_97 rfl rfl ?_
      refine zi_iload_n dX4_findRound_98 rfl rfl ?_
      refine zi_puti fp_X4_29 sk56 rfl dX4_findRound_99 ?_
      refine zt_nmS (fun S6 eS6 => ?_)
      replace h := h S6 eS6
      refine zi_aload_n dX4_findRound_102 rfl rfl ?_
      refine zi_iload_n dX4_findRound_103 rfl rfl ?_
      refine zi_puti fp_X4_32 sk56 rfl dX4_findRound_104 ?_
      refine zt_nmS (fun S7 eS7 => ?_)
      replace h := h S7 eS7
      obtain ⟨x1, ex1⟩ : ∃ y : Int32, y = v3 + (1 : Int32) := ⟨_, rfl⟩
      replace h := h x1 ex1
      refine zi_iinc (v := x1) dX4_findRound_107 rfl (by rw [ex1]; rfl) (by decide) rfl ?_
      refine zi_goto (tgt := 29) dX4_findRound_110 (by decide) ?_
      refine zt_drop (lv' := [some (.ref 56), some (.int v1), some (.int v2), some (.int x1), none]) [true, true, true, true, false] rfl ?_
      exact h
theorem e_X4_findRound {pace : Int32} {S : zS} {L : zL} {P : zS → zL → Prop} (h : ∀ X, zU mX4_findRound X S L 0 [some (.ref 56), some (.int pace), none, none, none] [] (zpv P)) : zCv mX4_findRound S L [.ref 56, .int pace] P := zCv_of pn_X4_findRound (Nat.le_of_ble_eq_true rfl) (fun X => zt_pad (j := 3) rfl (h X))
set_option maxHeartbeats 2000000 in
theorem b_X4_fewestDeeds_0 {p : Int32} {most : Int32} {i : Int32} {X : Nat × (Nat → Int32)} {S : zS} {L : zL} {P : Int32 → zS → zL → Prop} (h : zCv mX1_begin S L [.ref 57] (fun S1 L1 => zU mX4_fewestDeeds X S1 L1 10 [some (.ref 56), some (.int p), some (.int most), some (.int i), some (.int (0 : Int32))] [] (zpi P))) : zU mX4_fewestDeeds X S L 0 [some (.ref 56), some (.int p), some (.int most), some (.int i), none] [] (zpi P) := by
  refine zi_aload_n dX4_fewestDeeds_0 rfl rfl ?_
  refine zi_getr fl_X4_12 sk56 rfl dX4_fewestDeeds_1 ?_
  refine zt_Vv (As := []) dX4_fewestDeeds_4 lk_X4_86 sk57 rfl ⟨⟨by decide, by decide⟩, rfl, rfl⟩ rfl ⟨Nat.le_of_ble_eq_true rfl, rfl, rfl⟩ h (fun S1 L1 h => ?_)
  refine zi_iconst (v := 0) dX4_fewestDeeds_7 (by decide) ?_
  refine zi_istore dX4_fewestDeeds_8 (by decide) rfl ?_
  refine zt_drop (lv' := [some (.ref 56), some (.int p), some (.int most), some (.int i), some (.int (0 : Int32))]) [true, true, true, true, true] rfl ?_
  exact h
set_option maxHeartbeats 2000000 in
theorem b_X4_fewestDeeds_10 {v1 : Int32} {v2 : Int32} {v3 : Int32} {v4 : Int32} {X : Nat × (Nat → Int32)} {S : zS} {L : zL} {P : Int32 → zS → zL → Prop} (h : (((56 : Int32) ≤ v4 → P (-1 : Int32) S L) ∧ (¬ (56 : Int32) ≤ v4 → ((v4 < (S 56 3) → zU mX4_fewestDeeds X S L 68 [some (.ref 56), some (.int v1), some (.int v2), some (.int v3), some (.int v4)] [] (zpi P)) ∧ (¬ v4 < (S 56 3) → zCv mX3_afresh S L [.ref 30] (fun S1 L1 => zCv mX1_takeOutOf S1 L1 [.ref 57, .ref 36] (fun S2 L2 => zCv mX2_run S2 L2 [.ref 52, .int (23 : Int32)] (fun S3 L3 => zCv mX4_measure S3 L3 [.ref 56, .int v4] (fun S4 L4 => zU mX4_fewestDeeds X S4 L4 68 [some (.ref 56), some (.int v1), some (.int v2), some (.int v3), some (.int v4)] [] (zpi P)))))))))) : zU mX4_fewestDeeds X S L 10 [some (.ref 56), some (.int v1), some (.int v2), some (.int v3), some (.int v4)] [] (zpi P) := by
  refine zi_iload dX4_fewestDeeds_10 rfl ?_
  refine zi_bipush (v := 56) dX4_fewestDeeds_12 (by decide) ?_
  refine zi_icmp_ge (tgt := 124) dX4_fewestDeeds_14 (by decide) (fun q9 => ?_) (fun q9 => ?_)
  · replace h := h.1 q9
    refine zi_iconst (v := -1) dX4_fewestDeeds_124 (by decide) ?_
    exact zt_iret dX4_fewestDeeds_125 rfl h
  · replace h := h.2 q9
    refine zi_iload dX4_fewestDeeds_17 rfl ?_
    refine zi_aload_n dX4_fewestDeeds_19 rfl rfl ?_
    refine zi_geti fl_X4_22 sk56 rfl dX4_fewestDeeds_20 ?_
    refine zi_icmp_lt (tgt := 68) dX4_fewestDeeds_23 (by decide) (fun q9 => ?_) (fun q9 => ?_)
    · replace h := h.1 q9
      refine zt_drop (lv' := [some (.ref 56), some (.int v1), some (.int v2), some (.int v3), some (.int v4)]) [true, true, true, true, true] rfl ?_
      exact h
    · replace h := h.2 q9
      refine zi_aload_n dX4_fewestDeeds_26 rfl rfl ?_
      refine zi_getr fl_X4_47 sk56 rfl dX4_fewestDeeds_27 ?_
      refine zt_Vv (As := []) dX4_fewestDeeds_30 lk_X4_51 sk30 rfl ⟨⟨by decide, by decide⟩, rfl, rfl⟩ rfl ⟨Nat.le_of_ble_eq_true rfl, rfl, rfl⟩ h (fun S1 L1 h => ?_)
      refine zi_aload_n dX4_fewestDeeds_33 rfl rfl ?_
      refine zi_getr fl_X4_12 sk56 rfl dX4_fewestDeeds_34 ?_
      refine zi_aload_n dX4_fewestDeeds_37 rfl rfl ?_
      refine zi_getr fl_X4_47 sk56 rfl dX4_fewestDeeds_38 ?_
      refine zi_getr fl_X4_56 sk30 rfl dX4_fewestDeeds_41 ?_
      refine zi_getr fl_X4_89 sk31 rfl dX4_fewestDeeds_44 ?_
      refine zt_Vv (As := [.ref 36]) dX4_fewestDeeds_47 lk_X4_92 sk57 rfl ⟨⟨by decide, by decide⟩, rfl, rfl⟩ rfl ⟨Nat.le_of_ble_eq_true rfl, rfl, rfl⟩ h (fun S2 L2 h => ?_)
      refine zi_aload_n dX4_fewestDeeds_50 rfl rfl ?_
      refine zi_getr fl_X4_47 sk56 rfl dX4_fewestDeeds_51 ?_
      refine zi_getr fl_X4_72 sk30 rfl dX4_fewestDeeds_54 ?_
      refine zi_bipush (v := 23) dX4_fewestDeeds_57 (by decide) ?_
      refine zt_Vv (As := [.int (23 : Int32)]) dX4_fewestDeeds_59 lk_X4_76 sk52 rfl ⟨⟨by decide, by decide⟩, rfl, rfl⟩ rfl ⟨Nat.le_of_ble_eq_true rfl, rfl, rfl⟩ h (fun S3 L3 h => ?_)
      refine zi_aload_n dX4_fewestDeeds_62 rfl rfl ?_
      refine zi_iload dX4_fewestDeeds_63 rfl ?_
      refine zt_Vv (As := [.int v4]) dX4_fewestDeeds_65 lk_X4_96 sk56 rfl ⟨⟨by decide, by decide⟩, rfl, rfl⟩ rfl ⟨Nat.le_of_ble_eq_true rfl, rfl, rfl⟩ h (fun S4 L4 h => ?_)
      refine zt_drop (lv' := [some (.ref 56), some (.int v1), some (.int v2), some (.int v3), some (.int v4)]) [true, true, true, true, true] rfl ?_
      exact h
set_option maxHeartbeats 2000000 in
theorem b_X4_fewestDeeds_68 {v1 : Int32} {v2 : Int32} {v3 : Int32} {v4 : Int32} {X : Nat × (Nat → Int32)} {S : zS} {L : zL} {P : Int32 → zS → zL → Prop} (h : vp_in ((v4 * (8 : Int32)) + v1) 448 ∧ ((v2 < (S 58 ((v4 * (8 : Int32)) + v1).toNatClampNeg) → zCi mX1_goOn S L [.ref 57, .int (S 10 3)] (fun y1 S1 L1 => ((¬ y1 = 0 → ∀ x1 : Int32, x1 = v4 + (1 : Int32) → zU mX4_fewestDeeds X S1 L1 10 [some (.ref 56), some (.int v1), some (.int v2), some (.int v3), some (.int x1)] [] (zpi P)) ∧ (y1 = 0 → P (-1 : Int32) S1 L1)))) ∧ (¬ v2 < (S 58 ((v4 * (8 : Int32)) + v1).toNatClampNeg) → zCi mX1_tell S L [.ref 57, .int v3] (fun y1 S1 L1 => P y1 S1 L1)))) : zU mX4_fewestDeeds X S L 68 [some (.ref 56), some (.int v1), some (.int v2), some (.int v3), some (.int v4)] [] (zpi P) := by
  refine zi_aload_n dX4_fewestDeeds_68 rfl rfl ?_
  refine zi_getr fl_X4_18 sk56 rfl dX4_fewestDeeds_69 ?_
  refine zi_iload dX4_fewestDeeds_72 rfl ?_
  refine zi_bipush (v := 8) dX4_fewestDeeds_74 (by decide) ?_
  refine zi_imul dX4_fewestDeeds_76 ?_
  refine zi_iload_n dX4_fewestDeeds_77 rfl rfl ?_
  refine zi_iadd dX4_fewestDeeds_78 ?_
  refine zi_iald sk58 h.1 dX4_fewestDeeds_79 ?_
  replace h := h.2
  refine zi_iload_n dX4_fewestDeeds_80 rfl rfl ?_
  refine zi_icmp_gt (tgt := 93) dX4_fewestDeeds_81 (by decide) (fun q9 => ?_) (fun q9 => ?_)
  · replace h := h.1 q9
    refine zi_aload_n dX4_fewestDeeds_93 rfl rfl ?_
    refine zi_getr fl_X4_12 sk56 rfl dX4_fewestDeeds_94 ?_
    refine zi_aload_n dX4_fewestDeeds_97 rfl rfl ?_
    refine zi_getr fl_X4_47 sk56 rfl dX4_fewestDeeds_98 ?_
    refine zi_getr fl_X4_103 sk30 rfl dX4_fewestDeeds_101 ?_
    refine zi_getr fl_X4_89 sk5 rfl dX4_fewestDeeds_104 ?_
    refine zi_geti fl_X4_106 sk10 rfl dX4_fewestDeeds_107 ?_
    refine zt_Vi (As := [.int (S 10 3)]) dX4_fewestDeeds_110 lk_X4_109 sk57 rfl ⟨⟨by decide, by decide⟩, rfl, rfl⟩ rfl ⟨Nat.le_of_ble_eq_true rfl, rfl, rfl⟩ h (fun y1 S1 L1 h => ?_)
    refine zi_if_ne (tgt := 118) dX4_fewestDeeds_113 (by decide) (fun q9 => ?_) (fun q9 => ?_)
    · replace h := h.1 q9
      obtain ⟨x1, ex1⟩ : ∃ y : Int32, y = v4 + (1 : Int32) := ⟨_, rfl⟩
      replace h := h x1 ex1
      refine zi_iinc (v := x1) dX4_fewestDeeds_118 rfl (by rw [ex1]; rfl) (by decide) rfl ?_
      refine zi_goto (tgt := 10) dX4_fewestDeeds_121 (by decide) ?_
      refine zt_drop (lv' := [some (.ref 56), some (.int v1), some (.int v2), some (.int v3), some (.int x1)]) [true, true, true, true, true] rfl ?_
      exact h
    · replace h := h.2 q9
      refine zi_iconst (v := -1) dX4_fewestDeeds_116 (by decide) ?_
      exact zt_iret dX4_fewestDeeds_117 rfl h
  · replace h := h.2 q9
    refine zi_aload_n dX4_fewestDeeds_84 rfl rfl ?_
    refine zi_getr fl_X4_12 sk56 rfl dX4_fewestDeeds_85 ?_
    refine zi_iload_n dX4_fewestDeeds_88 rfl rfl ?_
    refine zt_Vi (As := [.int v3]) dX4_fewestDeeds_89 lk_X4_99 sk57 rfl ⟨⟨by decide, by decide⟩, rfl, rfl⟩ rfl ⟨Nat.le_of_ble_eq_true rfl, rfl, rfl⟩ h (fun y1 S1 L1 h => ?_)
    exact zt_iret dX4_fewestDeeds_92 rfl h
theorem e_X4_fewestDeeds {p : Int32} {most : Int32} {i : Int32} {S : zS} {L : zL} {P : Int32 → zS → zL → Prop} (h : ∀ X, zU mX4_fewestDeeds X S L 0 [some (.ref 56), some (.int p), some (.int most), some (.int i), none] [] (zpi P)) : zCi mX4_fewestDeeds S L [.ref 56, .int p, .int most, .int i] P := zCi_of pn_X4_fewestDeeds (Nat.le_of_ble_eq_true rfl) (fun X => zt_pad (j := 1) rfl (h X))
set_option maxHeartbeats 2000000 in
theorem b_X4_measure_0 {row : Int32} {X : Nat × (Nat → Int32)} {S : zS} {L : zL} {P : zS → zL → Prop} (h : zU mX4_measure X S L 2 [some (.ref 56), some (.int row), some (.int (0 : Int32)), none, none] [] (zpv P)) : zU mX4_measure X S L 0 [some (.ref 56), some (.int row), none, none, none] [] (zpv P) := by
  refine zi_iconst (v := 0) dX4_measure_0 (by decide) ?_
  refine zi_istore_n dX4_measure_1 rfl (by decide) rfl ?_
  refine zt_drop (lv' := [some (.ref 56), some (.int row), some (.int (0 : Int32)), none, none]) [true, true, true, false, false] rfl ?_
  exact h
set_option maxHeartbeats 2000000 in
theorem b_X4_measure_2 {v1 : Int32} {v2 : Int32} {X : Nat × (Nat → Int32)} {S : zS} {L : zL} {P : zS → zL → Prop} (h : (((S 6 3) ≤ v2 → ∀ S1 : zS, S1 = zc S 56 (upd (S 56) 3 (v1 + (1 : Int32))) → P S1 L) ∧ (¬ (S 6 3) ≤ v2 → zU mX4_measure X S L 24 [some (.ref 56), some (.int v1), some (.int v2), some (.int (0 : Int32)), some (.int (0 : Int32))] [] (zpv P)))) : zU mX4_measure X S L 2 [some (.ref 56), some (.int v1), some (.int v2), none, none] [] (zpv P) := by
  refine zi_iload_n dX4_measure_2 rfl rfl ?_
  refine zi_aload_n dX4_measure_3 rfl rfl ?_
  refine zi_getr fl_X4_47 sk56 rfl dX4_measure_4 ?_
  refine zi_getr fl_X4_103 sk30 rfl dX4_measure_7 ?_
  refine zi_getr fl_X4_113 sk5 rfl dX4_measure_10 ?_
  refine zi_geti fl_X4_106 sk6 rfl dX4_measure_13 ?_
  refine zi_icmp_ge (tgt := 75) dX4_measure_16 (by decide) (fun q9 => ?_) (fun q9 => ?_)
  · replace h := h.1 q9
    refine zi_aload_n dX4_measure_75 rfl rfl ?_
    refine zi_iload_n dX4_measure_76 rfl rfl ?_
    refine zi_iconst (v := 1) dX4_measure_77 (by decide) ?_
    refine zi_iadd dX4_measure_78 ?_
    refine zi_puti fp_X4_22 sk56 rfl dX4_measure_79 ?_
    refine zt_nmS (fun S1 eS1 => ?_)
    replace h := h S1 eS1
    exact zt_vret dX4_measure_82 rfl h
  · replace h := h.2 q9
    refine zi_iconst (v := 0) dX4_measure_19 (by decide) ?_
    refine zi_istore_n dX4_measure_20 rfl (by decide) rfl ?_
    refine zi_iconst (v := 0) dX4_measure_21 (by decide) ?_
    refine zi_istore dX4_measure_22 (by decide) rfl ?_
    refine zt_drop (lv' := [some (.ref 56), some (.int v1), some (.int v2), some (.int (0 : Int32)), some (.int (0 : Int32))]) [true, true, true, true, true] rfl ?_
    exact h
set_option maxHeartbeats 2000000 in
theorem b_X4_measure_24 {v1 : Int32} {v2 : Int32} {v3 : Int32} {v4 : Int32} {X : Nat × (Nat → Int32)} {S : zS} {L : zL} {P : zS → zL → Prop} (h : (((24 : Int32) ≤ v4 → vp_in ((v1 * (8 : Int32)) + v2) 448 ∧ ∀ S1 : zS, S1 = zc S 58 (upd (S 58) ((v1 * (8 : Int32)) + v2).toNatClampNeg v3) → ∀ x1 : Int32, x1 = v2 + (1 : Int32) → zU mX4_measure X S1 L 2 [some (.ref 56), some (.int v1), some (.int x1), none, none] [] (zpv P)) ∧ (¬ (24 : Int32) ≤ v4 → zCi mX2_behind S L [.ref 52, .int v4, .int ((0 : Int32) + v2)] (fun y1 S1 L1 => ∀ x1 : Int32, x1 = (if v3 < y1 then y1 else v3) → ∀ x2 : Int32, x2 = v4 + (1 : Int32) → zU mX4_measure X S1 L1 24 [some (.ref 56), some (.int v1), some (.int v2), some (.int x1), some (.int x2)] [] (zpv P))))) : zU mX4_measure X S L 24 [some (.ref 56), some (.int v1), some (.int v2), some (.int v3), some (.int v4)] [] (zpv P) := by
  refine zi_iload dX4_measure_24 rfl ?_
  refine zi_bipush (v := 24) dX4_measure_26 (by decide) ?_
  refine zi_icmp_ge (tgt := 57) dX4_measure_28 (by decide) (fun q9 => ?_) (fun q9 => ?_)
  · replace h := h.1 q9
    refine zi_aload_n dX4_measure_57 rfl rfl ?_
    refine zi_getr fl_X4_18 sk56 rfl dX4_measure_58 ?_
    refine zi_iload_n dX4_measure_61 rfl rfl ?_
    refine zi_bipush (v := 8) dX4_measure_62 (by decide) ?_
    refine zi_imul dX4_measure_64 ?_
    refine zi_iload_n dX4_measure_65 rfl rfl ?_
    refine zi_iadd dX4_measure_66 ?_
    refine zi_iload_n dX4_measure_67 rfl rfl ?_
    refine zi_iast sk58 h.1 dX4_measure_68 ?_
    replace h := h.2
    refine zt_nmS (fun S1 eS1 => ?_)
    replace h := h S1 eS1
    obtain ⟨x1, ex1⟩ : ∃ y : Int32, y = v2 + (1 : Int32) := ⟨_, rfl⟩
    replace h := h x1 ex1
    refine zi_iinc (v := x1) dX4_measure_69 rfl (by rw [ex1]; rfl) (by decide) rfl ?_
    refine zi_goto (tgt := 2) dX4_measure_72 (by decide) ?_
    refine zt_drop (lv' := [some (.ref 56), some (.int v1), some (.int x1), none, none]) [true, true, true, false, false] rfl ?_
    exact h
  · replace h := h.2 q9
    refine zi_iload_n dX4_measure_31 rfl rfl ?_
    refine zi_aload_n dX4_measure_32 rfl rfl ?_
    refine zi_getr fl_X4_47 sk56 rfl dX4_measure_33 ?_
    refine zi_getr fl_X4_72 sk30 rfl dX4_measure_36 ?_
    refine zi_iload dX4_measure_39 rfl ?_
    refine zi_iconst (v := 0) dX4_measure_41 (by decide) ?_
    refine zi_iload_n dX4_measure_42 rfl rfl ?_
    refine zi_iadd dX4_measure_43 ?_
    refine zt_Vi (As := [.int v4, .int ((0 : Int32) + v2)]) dX4_measure_44 lk_X4_116 sk52 rfl ⟨⟨by decide, by decide⟩, rfl, rfl⟩ rfl ⟨Nat.le_of_ble_eq_true rfl, rfl, rfl⟩ h (fun y1 S1 L1 h => ?_)
    refine zi_mmax dX4_measure_47 lm_X4_120 ⟨by decide, by decide, by decide⟩ (Nat.le_of_ble_eq_true rfl) ?_
    refine zt_nmi (fun x1 ex1 => ?_)
    replace h := h x1 ex1
    refine zi_istore_n dX4_measure_50 rfl (by decide) rfl ?_
    obtain ⟨x2, ex2⟩ : ∃ y : Int32, y = v4 + (1 : Int32) := ⟨_, rfl⟩
    replace h := h x2 ex2
    refine zi_iinc (v := x2) dX4_measure_51 rfl (by rw [ex2]; rfl) (by decide) rfl ?_
    refine zi_goto (tgt := 24) dX4_measure_54 (by decide) ?_
    refine zt_drop (lv' := [some (.ref 56), some (.int v1), some (.int v2), some (.int x1), some (.int x2)]) [true, true, true, true, true] rfl ?_
    exact h
theorem e_X4_measure {row : Int32} {S : zS} {L : zL} {P : zS → zL → Prop} (h : ∀ X, zU mX4_measure X S L 0 [some (.ref 56), some (.int row), none, none, none] [] (zpv P)) : zCv mX4_measure S L [.ref 56, .int row] P := zCv_of pn_X4_measure (Nat.le_of_ble_eq_true rfl) (fun X => zt_pad (j := 3) rfl (h X))
set_option maxHeartbeats 2000000 in
theorem b_X4_fewestRounds_0 {i : Int32} {X : Nat × (Nat → Int32)} {S : zS} {L : zL} {P : Int32 → zS → zL → Prop} (h : zCv mX1_begin S L [.ref 57] (fun S1 L1 => zU mX4_fewestRounds X S1 L1 9 [some (.ref 56), some (.int i), some (.int (0 : Int32))] [] (zpi P))) : zU mX4_fewestRounds X S L 0 [some (.ref 56), some (.int i), none] [] (zpi P) := by
  refine zi_aload_n dX4_fewestRounds_0 rfl rfl ?_
  refine zi_getr fl_X4_12 sk56 rfl dX4_fewestRounds_1 ?_
  refine zt_Vv (As := []) dX4_fewestRounds_4 lk_X4_86 sk57 rfl ⟨⟨by decide, by decide⟩, rfl, rfl⟩ rfl ⟨Nat.le_of_ble_eq_true rfl, rfl, rfl⟩ h (fun S1 L1 h => ?_)
  refine zi_iconst (v := 0) dX4_fewestRounds_7 (by decide) ?_
  refine zi_istore_n dX4_fewestRounds_8 rfl (by decide) rfl ?_
  refine zt_drop (lv' := [some (.ref 56), some (.int i), some (.int (0 : Int32))]) [true, true, true] rfl ?_
  exact h
set_option maxHeartbeats 2000000 in
theorem b_X4_fewestRounds_9 {v1 : Int32} {v2 : Int32} {X : Nat × (Nat → Int32)} {S : zS} {L : zL} {P : Int32 → zS → zL → Prop} (h : (((56 : Int32) ≤ v2 → P (-1 : Int32) S L) ∧ (¬ (56 : Int32) ≤ v2 → zCv mX3_afresh S L [.ref 30] (fun S1 L1 => zCv mX1_takeOutOf S1 L1 [.ref 57, .ref 40] (fun S2 L2 => zCv mX2_run S2 L2 [.ref 52, .int (23 : Int32)] (fun S3 L3 => zCi mX2_living S3 L3 [.ref 52] (fun y4 S4 L4 => ((¬ y4 = (S4 6 3) → zCi mX1_goOn S4 L4 [.ref 57, .int (S4 14 3)] (fun y5 S5 L5 => ((¬ y5 = 0 → ∀ x1 : Int32, x1 = v2 + (1 : Int32) → zU mX4_fewestRounds X S5 L5 9 [some (.ref 56), some (.int v1), some (.int x1)] [] (zpi P)) ∧ (y5 = 0 → P (-1 : Int32) S5 L5)))) ∧ (y4 = (S4 6 3) → zCi mX1_tell S4 L4 [.ref 57, .int v1] (fun y5 S5 L5 => P y5 S5 L5)))))))))) : zU mX4_fewestRounds X S L 9 [some (.ref 56), some (.int v1), some (.int v2)] [] (zpi P) := by
  refine zi_iload_n dX4_fewestRounds_9 rfl rfl ?_
  refine zi_bipush (v := 56) dX4_fewestRounds_10 (by decide) ?_
  refine zi_icmp_ge (tgt := 117) dX4_fewestRounds_12 (by decide) (fun q9 => ?_) (fun q9 => ?_)
  · replace h := h.1 q9
    refine zi_iconst (v := -1) dX4_fewestRounds_117 (by decide) ?_
    exact zt_iret dX4_fewestRounds_118 rfl h
  · replace h := h.2 q9
    refine zi_aload_n dX4_fewestRounds_15 rfl rfl ?_
    refine zi_getr fl_X4_47 sk56 rfl dX4_fewestRounds_16 ?_
    refine zt_Vv (As := []) dX4_fewestRounds_19 lk_X4_51 sk30 rfl ⟨⟨by decide, by decide⟩, rfl, rfl⟩ rfl ⟨Nat.le_of_ble_eq_true rfl, rfl, rfl⟩ h (fun S1 L1 h => ?_)
    refine zi_aload_n dX4_fewestRounds_22 rfl rfl ?_
    refine zi_getr fl_X4_12 sk56 rfl dX4_fewestRounds_23 ?_
    refine zi_aload_n dX4_fewestRounds_26 rfl rfl ?_
    refine zi_getr fl_X4_47 sk56 rfl dX4_fewestRounds_27 ?_
    refine zi_getr fl_X4_56 sk30 rfl dX4_fewestRounds_30 ?_
    refine zi_getr fl_X4_60 sk31 rfl dX4_fewestRounds_33 ?_
    refine zt_Vv (As := [.ref 40]) dX4_fewestRounds_36 lk_X4_92 sk57 rfl ⟨⟨by decide, by decide⟩, rfl, rfl⟩ rfl ⟨Nat.le_of_ble_eq_true rfl, rfl, rfl⟩ h (fun S2 L2 h => ?_)
    refine zi_aload_n dX4_fewestRounds_39 rfl rfl ?_
    refine zi_getr fl_X4_47 sk56 rfl dX4_fewestRounds_40 ?_
    refine zi_getr fl_X4_72 sk30 rfl dX4_fewestRounds_43 ?_
    refine zi_bipush (v := 23) dX4_fewestRounds_46 (by decide) ?_
    refine zt_Vv (As := [.int (23 : Int32)]) dX4_fewestRounds_48 lk_X4_76 sk52 rfl ⟨⟨by decide, by decide⟩, rfl, rfl⟩ rfl ⟨Nat.le_of_ble_eq_true rfl, rfl, rfl⟩ h (fun S3 L3 h => ?_)
    refine zi_aload_n dX4_fewestRounds_51 rfl rfl ?_
    refine zi_getr fl_X4_47 sk56 rfl dX4_fewestRounds_52 ?_
    refine zi_getr fl_X4_72 sk30 rfl dX4_fewestRounds_55 ?_
    refine zt_Vi (As := []) dX4_fewestRounds_58 lk_X4_125 sk52 rfl ⟨⟨by decide, by decide⟩, rfl, rfl⟩ rfl ⟨Nat.le_of_ble_eq_true rfl, rfl, rfl⟩ h (fun y4 S4 L4 h => ?_)
    refine zi_aload_n dX4_fewestRounds_61 rfl rfl ?_
    refine zi_getr fl_X4_47 sk56 rfl dX4_fewestRounds_62 ?_
    refine zi_getr fl_X4_103 sk30 rfl dX4_fewestRounds_65 ?_
    refine zi_getr fl_X4_113 sk5 rfl dX4_fewestRounds_68 ?_
    refine zi_geti fl_X4_106 sk6 rfl dX4_fewestRounds_71 ?_
    refine zi_icmp_ne (tgt := 86) dX4_fewestRounds_74 (by decide) (fun q9 => ?_) (fun q9 => ?_)
    · replace h := h.1 q9
      refine zi_aload_n dX4_fewestRounds_86 rfl rfl ?_
      refine zi_getr fl_X4_12 sk56 rfl dX4_fewestRounds_87 ?_
      refine zi_aload_n dX4_fewestRounds_90 rfl rfl ?_
      refine zi_getr fl_X4_47 sk56 rfl dX4_fewestRounds_91 ?_
      refine zi_getr fl_X4_103 sk30 rfl dX4_fewestRounds_94 ?_
      refine zi_getr fl_X4_60 sk5 rfl dX4_fewestRounds_97 ?_
      refine zi_geti fl_X4_106 sk14 rfl dX4_fewestRounds_100 ?_
      refine zt_Vi (As := [.int (S4 14 3)]) dX4_fewestRounds_103 lk_X4_109 sk57 rfl ⟨⟨by decide, by decide⟩, rfl, rfl⟩ rfl ⟨Nat.le_of_ble_eq_true rfl, rfl, rfl⟩ h (fun y5 S5 L5 h => ?_)
      refine zi_if_ne (tgt := 111) dX4_fewestRounds_106 (by decide) (fun q9 => ?_) (fun q9 => ?_)
      · replace h := h.1 q9
        obtain ⟨x1, ex1⟩ : ∃ y : Int32, y = v2 + (1 : Int32) := ⟨_, rfl⟩
        replace h := h x1 ex1
        refine zi_iinc (v := x1) dX4_fewestRounds_111 rfl (by rw [ex1]; rfl) (by decide) rfl ?_
        refine zi_goto (tgt := 9) dX4_fewestRounds_114 (by decide) ?_
        refine zt_drop (lv' := [some (.ref 56), some (.int v1), some (.int x1)]) [true, true, true] rfl ?_
        exact h
      · replace h := h.2 q9
        refine zi_iconst (v := -1) dX4_fewestRounds_109 (by decide) ?_
        exact zt_iret dX4_fewestRounds_110 rfl h
    · replace h := h.2 q9
      refine zi_aload_n dX4_fewestRounds_77 rfl rfl ?_
      refine zi_getr fl_X4_12 sk56 rfl dX4_fewestRounds_78 ?_
      refine zi_iload_n dX4_fewestRounds_81 rfl rfl ?_
      refine zt_Vi (As := [.int v1]) dX4_fewestRounds_82 lk_X4_99 sk57 rfl ⟨⟨by decide, by decide⟩, rfl, rfl⟩ rfl ⟨Nat.le_of_ble_eq_true rfl, rfl, rfl⟩ h (fun y5 S5 L5 h => ?_)
      exact zt_iret dX4_fewestRounds_85 rfl h
theorem e_X4_fewestRounds {i : Int32} {S : zS} {L : zL} {P : Int32 → zS → zL → Prop} (h : ∀ X, zU mX4_fewestRounds X S L 0 [some (.ref 56), some (.int i), none] [] (zpi P)) : zCi mX4_fewestRounds S L [.ref 56, .int i] P := zCi_of pn_X4_fewestRounds (Nat.le_of_ble_eq_true rfl) (fun X => zt_pad (j := 1) rfl (h X))
set_option maxHeartbeats 2000000 in
theorem b_X4_findHome_0 {p : Int32} {X : Nat × (Nat → Int32)} {S : zS} {L : zL} {P : zS → zL → Prop} (h : ((¬ (S 56 8) = p → ∀ S1 : zS, S1 = zc S 56 (upd (S 56) 8 p) → ∀ S2 : zS, S2 = zc S1 56 (upd (S1 56) 10 (-1 : Int32)) → zU mX4_findHome X S2 L 21 [some (.ref 56), some (.int p), some (.int (0 : Int32)), none] [] (zpv P)) ∧ ((S 56 8) = p → P S L))) : zU mX4_findHome X S L 0 [some (.ref 56), some (.int p), none, none] [] (zpv P) := by
  refine zi_aload_n dX4_findHome_0 rfl rfl ?_
  refine zi_geti fl_X4_38 sk56 rfl dX4_findHome_1 ?_
  refine zi_iload_n dX4_findHome_4 rfl rfl ?_
  refine zi_icmp_ne (tgt := 9) dX4_findHome_5 (by decide) (fun q9 => ?_) (fun q9 => ?_)
  · replace h := h.1 q9
    refine zi_aload_n dX4_findHome_9 rfl rfl ?_
    refine zi_iload_n dX4_findHome_10 rfl rfl ?_
    refine zi_puti fp_X4_38 sk56 rfl dX4_findHome_11 ?_
    refine zt_nmS (fun S1 eS1 => ?_)
    replace h := h S1 eS1
    refine zi_aload_n dX4_findHome_14 rfl rfl ?_
    refine zi_iconst (v := -1) dX4_findHome_15 (by decide) ?_
    refine zi_puti fp_X4_44 sk56 rfl dX4_findHome_16 ?_
    refine zt_nmS (fun S2 eS2 => ?_)
    replace h := h S2 eS2
    refine zi_iconst (v := 0) dX4_findHome_19 (by decide) ?_
    refine zi_istore_n dX4_findHome_20 rfl (by decide) rfl ?_
    refine zt_drop (lv' := [some (.ref 56), some (.int p), some (.int (0 : Int32)), none]) [true, true, true, false] rfl ?_
    exact h
  · replace h := h.2 q9
    exact zt_vret dX4_findHome_8 rfl h
set_option maxHeartbeats 2000000 in
theorem b_X4_findHome_21 {v1 : Int32} {v2 : Int32} {X : Nat × (Nat → Int32)} {S : zS} {L : zL} {P : zS → zL → Prop} (h : (((4 : Int32) ≤ v2 → P S L) ∧ (¬ (4 : Int32) ≤ v2 → zCv mX3_afresh S L [.ref 30] (fun S1 L1 => zCv mX5_setCell S1 L1 [.ref 32, .int v1, .int (1 : Int32), .int v2] (fun S2 L2 => zCv mX2_run S2 L2 [.ref 52, .int (23 : Int32)] (fun S3 L3 => zCi mX2_behind S3 L3 [.ref 52, .int (23 : Int32), .int ((33 : Int32) + v1)] (fun y4 S4 L4 => ((y4 ≤ (S4 56 10) → ∀ x1 : Int32, x1 = v2 + (1 : Int32) → zU mX4_findHome X S4 L4 21 [some (.ref 56), some (.int v1), some (.int x1), none] [] (zpv P)) ∧ (¬ y4 ≤ (S4 56 10) → ∀ S5 : zS, S5 = zc S4 56 (upd (S4 56) 10 y4) → ∀ S6 : zS, S6 = zc S5 56 (upd (S5 56) 9 v2) → ∀ x1 : Int32, x1 = v2 + (1 : Int32) → zU mX4_findHome X S6 L4 21 [some (.ref 56), some (.int v1), some (.int x1), none] [] (zpv P)))))))))) : zU mX4_findHome X S L 21 [some (.ref 56), some (.int v1), some (.int v2), none] [] (zpv P) := by
  refine zi_iload_n dX4_findHome_21 rfl rfl ?_
  refine zi_iconst (v := 4) dX4_findHome_22 (by decide) ?_
  refine zi_icmp_ge (tgt := 102) dX4_findHome_23 (by decide) (fun q9 => ?_) (fun q9 => ?_)
  · replace h := h.1 q9
    exact zt_vret dX4_findHome_102 rfl h
  · replace h := h.2 q9
    refine zi_aload_n dX4_findHome_26 rfl rfl ?_
    refine zi_getr fl_X4_47 sk56 rfl dX4_findHome_27 ?_
    refine zt_Vv (As := []) dX4_findHome_30 lk_X4_51 sk30 rfl ⟨⟨by decide, by decide⟩, rfl, rfl⟩ rfl ⟨Nat.le_of_ble_eq_true rfl, rfl, rfl⟩ h (fun S1 L1 h => ?_)
    refine zi_aload_n dX4_findHome_33 rfl rfl ?_
    refine zi_getr fl_X4_47 sk56 rfl dX4_findHome_34 ?_
    refine zi_getr fl_X4_56 sk30 rfl dX4_findHome_37 ?_
    refine zi_getr fl_X4_113 sk31 rfl dX4_findHome_40 ?_
    refine zi_iload_n dX4_findHome_43 rfl rfl ?_
    refine zi_iconst (v := 1) dX4_findHome_44 (by decide) ?_
    refine zi_iload_n dX4_findHome_45 rfl rfl ?_
    refine zt_Vv (As := [.int v1, .int (1 : Int32), .int v2]) dX4_findHome_46 lk_X4_128 sk32 rfl ⟨⟨by decide, by decide⟩, rfl, rfl⟩ rfl ⟨Nat.le_of_ble_eq_true rfl, rfl, rfl⟩ h (fun S2 L2 h => ?_)
    refine zi_aload_n dX4_findHome_49 rfl rfl ?_
    refine zi_getr fl_X4_47 sk56 rfl dX4_findHome_50 ?_
    refine zi_getr fl_X4_72 sk30 rfl dX4_findHome_53 ?_
    refine zi_bipush (v := 23) dX4_findHome_56 (by decide) ?_
    refine zt_Vv (As := [.int (23 : Int32)]) dX4_findHome_58 lk_X4_76 sk52 rfl ⟨⟨by decide, by decide⟩, rfl, rfl⟩ rfl ⟨Nat.le_of_ble_eq_true rfl, rfl, rfl⟩ h (fun S3 L3 h => ?_)
    refine zi_aload_n dX4_findHome_61 rfl rfl ?_
    refine zi_getr fl_X4_47 sk56 rfl dX4_findHome_62 ?_
    refine zi_getr fl_X4_72 sk30 rfl dX4_findHome_65 ?_
    refine zi_bipush (v := 23) dX4_findHome_68 (by decide) ?_
    refine zi_bipush (v := 33) dX4_findHome_70 (by decide) ?_
    refine zi_iload_n dX4_findHome_72 rfl rfl ?_
    refine zi_iadd dX4_findHome_73 ?_
    refine zt_Vi (As := [.int (23 : Int32), .int ((33 : Int32) + v1)]) dX4_findHome_74 lk_X4_116 sk52 rfl ⟨⟨by decide, by decide⟩, rfl, rfl⟩ rfl ⟨Nat.le_of_ble_eq_true rfl, rfl, rfl⟩ h (fun y4 S4 L4 h => ?_)
    refine zi_istore_n dX4_findHome_77 rfl (by decide) rfl ?_
    refine zi_iload_n dX4_findHome_78 rfl rfl ?_
    refine zi_aload_n dX4_findHome_79 rfl rfl ?_
    refine zi_geti fl_X4_44 sk56 rfl dX4_findHome_80 ?_
    refine zi_icmp_le (tgt := 96) dX4_findHome_83 (by decide) (fun q9 => ?_) (fun q9 => ?_)
    · replace h := h.1 q9
      obtain ⟨x1, ex1⟩ : ∃ y : Int32, y = v2 + (1 : Int32) := ⟨_, rfl⟩
      replace h := h x1 ex1
      refine zi_iinc (v := x1) dX4_findHome_96 rfl (by rw [ex1]; rfl) (by decide) rfl ?_
      refine zi_goto (tgt := 21) dX4_findHome_99 (by decide) ?_
      refine zt_drop (lv' := [some (.ref 56), some (.int v1), some (.int x1), none]) [true, true, true, false] rfl ?_
      exact h
    · replace h := h.2 q9
      refine zi_aload_n dX4_findHome_86 rfl rfl ?_
      refine zi_iload_n dX4_findHome_87 rfl rfl ?_
      refine zi_puti fp_X4_44 sk56 rfl dX4_findHome_88 ?_
      refine zt_nmS (fun S5 eS5 => ?_)
      replace h := h S5 eS5
      refine zi_aload_n dX4_findHome_91 rfl rfl ?_
      refine zi_iload_n dX4_findHome_92 rfl rfl ?_
      refine zi_puti fp_X4_41 sk56 rfl dX4_findHome_93 ?_
      refine zt_nmS (fun S6 eS6 => ?_)
      replace h := h S6 eS6
      obtain ⟨x1, ex1⟩ : ∃ y : Int32, y = v2 + (1 : Int32) := ⟨_, rfl⟩
      replace h := h x1 ex1
      refine zi_iinc (v := x1) dX4_findHome_96 rfl (by rw [ex1]; rfl) (by decide) rfl ?_
      refine zi_goto (tgt := 21) dX4_findHome_99 (by decide) ?_
      refine zt_drop (lv' := [some (.ref 56), some (.int v1), some (.int x1), none]) [true, true, true, false] rfl ?_
      exact h
theorem e_X4_findHome {p : Int32} {S : zS} {L : zL} {P : zS → zL → Prop} (h : ∀ X, zU mX4_findHome X S L 0 [some (.ref 56), some (.int p), none, none] [] (zpv P)) : zCv mX4_findHome S L [.ref 56, .int p] P := zCv_of pn_X4_findHome (Nat.le_of_ble_eq_true rfl) (fun X => zt_pad (j := 2) rfl (h X))
