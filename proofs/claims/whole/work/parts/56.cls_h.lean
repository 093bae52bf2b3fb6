set_option maxHeartbeats 2000000 in
theorem b_X0_above_0 {p : Int32} {X : Nat × (Nat → Int32)} {S : zS} {L : zL} {P : Int64 → zS → zL → Prop} (h : ((p < 0 → P (0 : Int64) S L) ∧ (¬ p < 0 → (((8 : Int32) ≤ p → P (0 : Int64) S L) ∧ (¬ (8 : Int32) ≤ p → vp_in p 8 ∧ P (L 66 p.toNatClampNeg) S L))))) : zU mX0_above X S L 0 [some (.ref 65), some (.int p)] [] (zpl P) := by
  refine zi_iload_n dX0_above_0 rfl rfl ?_
  refine zi_if_lt (tgt := 22) dX0_above_1 (by decide) (fun q9 => ?_) (fun q9 => ?_)
  · replace h := h.1 q9
    refine zi_lconst (v := 0) dX0_above_22 (by decide) ?_
    exact zt_lret dX0_above_23 rfl h
  · replace h := h.2 q9
    refine zi_iload_n dX0_above_4 rfl rfl ?_
    refine zi_aload_n dX0_above_5 rfl rfl ?_
    refine zi_getr fl_X0_9 sk65 rfl dX0_above_6 ?_
    refine zi_alen (v := 8) sk66 (by decide) dX0_above_9 ?_
    refine zi_icmp_ge (tgt := 22) dX0_above_10 (by decide) (fun q9 => ?_) (fun q9 => ?_)
    · replace h := h.1 q9
      refine zi_lconst (v := 0) dX0_above_22 (by decide) ?_
      exact zt_lret dX0_above_23 rfl h
    · replace h := h.2 q9
      refine zi_aload_n dX0_above_13 rfl rfl ?_
      refine zi_getr fl_X0_9 sk65 rfl dX0_above_14 ?_
      refine zi_iload_n dX0_above_17 rfl rfl ?_
      refine zi_lald sk66 h.1 dX0_above_18 ?_
      replace h := h.2
      refine zi_goto (tgt := 23) dX0_above_19 (by decide) ?_
      exact zt_lret dX0_above_23 rfl h
theorem e_X0_above {p : Int32} {S : zS} {L : zL} {P : Int64 → zS → zL → Prop} (h : ∀ X, zU mX0_above X S L 0 [some (.ref 65), some (.int p)] [] (zpl P)) : zCl mX0_above S L [.ref 65, .int p] P := zCl_of pn_X0_above (Nat.le_of_ble_eq_true rfl) (fun X => zt_pad (j := 0) rfl (h X))
set_option maxHeartbeats 2000000 in
theorem b_X0_below_0 {p : Int32} {X : Nat × (Nat → Int32)} {S : zS} {L : zL} {P : Int64 → zS → zL → Prop} (h : ((p < 0 → P (1 : Int64) S L) ∧ (¬ p < 0 → (((8 : Int32) ≤ p → P (1 : Int64) S L) ∧ (¬ (8 : Int32) ≤ p → vp_in p 8 ∧ P (L 67 p.toNatClampNeg) S L))))) : zU mX0_below X S L 0 [some (.ref 65), some (.int p)] [] (zpl P) := by
  refine zi_iload_n dX0_below_0 rfl rfl ?_
  refine zi_if_lt (tgt := 22) dX0_below_1 (by decide) (fun q9 => ?_) (fun q9 => ?_)
  · replace h := h.1 q9
    refine zi_lconst (v := 1) dX0_below_22 (by decide) ?_
    exact zt_lret dX0_below_23 rfl h
  · replace h := h.2 q9
    refine zi_iload_n dX0_below_4 rfl rfl ?_
    refine zi_aload_n dX0_below_5 rfl rfl ?_
    refine zi_getr fl_X0_15 sk65 rfl dX0_below_6 ?_
    refine zi_alen (v := 8) sk67 (by decide) dX0_below_9 ?_
    refine zi_icmp_ge (tgt := 22) dX0_below_10 (by decide) (fun q9 => ?_) (fun q9 => ?_)
    · replace h := h.1 q9
      refine zi_lconst (v := 1) dX0_below_22 (by decide) ?_
      exact zt_lret dX0_below_23 rfl h
    · replace h := h.2 q9
      refine zi_aload_n dX0_below_13 rfl rfl ?_
      refine zi_getr fl_X0_15 sk65 rfl dX0_below_14 ?_
      refine zi_iload_n dX0_below_17 rfl rfl ?_
      refine zi_lald sk67 h.1 dX0_below_18 ?_
      replace h := h.2
      refine zi_goto (tgt := 23) dX0_below_19 (by decide) ?_
      exact zt_lret dX0_below_23 rfl h
theorem e_X0_below {p : Int32} {S : zS} {L : zL} {P : Int64 → zS → zL → Prop} (h : ∀ X, zU mX0_below X S L 0 [some (.ref 65), some (.int p)] [] (zpl P)) : zCl mX0_below S L [.ref 65, .int p] P := zCl_of pn_X0_below (Nat.le_of_ble_eq_true rfl) (fun X => zt_pad (j := 0) rfl (h X))
set_option maxHeartbeats 2000000 in
theorem b_X0_findLiving_0 {c : Int32} {last : Int32} {X : Nat × (Nat → Int32)} {S : zS} {L : zL} {P : zS → zL → Prop} (h : ((¬ (S 65 3) = c → zU mX0_findLiving X S L 17 [some (.ref 65), some (.int c), some (.int last), none, none, none, none, none, none, none] [] (zpv P)) ∧ ((S 65 3) = c → ((¬ (S 65 4) = last → zU mX0_findLiving X S L 17 [some (.ref 65), some (.int c), some (.int last), none, none, none, none, none, none, none] [] (zpv P)) ∧ ((S 65 4) = last → P S L))))) : zU mX0_findLiving X S L 0 [some (.ref 65), some (.int c), some (.int last), none, none, none, none, none, none, none] [] (zpv P) := by
  refine zi_aload_n dX0_findLiving_0 rfl rfl ?_
  refine zi_geti fl_X0_18 sk65 rfl dX0_findLiving_1 ?_
  refine zi_iload_n dX0_findLiving_4 rfl rfl ?_
  refine zi_icmp_ne (tgt := 17) dX0_findLiving_5 (by decide) (fun q9 => ?_) (fun q9 => ?_)
  · replace h := h.1 q9
    refine zt_drop (lv' := [some (.ref 65), some (.int c), some (.int last), none, none, none, none, none, none, none]) [true, true, true, false, false, false, false, false, false, false] rfl ?_
    exact h
  · replace h := h.2 q9
    refine zi_aload_n dX0_findLiving_8 rfl rfl ?_
    refine zi_geti fl_X0_22 sk65 rfl dX0_findLiving_9 ?_
    refine zi_iload_n dX0_findLiving_12 rfl rfl ?_
    refine zi_icmp_ne (tgt := 17) dX0_findLiving_13 (by decide) (fun q9 => ?_) (fun q9 => ?_)
    · replace h := h.1 q9
      refine zt_drop (lv' := [some (.ref 65), some (.int c), some (.int last), none, none, none, none, none, none, none]) [true, true, true, false, false, false, false, false, false, false] rfl ?_
      exact h
    · replace h := h.2 q9
      exact zt_vret dX0_findLiving_16 rfl h
set_option maxHeartbeats 2000000 in
theorem b_X0_findLiving_17 {v1 : Int32} {v2 : Int32} {X : Nat × (Nat → Int32)} {S : zS} {L : zL} {P : zS → zL → Prop} (h : ∀ S1 : zS, S1 = zc S 65 (upd (S 65) 3 v1) → ∀ S2 : zS, S2 = zc S1 65 (upd (S1 65) 4 v2) → zCi mX2_monthsOf S2 L [.ref 14] (fun y1 S3 L1 => ∀ x1 : Int32, x1 = (y1 &&& (((2 : Int32) <<< (v2 &&& 31)) - (1 : Int32))) → zCi mJ6_bitCount_0f7a4 S3 L1 [.int x1] (fun y2 S4 L2 => zCv mJ7_fill_d0a16 S4 L2 [.ref 66, .long (0 : Int64)] (fun S5 L3 => zCl mX0_power S5 L3 [.int (16 : Int32), .int y2] (fun y4 S6 L4 => zCv mJ7_fill_d0a16 S6 L4 [.ref 67, .long y4] (fun S7 L5 => zU mX0_findLiving X S7 L5 81 [some (.ref 65), some (.int v1), some (.int v2), some (.int x1), some (.int y2), some (.int (0 : Int32)), some (.int (0 : Int32)), none, none, none] [] (zpv P))))))) : zU mX0_findLiving X S L 17 [some (.ref 65), some (.int v1), some (.int v2), none, none, none, none, none, none, none] [] (zpv P) := by
  refine zi_aload_n dX0_findLiving_17 rfl rfl ?_
  refine zi_iload_n dX0_findLiving_18 rfl rfl ?_
  refine zi_puti fp_X0_18 sk65 rfl dX0_findLiving_19 ?_
  refine zt_nmS (fun S1 eS1 => ?_)
  replace h := h S1 eS1
  refine zi_aload_n dX0_findLiving_22 rfl rfl ?_
  refine zi_iload_n dX0_findLiving_23 rfl rfl ?_
  refine zi_puti fp_X0_22 sk65 rfl dX0_findLiving_24 ?_
  refine zt_nmS (fun S2 eS2 => ?_)
  replace h := h S2 eS2
  refine zi_aload_n dX0_findLiving_27 rfl rfl ?_
  refine zi_getr fl_X0_28 sk65 rfl dX0_findLiving_28 ?_
  refine zi_getr fl_X0_32 sk30 rfl dX0_findLiving_31 ?_
  refine zi_getr fl_X0_38 sk5 rfl dX0_findLiving_34 ?_
  refine zt_Si (As := [.ref 14]) dX0_findLiving_37 lk_X0_44 ⟨⟨by decide, by decide⟩, rfl, rfl⟩ rfl ⟨Nat.le_of_ble_eq_true rfl, rfl, rfl⟩ h (fun y1 S3 L1 h => ?_)
  refine zi_iconst (v := 2) dX0_findLiving_40 (by decide) ?_
  refine zi_iload_n dX0_findLiving_41 rfl rfl ?_
  refine zi_ishl dX0_findLiving_42 ?_
  refine zi_iconst (v := 1) dX0_findLiving_43 (by decide) ?_
  refine zi_isub dX0_findLiving_44 ?_
  refine zi_iand dX0_findLiving_45 ?_
  refine zt_nmi (fun x1 ex1 => ?_)
  replace h := h x1 ex1
  refine zi_istore_n dX0_findLiving_46 rfl (by decide) rfl ?_
  refine zi_iload_n dX0_findLiving_47 rfl rfl ?_
  refine zt_Si (As := [.int x1]) dX0_findLiving_48 lk_X0_50 ⟨⟨by decide, by decide⟩, rfl, rfl⟩ rfl ⟨Nat.le_of_ble_eq_true rfl, rfl, rfl⟩ h (fun y2 S4 L2 h => ?_)
  refine zi_istore dX0_findLiving_51 (by decide) rfl ?_
  refine zi_aload_n dX0_findLiving_53 rfl rfl ?_
  refine zi_getr fl_X0_9 sk65 rfl dX0_findLiving_54 ?_
  refine zi_lconst (v := 0) dX0_findLiving_57 (by decide) ?_
  refine zt_Sv (As := [.ref 66, .long (0 : Int64)]) dX0_findLiving_58 lk_X0_56 ⟨⟨by decide, by decide⟩, rfl, rfl⟩ rfl ⟨Nat.le_of_ble_eq_true rfl, rfl, rfl⟩ h (fun S5 L3 h => ?_)
  refine zi_aload_n dX0_findLiving_61 rfl rfl ?_
  refine zi_getr fl_X0_15 sk65 rfl dX0_findLiving_62 ?_
  refine zi_bipush (v := 16) dX0_findLiving_65 (by decide) ?_
  refine zi_iload dX0_findLiving_67 rfl ?_
  refine zt_Sl (As := [.int (16 : Int32), .int y2]) dX0_findLiving_69 lk_X0_62 ⟨⟨by decide, by decide⟩, rfl, rfl⟩ rfl ⟨Nat.le_of_ble_eq_true rfl, rfl, rfl⟩ h (fun y4 S6 L4 h => ?_)
  refine zt_Sv (As := [.ref 67, .long y4]) dX0_findLiving_72 lk_X0_56 ⟨⟨by decide, by decide⟩, rfl, rfl⟩ rfl ⟨Nat.le_of_ble_eq_true rfl, rfl, rfl⟩ h (fun S7 L5 h => ?_)
  refine zi_iconst (v := 0) dX0_findLiving_75 (by decide) ?_
  refine zi_istore dX0_findLiving_76 (by decide) rfl ?_
  refine zi_iconst (v := 0) dX0_findLiving_78 (by decide) ?_
  refine zi_istore dX0_findLiving_79 (by decide) rfl ?_
  refine zt_drop (lv' := [some (.ref 65), some (.int v1), some (.int v2), some (.int x1), some (.int y2), some (.int (0 : Int32)), some (.int (0 : Int32)), none, none, none]) [true, true, true, true, true, true, true, false, false, false] rfl ?_
  exact h
set_option maxHeartbeats 2000000 in
theorem b_X0_findLiving_81 {v1 : Int32} {v2 : Int32} {v3 : Int32} {v4 : Int32} {v5 : Int32} {v6 : Int32} {X : Nat × (Nat → Int32)} {S : zS} {L : zL} {P : zS → zL → Prop} (h : ((((1 : Int32) <<< (v4 &&& 31)) ≤ v6 → zU mX0_findLiving X S L 173 [some (.ref 65), none, none, none, none, none, some (.int (0 : Int32)), none, none, none] [] (zpv P)) ∧ (¬ ((1 : Int32) <<< (v4 &&& 31)) ≤ v6 → zCi mJ6_bitCount_0f7a4 S L [.int v5] (fun y1 S1 L1 => zCl mX0_power S1 L1 [.int v1, .int y1] (fun y2 S2 L2 => zCl mX0_power S2 L2 [.int ((16 : Int32) - v1), .int (v4 - y1)] (fun y3 S3 L3 => ∀ z1 : Int64, z1 = (y2 * y3) → (((lg_cmp z1 (0 : Int64)) ≤ 0 → zU mX0_findLiving X S3 L3 156 [some (.ref 65), some (.int v1), some (.int v2), some (.int v3), some (.int v4), some (.int v5), some (.int v6), none, none, none] [] (zpv P)) ∧ (¬ (lg_cmp z1 (0 : Int64)) ≤ 0 → zCv mX3_afresh S3 L3 [.ref 30] (fun S4 L4 => zCv mX0_supposeFrosts S4 L4 [.ref 65, .int v5, .int v2] (fun S5 L5 => zCv mX2_run S5 L5 [.ref 52, .int v2] (fun S6 L6 => zCv mX0_addToLiving S6 L6 [.ref 65, .long z1] (fun S7 L7 => zU mX0_findLiving X S7 L7 156 [some (.ref 65), some (.int v1), some (.int v2), some (.int v3), some (.int v4), some (.int v5), some (.int v6), none, none, none] [] (zpv P))))))))))))) : zU mX0_findLiving X S L 81 [some (.ref 65), some (.int v1), some (.int v2), some (.int v3), some (.int v4), some (.int v5), some (.int v6), none, none, none] [] (zpv P) := by
  refine zi_iload dX0_findLiving_81 rfl ?_
  refine zi_iconst (v := 1) dX0_findLiving_83 (by decide) ?_
  refine zi_iload dX0_findLiving_84 rfl ?_
  refine zi_ishl dX0_findLiving_86 ?_
  refine zi_icmp_ge (tgt := 170) dX0_findLiving_87 (by decide) (fun q9 => ?_) (fun q9 => ?_)
  · replace h := h.1 q9
    refine zi_iconst (v := 0) dX0_findLiving_170 (by decide) ?_
    refine zi_istore dX0_findLiving_171 (by decide) rfl ?_
    refine zt_drop (lv' := [some (.ref 65), none, none, none, none, none, some (.int (0 : Int32)), none, none, none]) [true, false, false, false, false, false, true, false, false, false] rfl ?_
    exact h
  · replace h := h.2 q9
    refine zi_iload dX0_findLiving_90 rfl ?_
    refine zt_Si (As := [.int v5]) dX0_findLiving_92 lk_X0_50 ⟨⟨by decide, by decide⟩, rfl, rfl⟩ rfl ⟨Nat.le_of_ble_eq_true rfl, rfl, rfl⟩ h (fun y1 S1 L1 h => ?_)
    refine zi_istore dX0_findLiving_95 (by decide) rfl ?_
    refine zi_iload_n dX0_findLiving_97 rfl rfl ?_
    refine zi_iload dX0_findLiving_98 rfl ?_
    refine zt_Sl (As := [.int v1, .int y1]) dX0_findLiving_100 lk_X0_62 ⟨⟨by decide, by decide⟩, rfl, rfl⟩ rfl ⟨Nat.le_of_ble_eq_true rfl, rfl, rfl⟩ h (fun y2 S2 L2 h => ?_)
    refine zi_bipush (v := 16) dX0_findLiving_103 (by decide) ?_
    refine zi_iload_n dX0_findLiving_105 rfl rfl ?_
    refine zi_isub dX0_findLiving_106 ?_
    refine zi_iload dX0_findLiving_107 rfl ?_
    refine zi_iload dX0_findLiving_109 rfl ?_
    refine zi_isub dX0_findLiving_111 ?_
    refine zt_Sl (As := [.int ((16 : Int32) - v1), .int (v4 - y1)]) dX0_findLiving_112 lk_X0_62 ⟨⟨by decide, by decide⟩, rfl, rfl⟩ rfl ⟨Nat.le_of_ble_eq_true rfl, rfl, rfl⟩ h (fun y3 S3 L3 h => ?_)
    refine zi_lmul dX0_findLiving_115 ?_
    refine zt_nml (fun z1 ez1 => ?_)
    replace h := h z1 ez1
    refine zi_lstore dX0_findLiving_116 (by decide) rfl ?_
    refine zi_lload dX0_findLiving_118 rfl ?_
    refine zi_lconst (v := 0) dX0_findLiving_120 (by decide) ?_
    refine zi_lcmp dX0_findLiving_121 ?_
    refine zi_if_le (tgt := 156) dX0_findLiving_122 (by decide) (fun q9 => ?_) (fun q9 => ?_)
    · replace h := h.1 q9
      refine zt_drop (lv' := [some (.ref 65), some (.int v1), some (.int v2), some (.int v3), some (.int v4), some (.int v5), some (.int v6), none, none, none]) [true, true, true, true, true, true, true, false, false, false] rfl ?_
      exact h
    · replace h := h.2 q9
      refine zi_aload_n dX0_findLiving_125 rfl rfl ?_
      refine zi_getr fl_X0_28 sk65 rfl dX0_findLiving_126 ?_
      refine zt_Vv (As := []) dX0_findLiving_129 lk_X0_66 sk30 rfl ⟨⟨by decide, by decide⟩, rfl, rfl⟩ rfl ⟨Nat.le_of_ble_eq_true rfl, rfl, rfl⟩ h (fun S4 L4 h => ?_)
      refine zi_aload_n dX0_findLiving_132 rfl rfl ?_
      refine zi_iload dX0_findLiving_133 rfl ?_
      refine zi_iload_n dX0_findLiving_135 rfl rfl ?_
      refine zt_Vv (As := [.int v5, .int v2]) dX0_findLiving_136 lk_X0_69 sk65 rfl ⟨⟨by decide, by decide⟩, rfl, rfl⟩ rfl ⟨Nat.le_of_ble_eq_true rfl, rfl, rfl⟩ h (fun S5 L5 h => ?_)
      refine zi_aload_n dX0_findLiving_139 rfl rfl ?_
      refine zi_getr fl_X0_28 sk65 rfl dX0_findLiving_140 ?_
      refine zi_getr fl_X0_73 sk30 rfl dX0_findLiving_143 ?_
      refine zi_iload_n dX0_findLiving_146 rfl rfl ?_
      refine zt_Vv (As := [.int v2]) dX0_findLiving_147 lk_X0_77 sk52 rfl ⟨⟨by decide, by decide⟩, rfl, rfl⟩ rfl ⟨Nat.le_of_ble_eq_true rfl, rfl, rfl⟩ h (fun S6 L6 h => ?_)
      refine zi_aload_n dX0_findLiving_150 rfl rfl ?_
      refine zi_lload dX0_findLiving_151 rfl ?_
      refine zt_Vv (As := [.long z1]) dX0_findLiving_153 lk_X0_81 sk65 rfl ⟨⟨by decide, by decide⟩, rfl, rfl⟩ rfl ⟨Nat.le_of_ble_eq_true rfl, rfl, rfl⟩ h (fun S7 L7 h => ?_)
      refine zt_drop (lv' := [some (.ref 65), some (.int v1), some (.int v2), some (.int v3), some (.int v4), some (.int v5), some (.int v6), none, none, none]) [true, true, true, true, true, true, true, false, false, false] rfl ?_
      exact h
set_option maxHeartbeats 2000000 in
theorem b_X0_findLiving_173 {v6 : Int32} {X : Nat × (Nat → Int32)} {S : zS} {L : zL} {P : zS → zL → Prop} (h : (((8 : Int32) ≤ v6 → P S L) ∧ (¬ (8 : Int32) ≤ v6 → zCv mX0_reduce S L [.ref 65, .int v6] (fun S1 L1 => ∀ x1 : Int32, x1 = v6 + (1 : Int32) → zU mX0_findLiving X S1 L1 173 [some (.ref 65), none, none, none, none, none, some (.int x1), none, none, none] [] (zpv P))))) : zU mX0_findLiving X S L 173 [some (.ref 65), none, none, none, none, none, some (.int v6), none, none, none] [] (zpv P) := by
  refine zi_iload dX0_findLiving_173 rfl ?_
  refine zi_bipush (v := 8) dX0_findLiving_175 (by decide) ?_
  refine zi_icmp_ge (tgt := 192) dX0_findLiving_177 (by decide) (fun q9 => ?_) (fun q9 => ?_)
  · replace h := h.1 q9
    exact zt_vret dX0_findLiving_192 rfl h
  · replace h := h.2 q9
    refine zi_aload_n dX0_findLiving_180 rfl rfl ?_
    refine zi_iload dX0_findLiving_181 rfl ?_
    refine zt_Vv (As := [.int v6]) dX0_findLiving_183 lk_X0_85 sk65 rfl ⟨⟨by decide, by decide⟩, rfl, rfl⟩ rfl ⟨Nat.le_of_ble_eq_true rfl, rfl, rfl⟩ h (fun S1 L1 h => ?_)
    obtain ⟨x1, ex1⟩ : ∃ y : Int32, y = v6 + (1 : Int32) := ⟨_, rfl⟩
    replace h := h x1 ex1
    refine zi_iinc (v := x1) dX0_findLiving_186 rfl (by rw [ex1]; rfl) (by decide) rfl ?_
    refine zi_goto (tgt := 173) dX0_findLiving_189 (by decide) ?_
    refine zt_drop (lv' := [some (.ref 65), none, none, none, none, none, some (.int x1), none, none, none]) [true, false, false, false, false, false, true, false, false, false] rfl ?_
    exact h
set_option maxHeartbeats 2000000 in
theorem b_X0_findLiving_156 {v1 : Int32} {v2 : Int32} {v3 : Int32} {v4 : Int32} {v5 : Int32} {v6 : Int32} {X : Nat × (Nat → Int32)} {S : zS} {L : zL} {P : zS → zL → Prop} (h : ∀ x1 : Int32, x1 = ((v5 - v3) &&& v3) → ∀ x2 : Int32, x2 = v6 + (1 : Int32) → zU mX0_findLiving X S L 81 [some (.ref 65), some (.int v1), some (.int v2), some (.int v3), some (.int v4), some (.int x1), some (.int x2), none, none, none] [] (zpv P)) : zU mX0_findLiving X S L 156 [some (.ref 65), some (.int v1), some (.int v2), some (.int v3), some (.int v4), some (.int v5), some (.int v6), none, none, none] [] (zpv P) := by
  refine zi_iload dX0_findLiving_156 rfl ?_
  refine zi_iload_n dX0_findLiving_158 rfl rfl ?_
  refine zi_isub dX0_findLiving_159 ?_
  refine zi_iload_n dX0_findLiving_160 rfl rfl ?_
  refine zi_iand dX0_findLiving_161 ?_
  refine zt_nmi (fun x1 ex1 => ?_)
  replace h := h x1 ex1
  refine zi_istore dX0_findLiving_162 (by decide) rfl ?_
  obtain ⟨x2, ex2⟩ : ∃ y : Int32, y = v6 + (1 : Int32) := ⟨_, rfl⟩
  replace h := h x2 ex2
  refine zi_iinc (v := x2) dX0_findLiving_164 rfl (by rw [ex2]; rfl) (by decide) rfl ?_
  refine zi_goto (tgt := 81) dX0_findLiving_167 (by decide) ?_
  refine zt_drop (lv' := [some (.ref 65), some (.int v1), some (.int v2), some (.int v3), some (.int v4), some (.int x1), some (.int x2), none, none, none]) [true, true, true, true, true, true, true, false, false, false] rfl ?_
  exact h
theorem e_X0_findLiving {c : Int32} {last : Int32} {S : zS} {L : zL} {P : zS → zL → Prop} (h : ∀ X, zU mX0_findLiving X S L 0 [some (.ref 65), some (.int c), some (.int last), none, none, none, none, none, none, none] [] (zpv P)) : zCv mX0_findLiving S L [.ref 65, .int c, .int last] P := zCv_of pn_X0_findLiving (Nat.le_of_ble_eq_true rfl) (fun X => zt_pad (j := 7) rfl (h X))
set_option maxHeartbeats 2000000 in
theorem b_X0_supposeFrosts_0 {fs : Int32} {last : Int32} {X : Nat × (Nat → Int32)} {S : zS} {L : zL} {P : zS → zL → Prop} (h : ∀ S1 : zS, S1 = zc S 48 (upd (S 48) 3 (0 : Int32)) → zU mX0_supposeFrosts X S1 L 16 [some (.ref 65), some (.int fs), some (.int last), some (.int (0 : Int32))] [] (zpv P)) : zU mX0_supposeFrosts X S L 0 [some (.ref 65), some (.int fs), some (.int last), none] [] (zpv P) := by
  refine zi_aload_n dX0_supposeFrosts_0 rfl rfl ?_
  refine zi_getr fl_X0_28 sk65 rfl dX0_supposeFrosts_1 ?_
  refine zi_getr fl_X0_88 sk30 rfl dX0_supposeFrosts_4 ?_
  refine zi_getr fl_X0_91 sk31 rfl dX0_supposeFrosts_7 ?_
  refine zi_iconst (v := 0) dX0_supposeFrosts_10 (by decide) ?_
  refine zi_puti fp_X0_94 sk48 rfl dX0_supposeFrosts_11 ?_
  refine zt_nmS (fun S1 eS1 => ?_)
  replace h := h S1 eS1
  refine zi_iconst (v := 0) dX0_supposeFrosts_14 (by decide) ?_
  refine zi_istore_n dX0_supposeFrosts_15 rfl (by decide) rfl ?_
  refine zt_drop (lv' := [some (.ref 65), some (.int fs), some (.int last), some (.int (0 : Int32))]) [true, true, true, true] rfl ?_
  exact h
set_option maxHeartbeats 2000000 in
theorem b_X0_supposeFrosts_16 {v1 : Int32} {v2 : Int32} {v3 : Int32} {X : Nat × (Nat → Int32)} {S : zS} {L : zL} {P : zS → zL → Prop} (h : ((v2 < v3 → P S L) ∧ (¬ v2 < v3 → ((((v1 >>> (v3 &&& 31)) &&& (1 : Int32)) = 0 → ∀ x1 : Int32, x1 = v3 + (1 : Int32) → zU mX0_supposeFrosts X S L 16 [some (.ref 65), some (.int v1), some (.int v2), some (.int x1)] [] (zpv P)) ∧ (¬ ((v1 >>> (v3 &&& 31)) &&& (1 : Int32)) = 0 → zCi mX5_append S L [.ref 48, .int v3, .int (0 : Int32), .int (0 : Int32)] (fun y1 S1 L1 => ∀ x1 : Int32, x1 = v3 + (1 : Int32) → zU mX0_supposeFrosts X S1 L1 16 [some (.ref 65), some (.int v1), some (.int v2), some (.int x1)] [] (zpv P))))))) : zU mX0_supposeFrosts X S L 16 [some (.ref 65), some (.int v1), some (.int v2), some (.int v3)] [] (zpv P) := by
  refine zi_iload_n dX0_supposeFrosts_16 rfl rfl ?_
  refine zi_iload_n dX0_supposeFrosts_17 rfl rfl ?_
  refine zi_icmp_gt (tgt := 52) dX0_supposeFrosts_18 (by decide) (fun q9 => ?_) (fun q9 => ?_)
  · replace h := h.1 q9
    exact zt_vret dX0_supposeFrosts_52 rfl h
  · replace h := h.2 q9
    refine zi_iload_n dX0_supposeFrosts_21 rfl rfl ?_
    refine zi_iload_n dX0_supposeFrosts_22 rfl rfl ?_
    refine zi_ishr dX0_supposeFrosts_23 ?_
    refine zi_iconst (v := 1) dX0_supposeFrosts_24 (by decide) ?_
    refine zi_iand dX0_supposeFrosts_25 ?_
    refine zi_if_eq (tgt := 46) dX0_supposeFrosts_26 (by decide) (fun q9 => ?_) (fun q9 => ?_)
    · replace h := h.1 q9
      obtain ⟨x1, ex1⟩ : ∃ y : Int32, y = v3 + (1 : Int32) := ⟨_, rfl⟩
      replace h := h x1 ex1
      refine zi_iinc (v := x1) dX0_supposeFrosts_46 rfl (by rw [ex1]; rfl) (by decide) rfl ?_
      refine zi_goto (tgt := 16) dX0_supposeFrosts_49 (by decide) ?_
      refine zt_drop (lv' := [some (.ref 65), some (.int v1), some (.int v2), some (.int x1)]) [true, true, true, true] rfl ?_
      exact h
    · replace h := h.2 q9
      refine zi_aload_n dX0_supposeFrosts_29 rfl rfl ?_
      refine zi_getr fl_X0_28 sk65 rfl dX0_supposeFrosts_30 ?_
      refine zi_getr fl_X0_88 sk30 rfl dX0_supposeFrosts_33 ?_
      refine zi_getr fl_X0_91 sk31 rfl dX0_supposeFrosts_36 ?_
      refine zi_iload_n dX0_supposeFrosts_39 rfl rfl ?_
      refine zi_iconst (v := 0) dX0_supposeFrosts_40 (by decide) ?_
      refine zi_iconst (v := 0) dX0_supposeFrosts_41 (by decide) ?_
      refine zt_Vi (As := [.int v3, .int (0 : Int32), .int (0 : Int32)]) dX0_supposeFrosts_42 lk_X0_99 sk48 rfl ⟨⟨by decide, by decide⟩, rfl, rfl⟩ rfl ⟨Nat.le_of_ble_eq_true rfl, rfl, rfl⟩ h (fun y1 S1 L1 h => ?_)
      refine zi_pop dX0_supposeFrosts_45 rfl ?_
      obtain ⟨x1, ex1⟩ : ∃ y : Int32, y = v3 + (1 : Int32) := ⟨_, rfl⟩
      replace h := h x1 ex1
      refine zi_iinc (v := x1) dX0_supposeFrosts_46 rfl (by rw [ex1]; rfl) (by decide) rfl ?_
      refine zi_goto (tgt := 16) dX0_supposeFrosts_49 (by decide) ?_
      refine zt_drop (lv' := [some (.ref 65), some (.int v1), some (.int v2), some (.int x1)]) [true, true, true, true] rfl ?_
      exact h
theorem e_X0_supposeFrosts {fs : Int32} {last : Int32} {S : zS} {L : zL} {P : zS → zL → Prop} (h : ∀ X, zU mX0_supposeFrosts X S L 0 [some (.ref 65), some (.int fs), some (.int last), none] [] (zpv P)) : zCv mX0_supposeFrosts S L [.ref 65, .int fs, .int last] P := zCv_of pn_X0_supposeFrosts (Nat.le_of_ble_eq_true rfl) (fun X => zt_pad (j := 1) rfl (h X))
set_option maxHeartbeats 2000000 in
theorem b_X0_addToLiving_0 {w : Int64} {X : Nat × (Nat → Int32)} {S : zS} {L : zL} {P : zS → zL → Prop} (h : zU mX0_addToLiving X S L 2 [some (.ref 65), some (.long w), none, some (.int (0 : Int32))] [] (zpv P)) : zU mX0_addToLiving X S L 0 [some (.ref 65), some (.long w), none, none] [] (zpv P) := by
  refine zi_iconst (v := 0) dX0_addToLiving_0 (by decide) ?_
  refine zi_istore_n dX0_addToLiving_1 rfl (by decide) rfl ?_
  refine zt_drop (lv' := [some (.ref 65), some (.long w), none, some (.int (0 : Int32))]) [true, true, false, true] rfl ?_
  exact h
set_option maxHeartbeats 2000000 in
theorem b_X0_addToLiving_2 {v1 : Int64} {v3 : Int32} {X : Nat × (Nat → Int32)} {S : zS} {L : zL} {P : zS → zL → Prop} (h : (((8 : Int32) ≤ v3 → P S L) ∧ (¬ (8 : Int32) ≤ v3 → vp_in v3 8 ∧ zCi mX2_deathOf S L [.ref 52, .int v3] (fun y1 S1 L1 => ((¬ y1 = (-1 : Int32) → vp_in v3 8 ∧ ∀ L2 : zL, L2 = zc L1 66 (vp_updL (L1 66) v3.toNatClampNeg ((L 66 v3.toNatClampNeg) + (0 : Int64))) → ∀ x1 : Int32, x1 = v3 + (1 : Int32) → zU mX0_addToLiving X S1 L2 2 [some (.ref 65), some (.long v1), none, some (.int x1)] [] (zpv P)) ∧ (y1 = (-1 : Int32) → vp_in v3 8 ∧ ∀ L2 : zL, L2 = zc L1 66 (vp_updL (L1 66) v3.toNatClampNeg ((L 66 v3.toNatClampNeg) + v1)) → ∀ x1 : Int32, x1 = v3 + (1 : Int32) → zU mX0_addToLiving X S1 L2 2 [some (.ref 65), some (.long v1), none, some (.int x1)] [] (zpv P))))))) : zU mX0_addToLiving X S L 2 [some (.ref 65), some (.long v1), none, some (.int v3)] [] (zpv P) := by
  refine zi_iload_n dX0_addToLiving_2 rfl rfl ?_
  refine zi_bipush (v := 8) dX0_addToLiving_3 (by decide) ?_
  refine zi_icmp_ge (tgt := 43) dX0_addToLiving_5 (by decide) (fun q9 => ?_) (fun q9 => ?_)
  · replace h := h.1 q9
    exact zt_vret dX0_addToLiving_43 rfl h
  · replace h := h.2 q9
    refine zi_aload_n dX0_addToLiving_8 rfl rfl ?_
    refine zi_getr fl_X0_9 sk65 rfl dX0_addToLiving_9 ?_
    refine zi_iload_n dX0_addToLiving_12 rfl rfl ?_
    refine zi_dup2_11 dX0_addToLiving_13 rfl rfl ?_
    refine zi_lald sk66 h.1 dX0_addToLiving_14 ?_
    replace h := h.2
    refine zi_aload_n dX0_addToLiving_15 rfl rfl ?_
    refine zi_getr fl_X0_28 sk65 rfl dX0_addToLiving_16 ?_
    refine zi_getr fl_X0_73 sk30 rfl dX0_addToLiving_19 ?_
    refine zi_iload_n dX0_addToLiving_22 rfl rfl ?_
    refine zt_Vi (As := [.int v3]) dX0_addToLiving_23 lk_X0_103 sk52 rfl ⟨⟨by decide, by decide⟩, rfl, rfl⟩ rfl ⟨Nat.le_of_ble_eq_true rfl, rfl, rfl⟩ h (fun y1 S1 L1 h => ?_)
    refine zi_iconst (v := -1) dX0_addToLiving_26 (by decide) ?_
    refine zi_icmp_ne (tgt := 34) dX0_addToLiving_27 (by decide) (fun q9 => ?_) (fun q9 => ?_)
    · replace h := h.1 q9
      refine zi_lconst (v := 0) dX0_addToLiving_34 (by decide) ?_
      refine zi_ladd dX0_addToLiving_35 ?_
      refine zi_last sk66 h.1 dX0_addToLiving_36 ?_
      replace h := h.2
      refine zt_nmL (fun L2 eL2 => ?_)
      replace h := h L2 eL2
      obtain ⟨x1, ex1⟩ : ∃ y : Int32, y = v3 + (1 : Int32) := ⟨_, rfl⟩
      replace h := h x1 ex1
      refine zi_iinc (v := x1) dX0_addToLiving_37 rfl (by rw [ex1]; rfl) (by decide) rfl ?_
      refine zi_goto (tgt := 2) dX0_addToLiving_40 (by decide) ?_
      refine zt_drop (lv' := [some (.ref 65), some (.long v1), none, some (.int x1)]) [true, true, false, true] rfl ?_
      exact h
    · replace h := h.2 q9
      refine zi_lload_n dX0_addToLiving_30 rfl rfl ?_
      refine zi_goto (tgt := 35) dX0_addToLiving_31 (by decide) ?_
      refine zi_ladd dX0_addToLiving_35 ?_
      refine zi_last sk66 h.1 dX0_addToLiving_36 ?_
      replace h := h.2
      refine zt_nmL (fun L2 eL2 => ?_)
      replace h := h L2 eL2
      obtain ⟨x1, ex1⟩ : ∃ y : Int32, y = v3 + (1 : Int32) := ⟨_, rfl⟩
      replace h := h x1 ex1
      refine zi_iinc (v := x1) dX0_addToLiving_37 rfl (by rw [ex1]; rfl) (by decide) rfl ?_
      refine zi_goto (tgt := 2) dX0_addToLiving_40 (by decide) ?_
      refine zt_drop (lv' := [some (.ref 65), some (.long v1), none, some (.int x1)]) [true, true, false, true] rfl ?_
      exact h
theorem e_X0_addToLiving {w : Int64} {S : zS} {L : zL} {P : zS → zL → Prop} (h : ∀ X, zU mX0_addToLiving X S L 0 [some (.ref 65), some (.long w), none, none] [] (zpv P)) : zCv mX0_addToLiving S L [.ref 65, .long w] P := zCv_of pn_X0_addToLiving (Nat.le_of_ble_eq_true rfl) (fun X => zt_pad (j := 1) rfl (h X))
set_option maxHeartbeats 2000000 in
theorem b_X0_reduce_0 {p : Int32} {X : Nat × (Nat → Int32)} {S : zS} {L : zL} {P : zS → zL → Prop} (h : zU mX0_reduce X S L 2 [some (.ref 65), some (.int p), some (.int (0 : Int32))] [] (zpv P)) : zU mX0_reduce X S L 0 [some (.ref 65), some (.int p), none] [] (zpv P) := by
  refine zi_iconst (v := 0) dX0_reduce_0 (by decide) ?_
  refine zi_istore_n dX0_reduce_1 rfl (by decide) rfl ?_
  refine zt_drop (lv' := [some (.ref 65), some (.int p), some (.int (0 : Int32))]) [true, true, true] rfl ?_
  exact h
set_option maxHeartbeats 2000000 in
theorem b_X0_reduce_2 {v1 : Int32} {v2 : Int32} {X : Nat × (Nat → Int32)} {S : zS} {L : zL} {P : zS → zL → Prop} (h : (((64 : Int32) ≤ v2 → P S L) ∧ (¬ (64 : Int32) ≤ v2 → vp_in v1 8 ∧ (((lg_cmp (L 67 v1.toNatClampNeg) (1 : Int64)) ≤ 0 → P S L) ∧ (¬ (lg_cmp (L 67 v1.toNatClampNeg) (1 : Int64)) ≤ 0 → vp_in v1 8 ∧ ((¬ (lg_cmp ((L 66 v1.toNatClampNeg) &&& (1 : Int64)) (0 : Int64)) = 0 → P S L) ∧ ((lg_cmp ((L 66 v1.toNatClampNeg) &&& (1 : Int64)) (0 : Int64)) = 0 → vp_in v1 8 ∧ vp_in v1 8 ∧ ∀ L1 : zL, L1 = zc L 66 (vp_updL (L 66) v1.toNatClampNeg ((L 66 v1.toNatClampNeg) >>> ((1 : Int32).toInt64 &&& 63))) → vp_in v1 8 ∧ vp_in v1 8 ∧ ∀ L2 : zL, L2 = zc L1 67 (vp_updL (L1 67) v1.toNatClampNeg ((L1 67 v1.toNatClampNeg) >>> ((1 : Int32).toInt64 &&& 63))) → ∀ x1 : Int32, x1 = v2 + (1 : Int32) → zU mX0_reduce X S L2 2 [some (.ref 65), some (.int v1), some (.int x1)] [] (zpv P)))))))) : zU mX0_reduce X S L 2 [some (.ref 65), some (.int v1), some (.int v2)] [] (zpv P) := by
  refine zi_iload_n dX0_reduce_2 rfl rfl ?_
  refine zi_bipush (v := 64) dX0_reduce_3 (by decide) ?_
  refine zi_icmp_ge (tgt := 58) dX0_reduce_5 (by decide) (fun q9 => ?_) (fun q9 => ?_)
  · replace h := h.1 q9
    exact zt_vret dX0_reduce_58 rfl h
  · replace h := h.2 q9
    refine zi_aload_n dX0_reduce_8 rfl rfl ?_
    refine zi_getr fl_X0_15 sk65 rfl dX0_reduce_9 ?_
    refine zi_iload_n dX0_reduce_12 rfl rfl ?_
    refine zi_lald sk67 h.1 dX0_reduce_13 ?_
    replace h := h.2
    refine zi_lconst (v := 1) dX0_reduce_14 (by decide) ?_
    refine zi_lcmp dX0_reduce_15 ?_
    refine zi_if_le (tgt := 58) dX0_reduce_16 (by decide) (fun q9 => ?_) (fun q9 => ?_)
    · replace h := h.1 q9
      exact zt_vret dX0_reduce_58 rfl h
    · replace h := h.2 q9
      refine zi_aload_n dX0_reduce_19 rfl rfl ?_
      refine zi_getr fl_X0_9 sk65 rfl dX0_reduce_20 ?_
      refine zi_iload_n dX0_reduce_23 rfl rfl ?_
      refine zi_lald sk66 h.1 dX0_reduce_24 ?_
      replace h := h.2
      refine zi_lconst (v := 1) dX0_reduce_25 (by decide) ?_
      refine zi_land dX0_reduce_26 ?_
      refine zi_lconst (v := 0) dX0_reduce_27 (by decide) ?_
      refine zi_lcmp dX0_reduce_28 ?_
      refine zi_if_ne (tgt := 58) dX0_reduce_29 (by decide) (fun q9 => ?_) (fun q9 => ?_)
      · replace h := h.1 q9
        exact zt_vret dX0_reduce_58 rfl h
      · replace h := h.2 q9
        refine zi_aload_n dX0_reduce_32 rfl rfl ?_
        refine zi_getr fl_X0_9 sk65 rfl dX0_reduce_33 ?_
        refine zi_iload_n dX0_reduce_36 rfl rfl ?_
        refine zi_dup2_11 dX0_reduce_37 rfl rfl ?_
        refine zi_lald sk66 h.1 dX0_reduce_38 ?_
        replace h := h.2
        refine zi_iconst (v := 1) dX0_reduce_39 (by decide) ?_
        refine zi_lshr dX0_reduce_40 ?_
        refine zi_last sk66 h.1 dX0_reduce_41 ?_
        replace h := h.2
        refine zt_nmL (fun L1 eL1 => ?_)
        replace h := h L1 eL1
        refine zi_aload_n dX0_reduce_42 rfl rfl ?_
        refine zi_getr fl_X0_15 sk65 rfl dX0_reduce_43 ?_
        refine zi_iload_n dX0_reduce_46 rfl rfl ?_
        refine zi_dup2_11 dX0_reduce_47 rfl rfl ?_
        refine zi_lald sk67 h.1 dX0_reduce_48 ?_
        replace h := h.2
        refine zi_iconst (v := 1) dX0_reduce_49 (by decide) ?_
        refine zi_lshr dX0_reduce_50 ?_
        refine zi_last sk67 h.1 dX0_reduce_51 ?_
        replace h := h.2
        refine zt_nmL (fun L2 eL2 => ?_)
        replace h := h L2 eL2
        obtain ⟨x1, ex1⟩ : ∃ y : Int32, y = v2 + (1 : Int32) := ⟨_, rfl⟩
        replace h := h x1 ex1
        refine zi_iinc (v := x1) dX0_reduce_52 rfl (by rw [ex1]; rfl) (by decide) rfl ?_
        refine zi_goto (tgt := 2) dX0_reduce_55 (by decide) ?_
        refine zt_drop (lv' := [some (.ref 65), some (.int v1), some (.int x1)]) [true, true, true] rfl ?_
        exact h
theorem e_X0_reduce {p : Int32} {S : zS} {L : zL} {P : zS → zL → Prop} (h : ∀ X, zU mX0_reduce X S L 0 [some (.ref 65), some (.int p), none] [] (zpv P)) : zCv mX0_reduce S L [.ref 65, .int p] P := zCv_of pn_X0_reduce (Nat.le_of_ble_eq_true rfl) (fun X => zt_pad (j := 1) rfl (h X))
set_option maxHeartbeats 2000000 in
theorem b_X0_power_0 {base : Int32} {times : Int32} {X : Nat × (Nat → Int32)} {S : zS} {L : zL} {P : Int64 → zS → zL → Prop} (h : zU mX0_power X S L 5 [some (.int base), some (.int times), some (.long (1 : Int64)), none, some (.int (0 : Int32))] [] (zpl P)) : zU mX0_power X S L 0 [some (.int base), some (.int times), none, none, none] [] (zpl P) := by
  refine zi_lconst (v := 1) dX0_power_0 (by decide) ?_
  refine zi_lstore_n dX0_power_1 rfl (by decide) rfl ?_
  refine zi_iconst (v := 0) dX0_power_2 (by decide) ?_
  refine zi_istore dX0_power_3 (by decide) rfl ?_
  refine zt_drop (lv' := [some (.int base), some (.int times), some (.long (1 : Int64)), none, some (.int (0 : Int32))]) [true, true, true, false, true] rfl ?_
  exact h
set_option maxHeartbeats 2000000 in
theorem b_X0_power_5 {v0 : Int32} {v1 : Int32} {v2 : Int64} {v4 : Int32} {X : Nat × (Nat → Int32)} {S : zS} {L : zL} {P : Int64 → zS → zL → Prop} (h : ((v1 ≤ v4 → P v2 S L) ∧ (¬ v1 ≤ v4 → ∀ z1 : Int64, z1 = (v2 * v0.toInt64) → ∀ x1 : Int32, x1 = v4 + (1 : Int32) → zU mX0_power X S L 5 [some (.int v0), some (.int v1), some (.long z1), none, some (.int x1)] [] (zpl P)))) : zU mX0_power X S L 5 [some (.int v0), some (.int v1), some (.long v2), none, some (.int v4)] [] (zpl P) := by
  refine zi_iload dX0_power_5 rfl ?_
  refine zi_iload_n dX0_power_7 rfl rfl ?_
  refine zi_icmp_ge (tgt := 22) dX0_power_8 (by decide) (fun q9 => ?_) (fun q9 => ?_)
  · replace h := h.1 q9
    refine zi_lload_n dX0_power_22 rfl rfl ?_
    exact zt_lret dX0_power_23 rfl h
  · replace h := h.2 q9
    refine zi_lload_n dX0_power_11 rfl rfl ?_
    refine zi_iload_n dX0_power_12 rfl rfl ?_
    refine zi_i2l dX0_power_13 ?_
    refine zi_lmul dX0_power_14 ?_
    refine zt_nml (fun z1 ez1 => ?_)
    replace h := h z1 ez1
    refine zi_lstore_n dX0_power_15 rfl (by decide) rfl ?_
    obtain ⟨x1, ex1⟩ : ∃ y : Int32, y = v4 + (1 : Int32) := ⟨_, rfl⟩
    replace h := h x1 ex1
    refine zi_iinc (v := x1) dX0_power_16 rfl (by rw [ex1]; rfl) (by decide) rfl ?_
    refine zi_goto (tgt := 5) dX0_power_19 (by decide) ?_
    refine zt_drop (lv' := [some (.int v0), some (.int v1), some (.long z1), none, some (.int x1)]) [true, true, true, false, true] rfl ?_
    exact h
theorem e_X0_power {base : Int32} {times : Int32} {S : zS} {L : zL} {P : Int64 → zS → zL → Prop} (h : ∀ X, zU mX0_power X S L 0 [some (.int base), some (.int times), none, none, none] [] (zpl P)) : zCl mX0_power S L [.int base, .int times] P := zCl_of pn_X0_power (Nat.le_of_ble_eq_true rfl) (fun X => zt_pad (j := 3) rfl (h X))
set_option maxHeartbeats 2000000 in
theorem b_X0_runYears_0 {seed : Int32} {n : Int32} {X : Nat × (Nat → Int32)} {S : zS} {L : zL} {P : zS → zL → Prop} (h : zCv mX3_afresh S L [.ref 30] (fun S1 L1 => ∀ S2 : zS, S2 = zc S1 36 (upd (S1 36) 3 (0 : Int32)) → ∀ S3 : zS, S3 = zc S2 65 (upd (S2 65) 5 seed) → ∀ x1 : Int32, x1 = (S3 32 3) → zU mX0_runYears X S3 L1 43 [some (.ref 65), none, some (.int n), some (.int x1), some (.int (0 : Int32)), none, none, none] [] (zpv P))) : zU mX0_runYears X S L 0 [some (.ref 65), some (.int seed), some (.int n), none, none, none, none, none] [] (zpv P) := by
  refine zi_aload_n dX0_runYears_0 rfl rfl ?_
  refine zi_getr fl_X0_28 sk65 rfl dX0_runYears_1 ?_
  refine zt_Vv (As := []) dX0_runYears_4 lk_X0_66 sk30 rfl ⟨⟨by decide, by decide⟩, rfl, rfl⟩ rfl ⟨Nat.le_of_ble_eq_true rfl, rfl, rfl⟩ h (fun S1 L1 h => ?_)
  refine zi_aload_n dX0_runYears_7 rfl rfl ?_
  refine zi_getr fl_X0_28 sk65 rfl dX0_runYears_8 ?_
  refine zi_getr fl_X0_88 sk30 rfl dX0_runYears_11 ?_
  refine zi_getr fl_X0_106 sk31 rfl dX0_runYears_14 ?_
  refine zi_iconst (v := 0) dX0_runYears_17 (by decide) ?_
  refine zi_puti fp_X0_94 sk36 rfl dX0_runYears_18 ?_
  refine zt_nmS (fun S2 eS2 => ?_)
  replace h := h S2 eS2
  refine zi_aload_n dX0_runYears_21 rfl rfl ?_
  refine zi_iload_n dX0_runYears_22 rfl rfl ?_
  refine zi_puti fp_X0_25 sk65 rfl dX0_runYears_23 ?_
  refine zt_nmS (fun S3 eS3 => ?_)
  replace h := h S3 eS3
  refine zi_aload_n dX0_runYears_26 rfl rfl ?_
  refine zi_getr fl_X0_28 sk65 rfl dX0_runYears_27 ?_
  refine zi_getr fl_X0_88 sk30 rfl dX0_runYears_30 ?_
  refine zi_getr fl_X0_109 sk31 rfl dX0_runYears_33 ?_
  refine zi_geti fl_X0_94 sk32 rfl dX0_runYears_36 ?_
  refine zt_nmi (fun x1 ex1 => ?_)
  replace h := h x1 ex1
  refine zi_istore_n dX0_runYears_39 rfl (by decide) rfl ?_
  refine zi_iconst (v := 0) dX0_runYears_40 (by decide) ?_
  refine zi_istore dX0_runYears_41 (by decide) rfl ?_
  refine zt_drop (lv' := [some (.ref 65), none, some (.int n), some (.int x1), some (.int (0 : Int32)), none, none, none]) [true, false, true, true, true, false, false, false] rfl ?_
  exact h
set_option maxHeartbeats 2000000 in
theorem b_X0_runYears_43 {v2 : Int32} {v3 : Int32} {v4 : Int32} {X : Nat × (Nat → Int32)} {S : zS} {L : zL} {P : zS → zL → Prop} (h : ((v2 ≤ v4 → zCv mX2_run S L [.ref 52, .int (23 : Int32)] (fun S1 L1 => P S1 L1)) ∧ (¬ v2 ≤ v4 → ((v3 ≤ 0 → zCv mX2_run S L [.ref 52, .int (23 : Int32)] (fun S1 L1 => P S1 L1)) ∧ (¬ v3 ≤ 0 → zCi mX0_lot S L [.ref 65, .int (24 : Int32)] (fun y1 S1 L1 => zCi mX0_lot S1 L1 [.ref 65, .int v3] (fun y2 S2 L2 => zCi mX0_lot S2 L2 [.ref 65, .int (4 : Int32)] (fun y3 S3 L3 => zCi mX5_append S3 L3 [.ref 36, .int y1, .int y2, .int y3] (fun y4 S4 L4 => ∀ x1 : Int32, x1 = v4 + (1 : Int32) → zU mX0_runYears X S4 L4 43 [some (.ref 65), none, some (.int v2), some (.int v3), some (.int x1), none, none, none] [] (zpv P)))))))))) : zU mX0_runYears X S L 43 [some (.ref 65), none, some (.int v2), some (.int v3), some (.int v4), none, none, none] [] (zpv P) := by
  refine zi_iload dX0_runYears_43 rfl ?_
  refine zi_iload_n dX0_runYears_45 rfl rfl ?_
  refine zi_icmp_ge (tgt := 101) dX0_runYears_46 (by decide) (fun q9 => ?_) (fun q9 => ?_)
  · replace h := h.1 q9
    refine zi_aload_n dX0_runYears_101 rfl rfl ?_
    refine zi_getr fl_X0_28 sk65 rfl dX0_runYears_102 ?_
    refine zi_getr fl_X0_73 sk30 rfl dX0_runYears_105 ?_
    refine zi_bipush (v := 23) dX0_runYears_108 (by decide) ?_
    refine zt_Vv (As := [.int (23 : Int32)]) dX0_runYears_110 lk_X0_77 sk52 rfl ⟨⟨by decide, by decide⟩, rfl, rfl⟩ rfl ⟨Nat.le_of_ble_eq_true rfl, rfl, rfl⟩ h (fun S1 L1 h => ?_)
    exact zt_vret dX0_runYears_113 rfl h
  · replace h := h.2 q9
    refine zi_iload_n dX0_runYears_49 rfl rfl ?_
    refine zi_if_le (tgt := 101) dX0_runYears_50 (by decide) (fun q9 => ?_) (fun q9 => ?_)
    · replace h := h.1 q9
      refine zi_aload_n dX0_runYears_101 rfl rfl ?_
      refine zi_getr fl_X0_28 sk65 rfl dX0_runYears_102 ?_
      refine zi_getr fl_X0_73 sk30 rfl dX0_runYears_105 ?_
      refine zi_bipush (v := 23) dX0_runYears_108 (by decide) ?_
      refine zt_Vv (As := [.int (23 : Int32)]) dX0_runYears_110 lk_X0_77 sk52 rfl ⟨⟨by decide, by decide⟩, rfl, rfl⟩ rfl ⟨Nat.le_of_ble_eq_true rfl, rfl, rfl⟩ h (fun S1 L1 h => ?_)
      exact zt_vret dX0_runYears_113 rfl h
    · replace h := h.2 q9
      refine zi_aload_n dX0_runYears_53 rfl rfl ?_
      refine zi_bipush (v := 24) dX0_runYears_54 (by decide) ?_
      refine zt_Vi (As := [.int (24 : Int32)]) dX0_runYears_56 lk_X0_112 sk65 rfl ⟨⟨by decide, by decide⟩, rfl, rfl⟩ rfl ⟨Nat.le_of_ble_eq_true rfl, rfl, rfl⟩ h (fun y1 S1 L1 h => ?_)
      refine zi_istore dX0_runYears_59 (by decide) rfl ?_
      refine zi_aload_n dX0_runYears_61 rfl rfl ?_
      refine zi_iload_n dX0_runYears_62 rfl rfl ?_
      refine zt_Vi (As := [.int v3]) dX0_runYears_63 lk_X0_112 sk65 rfl ⟨⟨by decide, by decide⟩, rfl, rfl⟩ rfl ⟨Nat.le_of_ble_eq_true rfl, rfl, rfl⟩ h (fun y2 S2 L2 h => ?_)
      refine zi_istore dX0_runYears_66 (by decide) rfl ?_
      refine zi_aload_n dX0_runYears_68 rfl rfl ?_
      refine zi_iconst (v := 4) dX0_runYears_69 (by decide) ?_
      refine zt_Vi (As := [.int (4 : Int32)]) dX0_runYears_70 lk_X0_112 sk65 rfl ⟨⟨by decide, by decide⟩, rfl, rfl⟩ rfl ⟨Nat.le_of_ble_eq_true rfl, rfl, rfl⟩ h (fun y3 S3 L3 h => ?_)
      refine zi_istore dX0_runYears_73 (by decide) rfl ?_
      refine zi_aload_n dX0_runYears_75 rfl rfl ?_
      refine zi_getr fl_X0_28 sk65 rfl dX0_runYears_76 ?_
      refine zi_getr fl_X0_88 sk30 rfl dX0_runYears_79 ?_
      refine zi_getr fl_X0_106 sk31 rfl dX0_runYears_82 ?_
      refine zi_iload dX0_runYears_85 rfl ?_
      refine zi_iload dX0_runYears_87 rfl ?_
      refine zi_iload dX0_runYears_89 rfl ?_
      refine zt_Vi (As := [.int y1, .int y2, .int y3]) dX0_runYears_91 lk_X0_99 sk36 rfl ⟨⟨by decide, by decide⟩, rfl, rfl⟩ rfl ⟨Nat.le_of_ble_eq_true rfl, rfl, rfl⟩ h (fun y4 S4 L4 h => ?_)
      refine zi_pop dX0_runYears_94 rfl ?_
      obtain ⟨x1, ex1⟩ : ∃ y : Int32, y = v4 + (1 : Int32) := ⟨_, rfl⟩
      replace h := h x1 ex1
      refine zi_iinc (v := x1) dX0_runYears_95 rfl (by rw [ex1]; rfl) (by decide) rfl ?_
      refine zi_goto (tgt := 43) dX0_runYears_98 (by decide) ?_
      refine zt_drop (lv' := [some (.ref 65), none, some (.int v2), some (.int v3), some (.int x1), none, none, none]) [true, false, true, true, true, false, false, false] rfl ?_
      exact h
theorem e_X0_runYears {seed : Int32} {n : Int32} {S : zS} {L : zL} {P : zS → zL → Prop} (h : ∀ X, zU mX0_runYears X S L 0 [some (.ref 65), some (.int seed), some (.int n), none, none, none, none, none] [] (zpv P)) : zCv mX0_runYears S L [.ref 65, .int seed, .int n] P := zCv_of pn_X0_runYears (Nat.le_of_ble_eq_true rfl) (fun X => zt_pad (j := 5) rfl (h X))
set_option maxHeartbeats 2000000 in
theorem b_X0_lot_0 {m : Int32} {X : Nat × (Nat → Int32)} {S : zS} {L : zL} {P : Int32 → zS → zL → Prop} (h : ∀ S1 : zS, S1 = zc S 65 (upd (S 65) 5 (((1103515245 : Int32) * (S 65 5)) + (12345 : Int32))) → ((m ≤ 0 → P (0 : Int32) S1 L) ∧ (¬ m ≤ 0 → ¬ m = 0 ∧ P (((S1 65 5).toUInt32 >>> ((16 : Int32).toUInt32 &&& Int32.toUInt32 31)).toInt32 - ((S1 65 5).toUInt32 >>> ((16 : Int32).toUInt32 &&& Int32.toUInt32 31)).toInt32 / m * m) S1 L))) : zU mX0_lot X S L 0 [some (.ref 65), some (.int m)] [] (zpi P) := by
  refine zi_aload_n dX0_lot_0 rfl rfl ?_
  refine zi_ldc (v := 1103515245) dX0_lot_1 (zme 4 183 (by decide +kernel) rfl) ?_
  refine zi_aload_n dX0_lot_3 rfl rfl ?_
  refine zi_geti fl_X0_25 sk65 rfl dX0_lot_4 ?_
  refine zi_imul dX0_lot_7 ?_
  refine zi_sipush (v := 12345) dX0_lot_8 (by decide) ?_
  refine zi_iadd dX0_lot_11 ?_
  refine zi_puti fp_X0_25 sk65 rfl dX0_lot_12 ?_
  refine zt_nmS (fun S1 eS1 => ?_)
  replace h := h S1 eS1
  refine zi_iload_n dX0_lot_15 rfl rfl ?_
  refine zi_if_le (tgt := 31) dX0_lot_16 (by decide) (fun q9 => ?_) (fun q9 => ?_)
  · replace h := h.1 q9
    refine zi_iconst (v := 0) dX0_lot_31 (by decide) ?_
    exact zt_iret dX0_lot_32 rfl h
  · replace h := h.2 q9
    refine zi_aload_n dX0_lot_19 rfl rfl ?_
    refine zi_geti fl_X0_25 sk65 rfl dX0_lot_20 ?_
    refine zi_bipush (v := 16) dX0_lot_23 (by decide) ?_
    refine zi_iushr dX0_lot_25 ?_
    refine zi_iload_n dX0_lot_26 rfl rfl ?_
    refine zi_irem dX0_lot_27 h.1 ?_
    replace h := h.2
    refine zi_goto (tgt := 32) dX0_lot_28 (by decide) ?_
    exact zt_iret dX0_lot_32 rfl h
theorem e_X0_lot {m : Int32} {S : zS} {L : zL} {P : Int32 → zS → zL → Prop} (h : ∀ X, zU mX0_lot X S L 0 [some (.ref 65), some (.int m)] [] (zpi P)) : zCi mX0_lot S L [.ref 65, .int m] P := zCi_of pn_X0_lot (Nat.le_of_ble_eq_true rfl) (fun X => zt_pad (j := 0) rfl (h X))
set_option maxHeartbeats 2000000 in
theorem b_J6_bitCount_0f7a4_0 {x : Int32} {X : Nat × (Nat → Int32)} {S : zS} {L : zL} {P : Int32 → zS → zL → Prop} (h : ∀ x1 : Int32, x1 = (x - ((x.toUInt32 >>> ((1 : Int32).toUInt32 &&& Int32.toUInt32 31)).toInt32 &&& (1431655765 : Int32))) → ∀ x2 : Int32, x2 = ((x1 &&& (858993459 : Int32)) + ((x1.toUInt32 >>> ((2 : Int32).toUInt32 &&& Int32.toUInt32 31)).toInt32 &&& (858993459 : Int32))) → ∀ x3 : Int32, x3 = ((x2 + (x2.toUInt32 >>> ((4 : Int32).toUInt32 &&& Int32.toUInt32 31)).toInt32) &&& (252645135 : Int32)) → ∀ x4 : Int32, x4 = (x3 + (x3.toUInt32 >>> ((8 : Int32).toUInt32 &&& Int32.toUInt32 31)).toInt32) → ∀ x5 : Int32, x5 = (x4 + (x4.toUInt32 >>> ((16 : Int32).toUInt32 &&& Int32.toUInt32 31)).toInt32) → P (x5 &&& (63 : Int32)) S L) : zU mJ6_bitCount_0f7a4 X S L 0 [some (.int x)] [] (zpi P) := by
  refine zi_iload_n dJ6_bitCount_0f7a4_0 rfl rfl ?_
  refine zi_iload_n dJ6_bitCount_0f7a4_1 rfl rfl ?_
  refine zi_iconst (v := 1) dJ6_bitCount_0f7a4_2 (by decide) ?_
  refine zi_iushr dJ6_bitCount_0f7a4_3 ?_
  refine zi_ldcw (v := 1431655765) dJ6_bitCount_0f7a4_4 (zme 4 138 (by decide +kernel) rfl) ?_
  refine zi_iand dJ6_bitCount_0f7a4_7 ?_
  refine zi_isub dJ6_bitCount_0f7a4_8 ?_
  refine zt_nmi (fun x1 ex1 => ?_)
  replace h := h x1 ex1
  refine zi_istore_n dJ6_bitCount_0f7a4_9 rfl (by decide) rfl ?_
  refine zi_iload_n dJ6_bitCount_0f7a4_10 rfl rfl ?_
  refine zi_ldcw (v := 858993459) dJ6_bitCount_0f7a4_11 (zme 4 139 (by decide +kernel) rfl) ?_
  refine zi_iand dJ6_bitCount_0f7a4_14 ?_
  refine zi_iload_n dJ6_bitCount_0f7a4_15 rfl rfl ?_
  refine zi_iconst (v := 2) dJ6_bitCount_0f7a4_16 (by decide) ?_
  refine zi_iushr dJ6_bitCount_0f7a4_17 ?_
  refine zi_ldcw (v := 858993459) dJ6_bitCount_0f7a4_18 (zme 4 139 (by decide +kernel) rfl) ?_
  refine zi_iand dJ6_bitCount_0f7a4_21 ?_
  refine zi_iadd dJ6_bitCount_0f7a4_22 ?_
  refine zt_nmi (fun x2 ex2 => ?_)
  replace h := h x2 ex2
  refine zi_istore_n dJ6_bitCount_0f7a4_23 rfl (by decide) rfl ?_
  refine zi_iload_n dJ6_bitCount_0f7a4_24 rfl rfl ?_
  refine zi_iload_n dJ6_bitCount_0f7a4_25 rfl rfl ?_
  refine zi_iconst (v := 4) dJ6_bitCount_0f7a4_26 (by decide) ?_
  refine zi_iushr dJ6_bitCount_0f7a4_27 ?_
  refine zi_iadd dJ6_bitCount_0f7a4_28 ?_
  refine zi_ldcw (v := 252645135) dJ6_bitCount_0f7a4_29 (zme 4 140 (by decide +kernel) rfl) ?_
  refine zi_iand dJ6_bitCount_0f7a4_32 ?_
  refine zt_nmi (fun x3 ex3 => ?_)
  replace h := h x3 ex3
  refine zi_istore_n dJ6_bitCount_0f7a4_33 rfl (by decide) rfl ?_
  refine zi_iload_n dJ6_bitCount_0f7a4_34 rfl rfl ?_
  refine zi_iload_n dJ6_bitCount_0f7a4_35 rfl rfl ?_
  refine zi_bipush (v := 8) dJ6_bitCount_0f7a4_36 (by decide) ?_
  refine zi_iushr dJ6_bitCount_0f7a4_38 ?_
  refine zi_iadd dJ6_bitCount_0f7a4_39 ?_
  refine zt_nmi (fun x4 ex4 => ?_)
  replace h := h x4 ex4
  refine zi_istore_n dJ6_bitCount_0f7a4_40 rfl (by decide) rfl ?_
  refine zi_iload_n dJ6_bitCount_0f7a4_41 rfl rfl ?_
  refine zi_iload_n dJ6_bitCount_0f7a4_42 rfl rfl ?_
  refine zi_bipush (v := 16) dJ6_bitCount_0f7a4_43 (by decide) ?_
  refine zi_iushr dJ6_bitCount_0f7a4_45 ?_
  refine zi_iadd dJ6_bitCount_0f7a4_46 ?_
  refine zt_nmi (fun x5 ex5 => ?_)
  replace h := h x5 ex5
  refine zi_istore_n dJ6_bitCount_0f7a4_47 rfl (by decide) rfl ?_
  refine zi_iload_n dJ6_bitCount_0f7a4_48 rfl rfl ?_
  refine zi_bipush (v := 63) dJ6_bitCount_0f7a4_49 (by decide) ?_
  refine zi_iand dJ6_bitCount_0f7a4_51 ?_
  exact zt_iret dJ6_bitCount_0f7a4_52 rfl h
theorem e_J6_bitCount_0f7a4 {x : Int32} {S : zS} {L : zL} {P : Int32 → zS → zL → Prop} (h : ∀ X, zU mJ6_bitCount_0f7a4 X S L 0 [some (.int x)] [] (zpi P)) : zCi mJ6_bitCount_0f7a4 S L [.int x] P := zCi_of pn_J6_bitCount_0f7a4 (Nat.le_of_ble_eq_true rfl) (fun X => zt_pad (j := 0) rfl (h X))
set_option maxHeartbeats 2000000 in
theorem b_J7_fill_d0a16_0 {r n : Nat} {x : Int64} (hr : SK[r]? = some (.inl (1, n))) {X : Nat × (Nat → Int32)} {S : zS} {L : zL} {P : zS → zL → Prop} (h : ∀ x1 : Int32, x1 = (nI n) → zU mJ7_fill_d0a16 X S L 6 [some (.ref r), some (.long x), none, some (.int (0 : Int32)), some (.int x1)] [] (zpv P)) : zU mJ7_fill_d0a16 X S L 0 [some (.ref r), some (.long x), none, none, none] [] (zpv P) := by
  refine zi_iconst (v := 0) dJ7_fill_d0a16_0 (by decide) ?_
  refine zi_istore_n dJ7_fill_d0a16_1 rfl (by decide) rfl ?_
  refine zi_aload_n dJ7_fill_d0a16_2 rfl rfl ?_
  refine zi_alen (v := nI n) hr rfl dJ7_fill_d0a16_3 ?_
  refine zt_nmi (fun x1 ex1 => ?_)
  replace h := h x1 ex1
  refine zi_istore dJ7_fill_d0a16_4 (by decide) rfl ?_
  refine zt_drop (lv' := [some (.ref r), some (.long x), none, some (.int (0 : Int32)), some (.int x1)]) [true, true, false, true, true] rfl ?_
  exact h
set_option maxHeartbeats 2000000 in
theorem b_J7_fill_d0a16_6 {r n : Nat} {v1 : Int64} {v3 : Int32} {v4 : Int32} (hr : SK[r]? = some (.inl (1, n))) {X : Nat × (Nat → Int32)} {S : zS} {L : zL} {P : zS → zL → Prop} (h : ((v4 ≤ v3 → P S L) ∧ (¬ v4 ≤ v3 → vp_in v3 n ∧ ∀ L1 : zL, L1 = zc L r (vp_updL (L r) v3.toNatClampNeg v1) → ∀ x1 : Int32, x1 = v3 + (1 : Int32) → zU mJ7_fill_d0a16 X S L1 6 [some (.ref r), some (.long v1), none, some (.int x1), some (.int v4)] [] (zpv P)))) : zU mJ7_fill_d0a16 X S L 6 [some (.ref r), some (.long v1), none, some (.int v3), some (.int v4)] [] (zpv P) := by
  refine zi_iload_n dJ7_fill_d0a16_6 rfl rfl ?_
  refine zi_iload dJ7_fill_d0a16_7 rfl ?_
  refine zi_icmp_ge (tgt := 22) dJ7_fill_d0a16_9 (by decide) (fun q9 => ?_) (fun q9 => ?_)
  · replace h := h.1 q9
    exact zt_vret dJ7_fill_d0a16_22 rfl h
  · replace h := h.2 q9
    refine zi_aload_n dJ7_fill_d0a16_12 rfl rfl ?_
    refine zi_iload_n dJ7_fill_d0a16_13 rfl rfl ?_
    refine zi_lload_n dJ7_fill_d0a16_14 rfl rfl ?_
    refine zi_last hr h.1 dJ7_fill_d0a16_15 ?_
    replace h := h.2
    refine zt_nmL (fun L1 eL1 => ?_)
    replace h := h L1 eL1
    obtain ⟨x1, ex1⟩ : ∃ y : Int32, y = v3 + (1 : Int32) := ⟨_, rfl⟩
    replace h := h x1 ex1
    refine zi_iinc (v := x1) dJ7_fill_d0a16_16 rfl (by rw [ex1]; rfl) (by decide) rfl ?_
    refine zi_goto (tgt := 6) dJ7_fill_d0a16_19 (by decide) ?_
    refine zt_drop (lv' := [some (.ref r), some (.long v1), none, some (.int x1), some (.int v4)]) [true, true, false, true, true] rfl ?_
    exact h
theorem e_J7_fill_d0a16 {r : Nat} {x : Int64} {S : zS} {L : zL} {P : zS → zL → Prop} (h : ∀ X, zU mJ7_fill_d0a16 X S L 0 [some (.ref r), some (.long x), none, none, none] [] (zpv P)) : zCv mJ7_fill_d0a16 S L [.ref r, .long x] P := zCv_of pn_J7_fill_d0a16 (Nat.le_of_ble_eq_true rfl) (fun X => zt_pad (j := 2) rfl (h X))
