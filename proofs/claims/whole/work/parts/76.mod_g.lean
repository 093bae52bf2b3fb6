set_option maxHeartbeats 2000000 in
theorem b_X11_monthDigest_0 {before : Int64} {m : Int32} {p : Int32} {X : Nat × (Nat → Int32)} {S : zS} {L : zL} {P : Int64 → zS → zL → Prop} (h : zU mX11_monthDigest X S L 6 [some (.ref 72), none, none, some (.int m), some (.int p), some (.long before), none, some (.int (0 : Int32))] [] (zpl P)) : zU mX11_monthDigest X S L 0 [some (.ref 72), some (.long before), none, some (.int m), some (.int p), none, none, none] [] (zpl P) := by
  refine zi_lload_n dX11_monthDigest_0 rfl rfl ?_
  refine zi_lstore dX11_monthDigest_1 (by decide) rfl ?_
  refine zi_iconst (v := 0) dX11_monthDigest_3 (by decide) ?_
  refine zi_istore dX11_monthDigest_4 (by decide) rfl ?_
  refine zt_drop (lv' := [some (.ref 72), none, none, some (.int m), some (.int p), some (.long before), none, some (.int (0 : Int32))]) [true, false, false, true, true, true, false, true] rfl ?_
  exact h
set_option maxHeartbeats 2000000 in
theorem b_X11_monthDigest_6 {v3 : Int32} {v4 : Int32} {v5 : Int64} {v7 : Int32} {X : Nat × (Nat → Int32)} {S : zS} {L : zL} {P : Int64 → zS → zL → Prop} (h : (((3 : Int32) ≤ v7 → P v5 S L) ∧ (¬ (3 : Int32) ≤ v7 → zCi mX11_woolOf S L [.ref 72, .int v3, .int v4, .int v7] (fun y1 S1 L1 => ∀ z1 : Int64, z1 = (((31 : Int64) * v5) + y1.toInt64) → ∀ x1 : Int32, x1 = v7 + (1 : Int32) → zU mX11_monthDigest X S1 L1 6 [some (.ref 72), none, none, some (.int v3), some (.int v4), some (.long z1), none, some (.int x1)] [] (zpl P))))) : zU mX11_monthDigest X S L 6 [some (.ref 72), none, none, some (.int v3), some (.int v4), some (.long v5), none, some (.int v7)] [] (zpl P) := by
  refine zi_iload dX11_monthDigest_6 rfl ?_
  refine zi_iconst (v := 3) dX11_monthDigest_8 (by decide) ?_
  refine zi_icmp_ge (tgt := 37) dX11_monthDigest_9 (by decide) (fun q9 => ?_) (fun q9 => ?_)
  · replace h := h.1 q9
    refine zi_lload dX11_monthDigest_37 rfl ?_
    exact zt_lret dX11_monthDigest_39 rfl h
  · replace h := h.2 q9
    refine zi_ldc2 (v := 31) dX11_monthDigest_12 (zme 7 100 (by decide +kernel) rfl) ?_
    refine zi_lload dX11_monthDigest_15 rfl ?_
    refine zi_lmul dX11_monthDigest_17 ?_
    refine zi_aload_n dX11_monthDigest_18 rfl rfl ?_
    refine zi_iload_n dX11_monthDigest_19 rfl rfl ?_
    refine zi_iload dX11_monthDigest_20 rfl ?_
    refine zi_iload dX11_monthDigest_22 rfl ?_
    refine zt_Vi (As := [.int v3, .int v4, .int v7]) dX11_monthDigest_24 lk_X11_275 sk72 rfl ⟨⟨by decide, by decide⟩, rfl, rfl⟩ rfl ⟨Nat.le_of_ble_eq_true rfl, rfl, rfl⟩ h (fun y1 S1 L1 h => ?_)
    refine zi_i2l dX11_monthDigest_27 ?_
    refine zi_ladd dX11_monthDigest_28 ?_
    refine zt_nml (fun z1 ez1 => ?_)
    replace h := h z1 ez1
    refine zi_lstore dX11_monthDigest_29 (by decide) rfl ?_
    obtain ⟨x1, ex1⟩ : ∃ y : Int32, y = v7 + (1 : Int32) := ⟨_, rfl⟩
    replace h := h x1 ex1
    refine zi_iinc (v := x1) dX11_monthDigest_31 rfl (by rw [ex1]; rfl) (by decide) rfl ?_
    refine zi_goto (tgt := 6) dX11_monthDigest_34 (by decide) ?_
    refine zt_drop (lv' := [some (.ref 72), none, none, some (.int v3), some (.int v4), some (.long z1), none, some (.int x1)]) [true, false, false, true, true, true, false, true] rfl ?_
    exact h
theorem e_X11_monthDigest {before : Int64} {m : Int32} {p : Int32} {S : zS} {L : zL} {P : Int64 → zS → zL → Prop} (h : ∀ X, zU mX11_monthDigest X S L 0 [some (.ref 72), some (.long before), none, some (.int m), some (.int p), none, none, none] [] (zpl P)) : zCl mX11_monthDigest S L [.ref 72, .long before, .int m, .int p] P := zCl_of pn_X11_monthDigest (Nat.le_of_ble_eq_true rfl) (fun X => zt_pad (j := 3) rfl (h X))
set_option maxHeartbeats 2000000 in
theorem b_X11_personDigest_0 {before : Int64} {p : Int32} {X : Nat × (Nat → Int32)} {S : zS} {L : zL} {P : Int64 → zS → zL → Prop} (h : zU mX11_personDigest X S L 6 [some (.ref 72), none, none, some (.int p), some (.long before), none, some (.int (0 : Int32))] [] (zpl P)) : zU mX11_personDigest X S L 0 [some (.ref 72), some (.long before), none, some (.int p), none, none, none] [] (zpl P) := by
  refine zi_lload_n dX11_personDigest_0 rfl rfl ?_
  refine zi_lstore dX11_personDigest_1 (by decide) rfl ?_
  refine zi_iconst (v := 0) dX11_personDigest_3 (by decide) ?_
  refine zi_istore dX11_personDigest_4 (by decide) rfl ?_
  refine zt_drop (lv' := [some (.ref 72), none, none, some (.int p), some (.long before), none, some (.int (0 : Int32))]) [true, false, false, true, true, false, true] rfl ?_
  exact h
set_option maxHeartbeats 2000000 in
theorem b_X11_personDigest_6 {v3 : Int32} {v4 : Int64} {v6 : Int32} {X : Nat × (Nat → Int32)} {S : zS} {L : zL} {P : Int64 → zS → zL → Prop} (h : (((3 : Int32) ≤ v6 → zCl mX11_monthDigest S L [.ref 72, .long v4, .int (0 : Int32), .int v3] (fun y1 S1 L1 => zCl mX11_monthDigest S1 L1 [.ref 72, .long y1, .int (5 : Int32), .int v3] (fun y2 S2 L2 => zCl mX11_monthDigest S2 L2 [.ref 72, .long y2, .int (11 : Int32), .int v3] (fun y3 S3 L3 => zCl mX11_monthDigest S3 L3 [.ref 72, .long y3, .int (23 : Int32), .int v3] (fun y4 S4 L4 => zU mX11_personDigest X S4 L4 77 [some (.ref 72), none, none, some (.int v3), some (.long y4), none, none] [] (zpl P)))))) ∧ (¬ (3 : Int32) ≤ v6 → zCi mX11_personOf S L [.ref 72, .int v3, .int v6] (fun y1 S1 L1 => ∀ z1 : Int64, z1 = (((31 : Int64) * v4) + y1.toInt64) → ∀ x1 : Int32, x1 = v6 + (1 : Int32) → zU mX11_personDigest X S1 L1 6 [some (.ref 72), none, none, some (.int v3), some (.long z1), none, some (.int x1)] [] (zpl P))))) : zU mX11_personDigest X S L 6 [some (.ref 72), none, none, some (.int v3), some (.long v4), none, some (.int v6)] [] (zpl P) := by
  refine zi_iload dX11_personDigest_6 rfl ?_
  refine zi_iconst (v := 3) dX11_personDigest_8 (by decide) ?_
  refine zi_icmp_ge (tgt := 35) dX11_personDigest_9 (by decide) (fun q9 => ?_) (fun q9 => ?_)
  · replace h := h.1 q9
    refine zi_aload_n dX11_personDigest_35 rfl rfl ?_
    refine zi_lload dX11_personDigest_36 rfl ?_
    refine zi_iconst (v := 0) dX11_personDigest_38 (by decide) ?_
    refine zi_iload_n dX11_personDigest_39 rfl rfl ?_
    refine zt_Vl (As := [.long v4, .int (0 : Int32), .int v3]) dX11_personDigest_40 lk_X11_371 sk72 rfl ⟨⟨by decide, by decide⟩, rfl, rfl⟩ rfl ⟨Nat.le_of_ble_eq_true rfl, rfl, rfl⟩ h (fun y1 S1 L1 h => ?_)
    refine zi_lstore dX11_personDigest_43 (by decide) rfl ?_
    refine zi_aload_n dX11_personDigest_45 rfl rfl ?_
    refine zi_lload dX11_personDigest_46 rfl ?_
    refine zi_iconst (v := 5) dX11_personDigest_48 (by decide) ?_
    refine zi_iload_n dX11_personDigest_49 rfl rfl ?_
    refine zt_Vl (As := [.long y1, .int (5 : Int32), .int v3]) dX11_personDigest_50 lk_X11_371 sk72 rfl ⟨⟨by decide, by decide⟩, rfl, rfl⟩ rfl ⟨Nat.le_of_ble_eq_true rfl, rfl, rfl⟩ h (fun y2 S2 L2 h => ?_)
    refine zi_lstore dX11_personDigest_53 (by decide) rfl ?_
    refine zi_aload_n dX11_personDigest_55 rfl rfl ?_
    refine zi_lload dX11_personDigest_56 rfl ?_
    refine zi_bipush (v := 11) dX11_personDigest_58 (by decide) ?_
    refine zi_iload_n dX11_personDigest_60 rfl rfl ?_
    refine zt_Vl (As := [.long y2, .int (11 : Int32), .int v3]) dX11_personDigest_61 lk_X11_371 sk72 rfl ⟨⟨by decide, by decide⟩, rfl, rfl⟩ rfl ⟨Nat.le_of_ble_eq_true rfl, rfl, rfl⟩ h (fun y3 S3 L3 h => ?_)
    refine zi_lstore dX11_personDigest_64 (by decide) rfl ?_
    refine zi_aload_n dX11_personDigest_66 rfl rfl ?_
    refine zi_lload dX11_personDigest_67 rfl ?_
    refine zi_bipush (v := 23) dX11_personDigest_69 (by decide) ?_
    refine zi_iload_n dX11_personDigest_71 rfl rfl ?_
    refine zt_Vl (As := [.long y3, .int (23 : Int32), .int v3]) dX11_personDigest_72 lk_X11_371 sk72 rfl ⟨⟨by decide, by decide⟩, rfl, rfl⟩ rfl ⟨Nat.le_of_ble_eq_true rfl, rfl, rfl⟩ h (fun y4 S4 L4 h => ?_)
    refine zi_lstore dX11_personDigest_75 (by decide) rfl ?_
    refine zt_drop (lv' := [some (.ref 72), none, none, some (.int v3), some (.long y4), none, none]) [true, false, false, true, true, false, false] rfl ?_
    exact h
  · replace h := h.2 q9
    refine zi_ldc2 (v := 31) dX11_personDigest_12 (zme 7 100 (by decide +kernel) rfl) ?_
    refine zi_lload dX11_personDigest_15 rfl ?_
    refine zi_lmul dX11_personDigest_17 ?_
    refine zi_aload_n dX11_personDigest_18 rfl rfl ?_
    refine zi_iload_n dX11_personDigest_19 rfl rfl ?_
    refine zi_iload dX11_personDigest_20 rfl ?_
    refine zt_Vi (As := [.int v3, .int v6]) dX11_personDigest_22 lk_X11_177 sk72 rfl ⟨⟨by decide, by decide⟩, rfl, rfl⟩ rfl ⟨Nat.le_of_ble_eq_true rfl, rfl, rfl⟩ h (fun y1 S1 L1 h => ?_)
    refine zi_i2l dX11_personDigest_25 ?_
    refine zi_ladd dX11_personDigest_26 ?_
    refine zt_nml (fun z1 ez1 => ?_)
    replace h := h z1 ez1
    refine zi_lstore dX11_personDigest_27 (by decide) rfl ?_
    obtain ⟨x1, ex1⟩ : ∃ y : Int32, y = v6 + (1 : Int32) := ⟨_, rfl⟩
    replace h := h x1 ex1
    refine zi_iinc (v := x1) dX11_personDigest_29 rfl (by rw [ex1]; rfl) (by decide) rfl ?_
    refine zi_goto (tgt := 6) dX11_personDigest_32 (by decide) ?_
    refine zt_drop (lv' := [some (.ref 72), none, none, some (.int v3), some (.long z1), none, some (.int x1)]) [true, false, false, true, true, false, true] rfl ?_
    exact h
set_option maxHeartbeats 2000000 in
theorem b_X11_personDigest_77 {v3 : Int32} {v4 : Int64} {X : Nat × (Nat → Int32)} {S : zS} {L : zL} {P : Int64 → zS → zL → Prop} (h : zCi mX11_diesOf S L [.ref 72, .int v3] (fun y1 S1 L1 => ∀ z1 : Int64, z1 = (((31 : Int64) * v4) + y1.toInt64) → zCi mX11_lightBy S1 L1 [.ref 72, .int v3, .int (9 : Int32)] (fun y2 S2 L2 => zU mX11_personDigest X S2 L2 101 [some (.ref 72), none, none, some (.int v3), some (.long z1), none, some (.int y2)] [] (zpl P)))) : zU mX11_personDigest X S L 77 [some (.ref 72), none, none, some (.int v3), some (.long v4), none, none] [] (zpl P) := by
  refine zi_ldc2 (v := 31) dX11_personDigest_77 (zme 7 100 (by decide +kernel) rfl) ?_
  refine zi_lload dX11_personDigest_80 rfl ?_
  refine zi_lmul dX11_personDigest_82 ?_
  refine zi_aload_n dX11_personDigest_83 rfl rfl ?_
  refine zi_iload_n dX11_personDigest_84 rfl rfl ?_
  refine zt_Vi (As := [.int v3]) dX11_personDigest_85 lk_X11_278 sk72 rfl ⟨⟨by decide, by decide⟩, rfl, rfl⟩ rfl ⟨Nat.le_of_ble_eq_true rfl, rfl, rfl⟩ h (fun y1 S1 L1 h => ?_)
  refine zi_i2l dX11_personDigest_88 ?_
  refine zi_ladd dX11_personDigest_89 ?_
  refine zt_nml (fun z1 ez1 => ?_)
  replace h := h z1 ez1
  refine zi_lstore dX11_personDigest_90 (by decide) rfl ?_
  refine zi_aload_n dX11_personDigest_92 rfl rfl ?_
  refine zi_iload_n dX11_personDigest_93 rfl rfl ?_
  refine zi_bipush (v := 9) dX11_personDigest_94 (by decide) ?_
  refine zt_Vi (As := [.int v3, .int (9 : Int32)]) dX11_personDigest_96 lk_X11_305 sk72 rfl ⟨⟨by decide, by decide⟩, rfl, rfl⟩ rfl ⟨Nat.le_of_ble_eq_true rfl, rfl, rfl⟩ h (fun y2 S2 L2 h => ?_)
  refine zi_istore dX11_personDigest_99 (by decide) rfl ?_
  refine zt_drop (lv' := [some (.ref 72), none, none, some (.int v3), some (.long z1), none, some (.int y2)]) [true, false, false, true, true, false, true] rfl ?_
  exact h
set_option maxHeartbeats 2000000 in
theorem b_X11_personDigest_101 {v3 : Int32} {v4 : Int64} {v6 : Int32} {X : Nat × (Nat → Int32)} {S : zS} {L : zL} {P : Int64 → zS → zL → Prop} (h : ∀ z1 : Int64, z1 = (((31 : Int64) * v4) + v6.toInt64) → zCi mX11_ofRow S L [.ref 72, .int v6, .int (0 : Int32)] (fun y1 S1 L1 => ∀ z2 : Int64, z2 = (((31 : Int64) * z1) + y1.toInt64) → zU mX11_personDigest X S1 L1 130 [some (.ref 72), none, none, some (.int v3), some (.long z2), none, none] [] (zpl P))) : zU mX11_personDigest X S L 101 [some (.ref 72), none, none, some (.int v3), some (.long v4), none, some (.int v6)] [] (zpl P) := by
  refine zi_ldc2 (v := 31) dX11_personDigest_101 (zme 7 100 (by decide +kernel) rfl) ?_
  refine zi_lload dX11_personDigest_104 rfl ?_
  refine zi_lmul dX11_personDigest_106 ?_
  refine zi_iload dX11_personDigest_107 rfl ?_
  refine zi_i2l dX11_personDigest_109 ?_
  refine zi_ladd dX11_personDigest_110 ?_
  refine zt_nml (fun z1 ez1 => ?_)
  replace h := h z1 ez1
  refine zi_lstore dX11_personDigest_111 (by decide) rfl ?_
  refine zi_ldc2 (v := 31) dX11_personDigest_113 (zme 7 100 (by decide +kernel) rfl) ?_
  refine zi_lload dX11_personDigest_116 rfl ?_
  refine zi_lmul dX11_personDigest_118 ?_
  refine zi_aload_n dX11_personDigest_119 rfl rfl ?_
  refine zi_iload dX11_personDigest_120 rfl ?_
  refine zi_iconst (v := 0) dX11_personDigest_122 (by decide) ?_
  refine zt_Vi (As := [.int v6, .int (0 : Int32)]) dX11_personDigest_123 lk_X11_308 sk72 rfl ⟨⟨by decide, by decide⟩, rfl, rfl⟩ rfl ⟨Nat.le_of_ble_eq_true rfl, rfl, rfl⟩ h (fun y1 S1 L1 h => ?_)
  refine zi_i2l dX11_personDigest_126 ?_
  refine zi_ladd dX11_personDigest_127 ?_
  refine zt_nml (fun z2 ez2 => ?_)
  replace h := h z2 ez2
  refine zi_lstore dX11_personDigest_128 (by decide) rfl ?_
  refine zt_drop (lv' := [some (.ref 72), none, none, some (.int v3), some (.long z2), none, none]) [true, false, false, true, true, false, false] rfl ?_
  exact h
set_option maxHeartbeats 2000000 in
theorem b_X11_personDigest_130 {v3 : Int32} {v4 : Int64} {X : Nat × (Nat → Int32)} {S : zS} {L : zL} {P : Int64 → zS → zL → Prop} (h : zCi mX11_homeOf S L [.ref 72, .int v3, .int (0 : Int32)] (fun y1 S1 L1 => ∀ z1 : Int64, z1 = (((31 : Int64) * v4) + y1.toInt64) → zCi mX11_homeOf S1 L1 [.ref 72, .int v3, .int (1 : Int32)] (fun y2 S2 L2 => ∀ z2 : Int64, z2 = (((31 : Int64) * z1) + y2.toInt64) → zU mX11_personDigest X S2 L2 162 [some (.ref 72), none, none, some (.int v3), some (.long z2), none, none] [] (zpl P)))) : zU mX11_personDigest X S L 130 [some (.ref 72), none, none, some (.int v3), some (.long v4), none, none] [] (zpl P) := by
  refine zi_ldc2 (v := 31) dX11_personDigest_130 (zme 7 100 (by decide +kernel) rfl) ?_
  refine zi_lload dX11_personDigest_133 rfl ?_
  refine zi_lmul dX11_personDigest_135 ?_
  refine zi_aload_n dX11_personDigest_136 rfl rfl ?_
  refine zi_iload_n dX11_personDigest_137 rfl rfl ?_
  refine zi_iconst (v := 0) dX11_personDigest_138 (by decide) ?_
  refine zt_Vi (As := [.int v3, .int (0 : Int32)]) dX11_personDigest_139 lk_X11_320 sk72 rfl ⟨⟨by decide, by decide⟩, rfl, rfl⟩ rfl ⟨Nat.le_of_ble_eq_true rfl, rfl, rfl⟩ h (fun y1 S1 L1 h => ?_)
  refine zi_i2l dX11_personDigest_142 ?_
  refine zi_ladd dX11_personDigest_143 ?_
  refine zt_nml (fun z1 ez1 => ?_)
  replace h := h z1 ez1
  refine zi_lstore dX11_personDigest_144 (by decide) rfl ?_
  refine zi_ldc2 (v := 31) dX11_personDigest_146 (zme 7 100 (by decide +kernel) rfl) ?_
  refine zi_lload dX11_personDigest_149 rfl ?_
  refine zi_lmul dX11_personDigest_151 ?_
  refine zi_aload_n dX11_personDigest_152 rfl rfl ?_
  refine zi_iload_n dX11_personDigest_153 rfl rfl ?_
  refine zi_iconst (v := 1) dX11_personDigest_154 (by decide) ?_
  refine zt_Vi (As := [.int v3, .int (1 : Int32)]) dX11_personDigest_155 lk_X11_320 sk72 rfl ⟨⟨by decide, by decide⟩, rfl, rfl⟩ rfl ⟨Nat.le_of_ble_eq_true rfl, rfl, rfl⟩ h (fun y2 S2 L2 h => ?_)
  refine zi_i2l dX11_personDigest_158 ?_
  refine zi_ladd dX11_personDigest_159 ?_
  refine zt_nml (fun z2 ez2 => ?_)
  replace h := h z2 ez2
  refine zi_lstore dX11_personDigest_160 (by decide) rfl ?_
  refine zt_drop (lv' := [some (.ref 72), none, none, some (.int v3), some (.long z2), none, none]) [true, false, false, true, true, false, false] rfl ?_
  exact h
set_option maxHeartbeats 2000000 in
theorem b_X11_personDigest_162 {v3 : Int32} {v4 : Int64} {X : Nat × (Nat → Int32)} {S : zS} {L : zL} {P : Int64 → zS → zL → Prop} (h : zCi mX11_askOf S L [.ref 72, .int v3] (fun y1 S1 L1 => ∀ z1 : Int64, z1 = (((31 : Int64) * v4) + y1.toInt64) → zCl mX11_virtueOf S1 L1 [.ref 72, .int (5 : Int32), .int (5 : Int32), .int v3, .int (0 : Int32)] (fun y2 S2 L2 => ∀ z2 : Int64, z2 = (((31 : Int64) * z1) + y2) → zCl mX11_virtueOf S2 L2 [.ref 72, .int (5 : Int32), .int (5 : Int32), .int v3, .int (1 : Int32)] (fun y3 S3 L3 => P (((31 : Int64) * z2) + y3) S3 L3)))) : zU mX11_personDigest X S L 162 [some (.ref 72), none, none, some (.int v3), some (.long v4), none, none] [] (zpl P) := by
  refine zi_ldc2 (v := 31) dX11_personDigest_162 (zme 7 100 (by decide +kernel) rfl) ?_
  refine zi_lload dX11_personDigest_165 rfl ?_
  refine zi_lmul dX11_personDigest_167 ?_
  refine zi_aload_n dX11_personDigest_168 rfl rfl ?_
  refine zi_iload_n dX11_personDigest_169 rfl rfl ?_
  refine zt_Vi (As := [.int v3]) dX11_personDigest_170 lk_X11_336 sk72 rfl ⟨⟨by decide, by decide⟩, rfl, rfl⟩ rfl ⟨Nat.le_of_ble_eq_true rfl, rfl, rfl⟩ h (fun y1 S1 L1 h => ?_)
  refine zi_i2l dX11_personDigest_173 ?_
  refine zi_ladd dX11_personDigest_174 ?_
  refine zt_nml (fun z1 ez1 => ?_)
  replace h := h z1 ez1
  refine zi_lstore dX11_personDigest_175 (by decide) rfl ?_
  refine zi_ldc2 (v := 31) dX11_personDigest_177 (zme 7 100 (by decide +kernel) rfl) ?_
  refine zi_lload dX11_personDigest_180 rfl ?_
  refine zi_lmul dX11_personDigest_182 ?_
  refine zi_aload_n dX11_personDigest_183 rfl rfl ?_
  refine zi_iconst (v := 5) dX11_personDigest_184 (by decide) ?_
  refine zi_iconst (v := 5) dX11_personDigest_185 (by decide) ?_
  refine zi_iload_n dX11_personDigest_186 rfl rfl ?_
  refine zi_iconst (v := 0) dX11_personDigest_187 (by decide) ?_
  refine zt_Vl (As := [.int (5 : Int32), .int (5 : Int32), .int v3, .int (0 : Int32)]) dX11_personDigest_188 lk_X11_343 sk72 rfl ⟨⟨by decide, by decide⟩, rfl, rfl⟩ rfl ⟨Nat.le_of_ble_eq_true rfl, rfl, rfl⟩ h (fun y2 S2 L2 h => ?_)
  refine zi_ladd dX11_personDigest_191 ?_
  refine zt_nml (fun z2 ez2 => ?_)
  replace h := h z2 ez2
  refine zi_lstore dX11_personDigest_192 (by decide) rfl ?_
  refine zi_ldc2 (v := 31) dX11_personDigest_194 (zme 7 100 (by decide +kernel) rfl) ?_
  refine zi_lload dX11_personDigest_197 rfl ?_
  refine zi_lmul dX11_personDigest_199 ?_
  refine zi_aload_n dX11_personDigest_200 rfl rfl ?_
  refine zi_iconst (v := 5) dX11_personDigest_201 (by decide) ?_
  refine zi_iconst (v := 5) dX11_personDigest_202 (by decide) ?_
  refine zi_iload_n dX11_personDigest_203 rfl rfl ?_
  refine zi_iconst (v := 1) dX11_personDigest_204 (by decide) ?_
  refine zt_Vl (As := [.int (5 : Int32), .int (5 : Int32), .int v3, .int (1 : Int32)]) dX11_personDigest_205 lk_X11_343 sk72 rfl ⟨⟨by decide, by decide⟩, rfl, rfl⟩ rfl ⟨Nat.le_of_ble_eq_true rfl, rfl, rfl⟩ h (fun y3 S3 L3 h => ?_)
  refine zi_ladd dX11_personDigest_208 ?_
  exact zt_lret dX11_personDigest_209 rfl h
theorem e_X11_personDigest {before : Int64} {p : Int32} {S : zS} {L : zL} {P : Int64 → zS → zL → Prop} (h : ∀ X, zU mX11_personDigest X S L 0 [some (.ref 72), some (.long before), none, some (.int p), none, none, none] [] (zpl P)) : zCl mX11_personDigest S L [.ref 72, .long before, .int p] P := zCl_of pn_X11_personDigest (Nat.le_of_ble_eq_true rfl) (fun X => zt_pad (j := 3) rfl (h X))
set_option maxHeartbeats 2000000 in
theorem b_X11_deedDigest_0 {before : Int64} {d : Int32} {X : Nat × (Nat → Int32)} {S : zS} {L : zL} {P : Int64 → zS → zL → Prop} (h : zU mX11_deedDigest X S L 6 [some (.ref 72), none, none, some (.int d), some (.long before), none, some (.int (0 : Int32))] [] (zpl P)) : zU mX11_deedDigest X S L 0 [some (.ref 72), some (.long before), none, some (.int d), none, none, none] [] (zpl P) := by
  refine zi_lload_n dX11_deedDigest_0 rfl rfl ?_
  refine zi_lstore dX11_deedDigest_1 (by decide) rfl ?_
  refine zi_iconst (v := 0) dX11_deedDigest_3 (by decide) ?_
  refine zi_istore dX11_deedDigest_4 (by decide) rfl ?_
  refine zt_drop (lv' := [some (.ref 72), none, none, some (.int d), some (.long before), none, some (.int (0 : Int32))]) [true, false, false, true, true, false, true] rfl ?_
  exact h
set_option maxHeartbeats 2000000 in
theorem b_X11_deedDigest_6 {v3 : Int32} {v4 : Int64} {v6 : Int32} {X : Nat × (Nat → Int32)} {S : zS} {L : zL} {P : Int64 → zS → zL → Prop} (h : (((3 : Int32) ≤ v6 → zCi mX11_wasOf S L [.ref 72, .int v3, .int (0 : Int32)] (fun y1 S1 L1 => ∀ z1 : Int64, z1 = (((31 : Int64) * v4) + y1.toInt64) → zCi mX11_wasOf S1 L1 [.ref 72, .int v3, .int (1 : Int32)] (fun y2 S2 L2 => P (((31 : Int64) * z1) + y2.toInt64) S2 L2))) ∧ (¬ (3 : Int32) ≤ v6 → zCi mX11_deedOf S L [.ref 72, .int v3, .int v6] (fun y1 S1 L1 => ∀ z1 : Int64, z1 = (((31 : Int64) * v4) + y1.toInt64) → ∀ x1 : Int32, x1 = v6 + (1 : Int32) → zU mX11_deedDigest X S1 L1 6 [some (.ref 72), none, none, some (.int v3), some (.long z1), none, some (.int x1)] [] (zpl P))))) : zU mX11_deedDigest X S L 6 [some (.ref 72), none, none, some (.int v3), some (.long v4), none, some (.int v6)] [] (zpl P) := by
  refine zi_iload dX11_deedDigest_6 rfl ?_
  refine zi_iconst (v := 3) dX11_deedDigest_8 (by decide) ?_
  refine zi_icmp_ge (tgt := 35) dX11_deedDigest_9 (by decide) (fun q9 => ?_) (fun q9 => ?_)
  · replace h := h.1 q9
    refine zi_ldc2 (v := 31) dX11_deedDigest_35 (zme 7 100 (by decide +kernel) rfl) ?_
    refine zi_lload dX11_deedDigest_38 rfl ?_
    refine zi_lmul dX11_deedDigest_40 ?_
    refine zi_aload_n dX11_deedDigest_41 rfl rfl ?_
    refine zi_iload_n dX11_deedDigest_42 rfl rfl ?_
    refine zi_iconst (v := 0) dX11_deedDigest_43 (by decide) ?_
    refine zt_Vi (As := [.int v3, .int (0 : Int32)]) dX11_deedDigest_44 lk_X11_333 sk72 rfl ⟨⟨by decide, by decide⟩, rfl, rfl⟩ rfl ⟨Nat.le_of_ble_eq_true rfl, rfl, rfl⟩ h (fun y1 S1 L1 h => ?_)
    refine zi_i2l dX11_deedDigest_47 ?_
    refine zi_ladd dX11_deedDigest_48 ?_
    refine zt_nml (fun z1 ez1 => ?_)
    replace h := h z1 ez1
    refine zi_lstore dX11_deedDigest_49 (by decide) rfl ?_
    refine zi_ldc2 (v := 31) dX11_deedDigest_51 (zme 7 100 (by decide +kernel) rfl) ?_
    refine zi_lload dX11_deedDigest_54 rfl ?_
    refine zi_lmul dX11_deedDigest_56 ?_
    refine zi_aload_n dX11_deedDigest_57 rfl rfl ?_
    refine zi_iload_n dX11_deedDigest_58 rfl rfl ?_
    refine zi_iconst (v := 1) dX11_deedDigest_59 (by decide) ?_
    refine zt_Vi (As := [.int v3, .int (1 : Int32)]) dX11_deedDigest_60 lk_X11_333 sk72 rfl ⟨⟨by decide, by decide⟩, rfl, rfl⟩ rfl ⟨Nat.le_of_ble_eq_true rfl, rfl, rfl⟩ h (fun y2 S2 L2 h => ?_)
    refine zi_i2l dX11_deedDigest_63 ?_
    refine zi_ladd dX11_deedDigest_64 ?_
    exact zt_lret dX11_deedDigest_65 rfl h
  · replace h := h.2 q9
    refine zi_ldc2 (v := 31) dX11_deedDigest_12 (zme 7 100 (by decide +kernel) rfl) ?_
    refine zi_lload dX11_deedDigest_15 rfl ?_
    refine zi_lmul dX11_deedDigest_17 ?_
    refine zi_aload_n dX11_deedDigest_18 rfl rfl ?_
    refine zi_iload_n dX11_deedDigest_19 rfl rfl ?_
    refine zi_iload dX11_deedDigest_20 rfl ?_
    refine zt_Vi (As := [.int v3, .int v6]) dX11_deedDigest_22 lk_X11_183 sk72 rfl ⟨⟨by decide, by decide⟩, rfl, rfl⟩ rfl ⟨Nat.le_of_ble_eq_true rfl, rfl, rfl⟩ h (fun y1 S1 L1 h => ?_)
    refine zi_i2l dX11_deedDigest_25 ?_
    refine zi_ladd dX11_deedDigest_26 ?_
    refine zt_nml (fun z1 ez1 => ?_)
    replace h := h z1 ez1
    refine zi_lstore dX11_deedDigest_27 (by decide) rfl ?_
    obtain ⟨x1, ex1⟩ : ∃ y : Int32, y = v6 + (1 : Int32) := ⟨_, rfl⟩
    replace h := h x1 ex1
    refine zi_iinc (v := x1) dX11_deedDigest_29 rfl (by rw [ex1]; rfl) (by decide) rfl ?_
    refine zi_goto (tgt := 6) dX11_deedDigest_32 (by decide) ?_
    refine zt_drop (lv' := [some (.ref 72), none, none, some (.int v3), some (.long z1), none, some (.int x1)]) [true, false, false, true, true, false, true] rfl ?_
    exact h
theorem e_X11_deedDigest {before : Int64} {d : Int32} {S : zS} {L : zL} {P : Int64 → zS → zL → Prop} (h : ∀ X, zU mX11_deedDigest X S L 0 [some (.ref 72), some (.long before), none, some (.int d), none, none, none] [] (zpl P)) : zCl mX11_deedDigest S L [.ref 72, .long before, .int d] P := zCl_of pn_X11_deedDigest (Nat.le_of_ble_eq_true rfl) (fun X => zt_pad (j := 3) rfl (h X))
set_option maxHeartbeats 2000000 in
theorem b_X11_countyDigest_0 {before : Int64} {c : Int32} {X : Nat × (Nat → Int32)} {S : zS} {L : zL} {P : Int64 → zS → zL → Prop} (h : zCi mX11_clothOf S L [.ref 72, .int (11 : Int32), .int c, .int (0 : Int32)] (fun y1 S1 L1 => ∀ z1 : Int64, z1 = (((31 : Int64) * before) + y1.toInt64) → zCi mX11_clothOf S1 L1 [.ref 72, .int (11 : Int32), .int c, .int (1 : Int32)] (fun y2 S2 L2 => ∀ z2 : Int64, z2 = (((31 : Int64) * z1) + y2.toInt64) → zCi mX11_clothOf S2 L2 [.ref 72, .int (23 : Int32), .int c, .int (0 : Int32)] (fun y3 S3 L3 => ∀ z3 : Int64, z3 = (((31 : Int64) * z2) + y3.toInt64) → zCi mX11_clothOf S3 L3 [.ref 72, .int (23 : Int32), .int c, .int (1 : Int32)] (fun y4 S4 L4 => P (((31 : Int64) * z3) + y4.toInt64) S4 L4))))) : zU mX11_countyDigest X S L 0 [some (.ref 72), some (.long before), none, some (.int c), none, none] [] (zpl P) := by
  refine zi_ldc2 (v := 31) dX11_countyDigest_0 (zme 7 100 (by decide +kernel) rfl) ?_
  refine zi_lload_n dX11_countyDigest_3 rfl rfl ?_
  refine zi_lmul dX11_countyDigest_4 ?_
  refine zi_aload_n dX11_countyDigest_5 rfl rfl ?_
  refine zi_bipush (v := 11) dX11_countyDigest_6 (by decide) ?_
  refine zi_iload_n dX11_countyDigest_8 rfl rfl ?_
  refine zi_iconst (v := 0) dX11_countyDigest_9 (by decide) ?_
  refine zt_Vi (As := [.int (11 : Int32), .int c, .int (0 : Int32)]) dX11_countyDigest_10 lk_X11_281 sk72 rfl ⟨⟨by decide, by decide⟩, rfl, rfl⟩ rfl ⟨Nat.le_of_ble_eq_true rfl, rfl, rfl⟩ h (fun y1 S1 L1 h => ?_)
  refine zi_i2l dX11_countyDigest_13 ?_
  refine zi_ladd dX11_countyDigest_14 ?_
  refine zt_nml (fun z1 ez1 => ?_)
  replace h := h z1 ez1
  refine zi_lstore dX11_countyDigest_15 (by decide) rfl ?_
  refine zi_ldc2 (v := 31) dX11_countyDigest_17 (zme 7 100 (by decide +kernel) rfl) ?_
  refine zi_lload dX11_countyDigest_20 rfl ?_
  refine zi_lmul dX11_countyDigest_22 ?_
  refine zi_aload_n dX11_countyDigest_23 rfl rfl ?_
  refine zi_bipush (v := 11) dX11_countyDigest_24 (by decide) ?_
  refine zi_iload_n dX11_countyDigest_26 rfl rfl ?_
  refine zi_iconst (v := 1) dX11_countyDigest_27 (by decide) ?_
  refine zt_Vi (As := [.int (11 : Int32), .int c, .int (1 : Int32)]) dX11_countyDigest_28 lk_X11_281 sk72 rfl ⟨⟨by decide, by decide⟩, rfl, rfl⟩ rfl ⟨Nat.le_of_ble_eq_true rfl, rfl, rfl⟩ h (fun y2 S2 L2 h => ?_)
  refine zi_i2l dX11_countyDigest_31 ?_
  refine zi_ladd dX11_countyDigest_32 ?_
  refine zt_nml (fun z2 ez2 => ?_)
  replace h := h z2 ez2
  refine zi_lstore dX11_countyDigest_33 (by decide) rfl ?_
  refine zi_ldc2 (v := 31) dX11_countyDigest_35 (zme 7 100 (by decide +kernel) rfl) ?_
  refine zi_lload dX11_countyDigest_38 rfl ?_
  refine zi_lmul dX11_countyDigest_40 ?_
  refine zi_aload_n dX11_countyDigest_41 rfl rfl ?_
  refine zi_bipush (v := 23) dX11_countyDigest_42 (by decide) ?_
  refine zi_iload_n dX11_countyDigest_44 rfl rfl ?_
  refine zi_iconst (v := 0) dX11_countyDigest_45 (by decide) ?_
  refine zt_Vi (As := [.int (23 : Int32), .int c, .int (0 : Int32)]) dX11_countyDigest_46 lk_X11_281 sk72 rfl ⟨⟨by decide, by decide⟩, rfl, rfl⟩ rfl ⟨Nat.le_of_ble_eq_true rfl, rfl, rfl⟩ h (fun y3 S3 L3 h => ?_)
  refine zi_i2l dX11_countyDigest_49 ?_
  refine zi_ladd dX11_countyDigest_50 ?_
  refine zt_nml (fun z3 ez3 => ?_)
  replace h := h z3 ez3
  refine zi_lstore dX11_countyDigest_51 (by decide) rfl ?_
  refine zi_ldc2 (v := 31) dX11_countyDigest_53 (zme 7 100 (by decide +kernel) rfl) ?_
  refine zi_lload dX11_countyDigest_56 rfl ?_
  refine zi_lmul dX11_countyDigest_58 ?_
  refine zi_aload_n dX11_countyDigest_59 rfl rfl ?_
  refine zi_bipush (v := 23) dX11_countyDigest_60 (by decide) ?_
  refine zi_iload_n dX11_countyDigest_62 rfl rfl ?_
  refine zi_iconst (v := 1) dX11_countyDigest_63 (by decide) ?_
  refine zt_Vi (As := [.int (23 : Int32), .int c, .int (1 : Int32)]) dX11_countyDigest_64 lk_X11_281 sk72 rfl ⟨⟨by decide, by decide⟩, rfl, rfl⟩ rfl ⟨Nat.le_of_ble_eq_true rfl, rfl, rfl⟩ h (fun y4 S4 L4 h => ?_)
  refine zi_i2l dX11_countyDigest_67 ?_
  refine zi_ladd dX11_countyDigest_68 ?_
  exact zt_lret dX11_countyDigest_69 rfl h
theorem e_X11_countyDigest {before : Int64} {c : Int32} {S : zS} {L : zL} {P : Int64 → zS → zL → Prop} (h : ∀ X, zU mX11_countyDigest X S L 0 [some (.ref 72), some (.long before), none, some (.int c), none, none] [] (zpl P)) : zCl mX11_countyDigest S L [.ref 72, .long before, .int c] P := zCl_of pn_X11_countyDigest (Nat.le_of_ble_eq_true rfl) (fun X => zt_pad (j := 2) rfl (h X))
set_option maxHeartbeats 2000000 in
theorem b_X11_thornDigest_0 {before : Int64} {m : Int32} {X : Nat × (Nat → Int32)} {S : zS} {L : zL} {P : Int64 → zS → zL → Prop} (h : zCi mX11_thornOf S L [.ref 72, .int m] (fun y1 S1 L1 => ∀ z1 : Int64, z1 = (((31 : Int64) * before) + y1.toInt64) → zCi mX11_heaviestOf S1 L1 [.ref 72, .int m] (fun y2 S2 L2 => P (((31 : Int64) * z1) + y2.toInt64) S2 L2))) : zU mX11_thornDigest X S L 0 [some (.ref 72), some (.long before), none, some (.int m), none, none] [] (zpl P) := by
  refine zi_ldc2 (v := 31) dX11_thornDigest_0 (zme 7 100 (by decide +kernel) rfl) ?_
  refine zi_lload_n dX11_thornDigest_3 rfl rfl ?_
  refine zi_lmul dX11_thornDigest_4 ?_
  refine zi_aload_n dX11_thornDigest_5 rfl rfl ?_
  refine zi_iload_n dX11_thornDigest_6 rfl rfl ?_
  refine zt_Vi (As := [.int m]) dX11_thornDigest_7 lk_X11_284 sk72 rfl ⟨⟨by decide, by decide⟩, rfl, rfl⟩ rfl ⟨Nat.le_of_ble_eq_true rfl, rfl, rfl⟩ h (fun y1 S1 L1 h => ?_)
  refine zi_i2l dX11_thornDigest_10 ?_
  refine zi_ladd dX11_thornDigest_11 ?_
  refine zt_nml (fun z1 ez1 => ?_)
  replace h := h z1 ez1
  refine zi_lstore dX11_thornDigest_12 (by decide) rfl ?_
  refine zi_ldc2 (v := 31) dX11_thornDigest_14 (zme 7 100 (by decide +kernel) rfl) ?_
  refine zi_lload dX11_thornDigest_17 rfl ?_
  refine zi_lmul dX11_thornDigest_19 ?_
  refine zi_aload_n dX11_thornDigest_20 rfl rfl ?_
  refine zi_iload_n dX11_thornDigest_21 rfl rfl ?_
  refine zt_Vi (As := [.int m]) dX11_thornDigest_22 lk_X11_290 sk72 rfl ⟨⟨by decide, by decide⟩, rfl, rfl⟩ rfl ⟨Nat.le_of_ble_eq_true rfl, rfl, rfl⟩ h (fun y2 S2 L2 h => ?_)
  refine zi_i2l dX11_thornDigest_25 ?_
  refine zi_ladd dX11_thornDigest_26 ?_
  exact zt_lret dX11_thornDigest_27 rfl h
theorem e_X11_thornDigest {before : Int64} {m : Int32} {S : zS} {L : zL} {P : Int64 → zS → zL → Prop} (h : ∀ X, zU mX11_thornDigest X S L 0 [some (.ref 72), some (.long before), none, some (.int m), none, none] [] (zpl P)) : zCl mX11_thornDigest S L [.ref 72, .long before, .int m] P := zCl_of pn_X11_thornDigest (Nat.le_of_ble_eq_true rfl) (fun X => zt_pad (j := 2) rfl (h X))
set_option maxHeartbeats 2000000 in
theorem b_X11_digest_0 {X : Nat × (Nat → Int32)} {S : zS} {L : zL} {P : Int64 → zS → zL → Prop} (h : zU mX11_digest X S L 6 [some (.ref 72), some (.long (17 : Int64)), none, some (.int (0 : Int32))] [] (zpl P)) : zU mX11_digest X S L 0 [some (.ref 72), none, none, none] [] (zpl P) := by
  refine zi_ldc2 (v := 17) dX11_digest_0 (zme 7 99 (by decide +kernel) rfl) ?_
  refine zi_lstore_n dX11_digest_3 rfl (by decide) rfl ?_
  refine zi_iconst (v := 0) dX11_digest_4 (by decide) ?_
  refine zi_istore_n dX11_digest_5 rfl (by decide) rfl ?_
  refine zt_drop (lv' := [some (.ref 72), some (.long (17 : Int64)), none, some (.int (0 : Int32))]) [true, true, false, true] rfl ?_
  exact h
set_option maxHeartbeats 2000000 in
theorem b_X11_digest_6 {v1 : Int64} {v3 : Int32} {X : Nat × (Nat → Int32)} {S : zS} {L : zL} {P : Int64 → zS → zL → Prop} (h : (((8 : Int32) ≤ v3 → zCi mX11_faultOf S L [.ref 72, .int (0 : Int32)] (fun y1 S1 L1 => ∀ z1 : Int64, z1 = (((31 : Int64) * v1) + y1.toInt64) → zCi mX11_faultOf S1 L1 [.ref 72, .int (1 : Int32)] (fun y2 S2 L2 => ∀ z2 : Int64, z2 = (((31 : Int64) * z1) + y2.toInt64) → zU mX11_digest X S2 L2 59 [some (.ref 72), some (.long z2), none, some (.int (0 : Int32))] [] (zpl P)))) ∧ (¬ (8 : Int32) ≤ v3 → zCi mX11_count S L [.ref 72, .int v3] (fun y1 S1 L1 => ∀ z1 : Int64, z1 = (((31 : Int64) * v1) + y1.toInt64) → ∀ x1 : Int32, x1 = v3 + (1 : Int32) → zU mX11_digest X S1 L1 6 [some (.ref 72), some (.long z1), none, some (.int x1)] [] (zpl P))))) : zU mX11_digest X S L 6 [some (.ref 72), some (.long v1), none, some (.int v3)] [] (zpl P) := by
  refine zi_iload_n dX11_digest_6 rfl rfl ?_
  refine zi_bipush (v := 8) dX11_digest_7 (by decide) ?_
  refine zi_icmp_ge (tgt := 31) dX11_digest_9 (by decide) (fun q9 => ?_) (fun q9 => ?_)
  · replace h := h.1 q9
    refine zi_ldc2 (v := 31) dX11_digest_31 (zme 7 100 (by decide +kernel) rfl) ?_
    refine zi_lload_n dX11_digest_34 rfl rfl ?_
    refine zi_lmul dX11_digest_35 ?_
    refine zi_aload_n dX11_digest_36 rfl rfl ?_
    refine zi_iconst (v := 0) dX11_digest_37 (by decide) ?_
    refine zt_Vi (As := [.int (0 : Int32)]) dX11_digest_38 lk_X11_168 sk72 rfl ⟨⟨by decide, by decide⟩, rfl, rfl⟩ rfl ⟨Nat.le_of_ble_eq_true rfl, rfl, rfl⟩ h (fun y1 S1 L1 h => ?_)
    refine zi_i2l dX11_digest_41 ?_
    refine zi_ladd dX11_digest_42 ?_
    refine zt_nml (fun z1 ez1 => ?_)
    replace h := h z1 ez1
    refine zi_lstore_n dX11_digest_43 rfl (by decide) rfl ?_
    refine zi_ldc2 (v := 31) dX11_digest_44 (zme 7 100 (by decide +kernel) rfl) ?_
    refine zi_lload_n dX11_digest_47 rfl rfl ?_
    refine zi_lmul dX11_digest_48 ?_
    refine zi_aload_n dX11_digest_49 rfl rfl ?_
    refine zi_iconst (v := 1) dX11_digest_50 (by decide) ?_
    refine zt_Vi (As := [.int (1 : Int32)]) dX11_digest_51 lk_X11_168 sk72 rfl ⟨⟨by decide, by decide⟩, rfl, rfl⟩ rfl ⟨Nat.le_of_ble_eq_true rfl, rfl, rfl⟩ h (fun y2 S2 L2 h => ?_)
    refine zi_i2l dX11_digest_54 ?_
    refine zi_ladd dX11_digest_55 ?_
    refine zt_nml (fun z2 ez2 => ?_)
    replace h := h z2 ez2
    refine zi_lstore_n dX11_digest_56 rfl (by decide) rfl ?_
    refine zi_iconst (v := 0) dX11_digest_57 (by decide) ?_
    refine zi_istore_n dX11_digest_58 rfl (by decide) rfl ?_
    refine zt_drop (lv' := [some (.ref 72), some (.long z2), none, some (.int (0 : Int32))]) [true, true, false, true] rfl ?_
    exact h
  · replace h := h.2 q9
    refine zi_ldc2 (v := 31) dX11_digest_12 (zme 7 100 (by decide +kernel) rfl) ?_
    refine zi_lload_n dX11_digest_15 rfl rfl ?_
    refine zi_lmul dX11_digest_16 ?_
    refine zi_aload_n dX11_digest_17 rfl rfl ?_
    refine zi_iload_n dX11_digest_18 rfl rfl ?_
    refine zt_Vi (As := [.int v3]) dX11_digest_19 lk_X11_377 sk72 rfl ⟨⟨by decide, by decide⟩, rfl, rfl⟩ rfl ⟨Nat.le_of_ble_eq_true rfl, rfl, rfl⟩ h (fun y1 S1 L1 h => ?_)
    refine zi_i2l dX11_digest_22 ?_
    refine zi_ladd dX11_digest_23 ?_
    refine zt_nml (fun z1 ez1 => ?_)
    replace h := h z1 ez1
    refine zi_lstore_n dX11_digest_24 rfl (by decide) rfl ?_
    obtain ⟨x1, ex1⟩ : ∃ y : Int32, y = v3 + (1 : Int32) := ⟨_, rfl⟩
    replace h := h x1 ex1
    refine zi_iinc (v := x1) dX11_digest_25 rfl (by rw [ex1]; rfl) (by decide) rfl ?_
    refine zi_goto (tgt := 6) dX11_digest_28 (by decide) ?_
    refine zt_drop (lv' := [some (.ref 72), some (.long z1), none, some (.int x1)]) [true, true, false, true] rfl ?_
    exact h
set_option maxHeartbeats 2000000 in
theorem b_X11_digest_59 {v1 : Int64} {v3 : Int32} {X : Nat × (Nat → Int32)} {S : zS} {L : zL} {P : Int64 → zS → zL → Prop} (h : (((S 72 2) ≤ v3 → zU mX11_digest X S L 82 [some (.ref 72), some (.long v1), none, some (.int (0 : Int32))] [] (zpl P)) ∧ (¬ (S 72 2) ≤ v3 → zCl mX11_personDigest S L [.ref 72, .long v1, .int v3] (fun y1 S1 L1 => ∀ x1 : Int32, x1 = v3 + (1 : Int32) → zU mX11_digest X S1 L1 59 [some (.ref 72), some (.long y1), none, some (.int x1)] [] (zpl P))))) : zU mX11_digest X S L 59 [some (.ref 72), some (.long v1), none, some (.int v3)] [] (zpl P) := by
  refine zi_iload_n dX11_digest_59 rfl rfl ?_
  refine zi_aload_n dX11_digest_60 rfl rfl ?_
  refine zi_geti fl_X11_152 sk72 rfl dX11_digest_61 ?_
  refine zi_icmp_ge (tgt := 80) dX11_digest_64 (by decide) (fun q9 => ?_) (fun q9 => ?_)
  · replace h := h.1 q9
    refine zi_iconst (v := 0) dX11_digest_80 (by decide) ?_
    refine zi_istore_n dX11_digest_81 rfl (by decide) rfl ?_
    refine zt_drop (lv' := [some (.ref 72), some (.long v1), none, some (.int (0 : Int32))]) [true, true, false, true] rfl ?_
    exact h
  · replace h := h.2 q9
    refine zi_aload_n dX11_digest_67 rfl rfl ?_
    refine zi_lload_n dX11_digest_68 rfl rfl ?_
    refine zi_iload_n dX11_digest_69 rfl rfl ?_
    refine zt_Vl (As := [.long v1, .int v3]) dX11_digest_70 lk_X11_380 sk72 rfl ⟨⟨by decide, by decide⟩, rfl, rfl⟩ rfl ⟨Nat.le_of_ble_eq_true rfl, rfl, rfl⟩ h (fun y1 S1 L1 h => ?_)
    refine zi_lstore_n dX11_digest_73 rfl (by decide) rfl ?_
    obtain ⟨x1, ex1⟩ : ∃ y : Int32, y = v3 + (1 : Int32) := ⟨_, rfl⟩
    replace h := h x1 ex1
    refine zi_iinc (v := x1) dX11_digest_74 rfl (by rw [ex1]; rfl) (by decide) rfl ?_
    refine zi_goto (tgt := 59) dX11_digest_77 (by decide) ?_
    refine zt_drop (lv' := [some (.ref 72), some (.long y1), none, some (.int x1)]) [true, true, false, true] rfl ?_
    exact h
set_option maxHeartbeats 2000000 in
theorem b_X11_digest_82 {v1 : Int64} {v3 : Int32} {X : Nat × (Nat → Int32)} {S : zS} {L : zL} {P : Int64 → zS → zL → Prop} (h : (((S 72 6) ≤ v3 → zU mX11_digest X S L 105 [some (.ref 72), some (.long v1), none, some (.int (0 : Int32))] [] (zpl P)) ∧ (¬ (S 72 6) ≤ v3 → zCl mX11_deedDigest S L [.ref 72, .long v1, .int v3] (fun y1 S1 L1 => ∀ x1 : Int32, x1 = v3 + (1 : Int32) → zU mX11_digest X S1 L1 82 [some (.ref 72), some (.long y1), none, some (.int x1)] [] (zpl P))))) : zU mX11_digest X S L 82 [some (.ref 72), some (.long v1), none, some (.int v3)] [] (zpl P) := by
  refine zi_iload_n dX11_digest_82 rfl rfl ?_
  refine zi_aload_n dX11_digest_83 rfl rfl ?_
  refine zi_geti fl_X11_155 sk72 rfl dX11_digest_84 ?_
  refine zi_icmp_ge (tgt := 103) dX11_digest_87 (by decide) (fun q9 => ?_) (fun q9 => ?_)
  · replace h := h.1 q9
    refine zi_iconst (v := 0) dX11_digest_103 (by decide) ?_
    refine zi_istore_n dX11_digest_104 rfl (by decide) rfl ?_
    refine zt_drop (lv' := [some (.ref 72), some (.long v1), none, some (.int (0 : Int32))]) [true, true, false, true] rfl ?_
    exact h
  · replace h := h.2 q9
    refine zi_aload_n dX11_digest_90 rfl rfl ?_
    refine zi_lload_n dX11_digest_91 rfl rfl ?_
    refine zi_iload_n dX11_digest_92 rfl rfl ?_
    refine zt_Vl (As := [.long v1, .int v3]) dX11_digest_93 lk_X11_384 sk72 rfl ⟨⟨by decide, by decide⟩, rfl, rfl⟩ rfl ⟨Nat.le_of_ble_eq_true rfl, rfl, rfl⟩ h (fun y1 S1 L1 h => ?_)
    refine zi_lstore_n dX11_digest_96 rfl (by decide) rfl ?_
    obtain ⟨x1, ex1⟩ : ∃ y : Int32, y = v3 + (1 : Int32) := ⟨_, rfl⟩
    replace h := h x1 ex1
    refine zi_iinc (v := x1) dX11_digest_97 rfl (by rw [ex1]; rfl) (by decide) rfl ?_
    refine zi_goto (tgt := 82) dX11_digest_100 (by decide) ?_
    refine zt_drop (lv' := [some (.ref 72), some (.long y1), none, some (.int x1)]) [true, true, false, true] rfl ?_
    exact h
set_option maxHeartbeats 2000000 in
theorem b_X11_digest_105 {v1 : Int64} {v3 : Int32} {X : Nat × (Nat → Int32)} {S : zS} {L : zL} {P : Int64 → zS → zL → Prop} (h : (((4 : Int32) ≤ v3 → zCl mX11_thornDigest S L [.ref 72, .long v1, .int (0 : Int32)] (fun y1 S1 L1 => zCl mX11_thornDigest S1 L1 [.ref 72, .long y1, .int (11 : Int32)] (fun y2 S2 L2 => zCl mX11_thornDigest S2 L2 [.ref 72, .long y2, .int (23 : Int32)] (fun y3 S3 L3 => zCi mX11_taxOf S3 L3 [.ref 72, .int (0 : Int32)] (fun y4 S4 L4 => ∀ z1 : Int64, z1 = (((31 : Int64) * y3) + y4.toInt64) → zCi mX11_taxOf S4 L4 [.ref 72, .int (1 : Int32)] (fun y5 S5 L5 => ∀ z2 : Int64, z2 = (((31 : Int64) * z1) + y5.toInt64) → zCi mX11_firstOf S5 L5 [.ref 72, .int (0 : Int32)] (fun y6 S6 L6 => ∀ z3 : Int64, z3 = (((31 : Int64) * z2) + y6.toInt64) → zCi mX11_firstOf S6 L6 [.ref 72, .int (1 : Int32)] (fun y7 S7 L7 => ∀ z4 : Int64, z4 = (((31 : Int64) * z3) + y7.toInt64) → zU mX11_digest X S7 L7 200 [some (.ref 72), some (.long z4), none, some (.int (0 : Int32))] [] (zpl P))))))))) ∧ (¬ (4 : Int32) ≤ v3 → zCl mX11_countyDigest S L [.ref 72, .long v1, .int v3] (fun y1 S1 L1 => ∀ x1 : Int32, x1 = v3 + (1 : Int32) → zU mX11_digest X S1 L1 105 [some (.ref 72), some (.long y1), none, some (.int x1)] [] (zpl P))))) : zU mX11_digest X S L 105 [some (.ref 72), some (.long v1), none, some (.int v3)] [] (zpl P) := by
  refine zi_iload_n dX11_digest_105 rfl rfl ?_
  refine zi_iconst (v := 4) dX11_digest_106 (by decide) ?_
  refine zi_icmp_ge (tgt := 123) dX11_digest_107 (by decide) (fun q9 => ?_) (fun q9 => ?_)
  · replace h := h.1 q9
    refine zi_aload_n dX11_digest_123 rfl rfl ?_
    refine zi_lload_n dX11_digest_124 rfl rfl ?_
    refine zi_iconst (v := 0) dX11_digest_125 (by decide) ?_
    refine zt_Vl (As := [.long v1, .int (0 : Int32)]) dX11_digest_126 lk_X11_390 sk72 rfl ⟨⟨by decide, by decide⟩, rfl, rfl⟩ rfl ⟨Nat.le_of_ble_eq_true rfl, rfl, rfl⟩ h (fun y1 S1 L1 h => ?_)
    refine zi_lstore_n dX11_digest_129 rfl (by decide) rfl ?_
    refine zi_aload_n dX11_digest_130 rfl rfl ?_
    refine zi_lload_n dX11_digest_131 rfl rfl ?_
    refine zi_bipush (v := 11) dX11_digest_132 (by decide) ?_
    refine zt_Vl (As := [.long y1, .int (11 : Int32)]) dX11_digest_134 lk_X11_390 sk72 rfl ⟨⟨by decide, by decide⟩, rfl, rfl⟩ rfl ⟨Nat.le_of_ble_eq_true rfl, rfl, rfl⟩ h (fun y2 S2 L2 h => ?_)
    refine zi_lstore_n dX11_digest_137 rfl (by decide) rfl ?_
    refine zi_aload_n dX11_digest_138 rfl rfl ?_
    refine zi_lload_n dX11_digest_139 rfl rfl ?_
    refine zi_bipush (v := 23) dX11_digest_140 (by decide) ?_
    refine zt_Vl (As := [.long y2, .int (23 : Int32)]) dX11_digest_142 lk_X11_390 sk72 rfl ⟨⟨by decide, by decide⟩, rfl, rfl⟩ rfl ⟨Nat.le_of_ble_eq_true rfl, rfl, rfl⟩ h (fun y3 S3 L3 h => ?_)
    refine zi_lstore_n dX11_digest_145 rfl (by decide) rfl ?_
    refine zi_ldc2 (v := 31) dX11_digest_146 (zme 7 100 (by decide +kernel) rfl) ?_
    refine zi_lload_n dX11_digest_149 rfl rfl ?_
    refine zi_lmul dX11_digest_150 ?_
    refine zi_aload_n dX11_digest_151 rfl rfl ?_
    refine zi_iconst (v := 0) dX11_digest_152 (by decide) ?_
    refine zt_Vi (As := [.int (0 : Int32)]) dX11_digest_153 lk_X11_287 sk72 rfl ⟨⟨by decide, by decide⟩, rfl, rfl⟩ rfl ⟨Nat.le_of_ble_eq_true rfl, rfl, rfl⟩ h (fun y4 S4 L4 h => ?_)
    refine zi_i2l dX11_digest_156 ?_
    refine zi_ladd dX11_digest_157 ?_
    refine zt_nml (fun z1 ez1 => ?_)
    replace h := h z1 ez1
    refine zi_lstore_n dX11_digest_158 rfl (by decide) rfl ?_
    refine zi_ldc2 (v := 31) dX11_digest_159 (zme 7 100 (by decide +kernel) rfl) ?_
    refine zi_lload_n dX11_digest_162 rfl rfl ?_
    refine zi_lmul dX11_digest_163 ?_
    refine zi_aload_n dX11_digest_164 rfl rfl ?_
    refine zi_iconst (v := 1) dX11_digest_165 (by decide) ?_
    refine zt_Vi (As := [.int (1 : Int32)]) dX11_digest_166 lk_X11_287 sk72 rfl ⟨⟨by decide, by decide⟩, rfl, rfl⟩ rfl ⟨Nat.le_of_ble_eq_true rfl, rfl, rfl⟩ h (fun y5 S5 L5 h => ?_)
    refine zi_i2l dX11_digest_169 ?_
    refine zi_ladd dX11_digest_170 ?_
    refine zt_nml (fun z2 ez2 => ?_)
    replace h := h z2 ez2
    refine zi_lstore_n dX11_digest_171 rfl (by decide) rfl ?_
    refine zi_ldc2 (v := 31) dX11_digest_172 (zme 7 100 (by decide +kernel) rfl) ?_
    refine zi_lload_n dX11_digest_175 rfl rfl ?_
    refine zi_lmul dX11_digest_176 ?_
    refine zi_aload_n dX11_digest_177 rfl rfl ?_
    refine zi_iconst (v := 0) dX11_digest_178 (by decide) ?_
    refine zt_Vi (As := [.int (0 : Int32)]) dX11_digest_179 lk_X11_293 sk72 rfl ⟨⟨by decide, by decide⟩, rfl, rfl⟩ rfl ⟨Nat.le_of_ble_eq_true rfl, rfl, rfl⟩ h (fun y6 S6 L6 h => ?_)
    refine zi_i2l dX11_digest_182 ?_
    refine zi_ladd dX11_digest_183 ?_
    refine zt_nml (fun z3 ez3 => ?_)
    replace h := h z3 ez3
    refine zi_lstore_n dX11_digest_184 rfl (by decide) rfl ?_
    refine zi_ldc2 (v := 31) dX11_digest_185 (zme 7 100 (by decide +kernel) rfl) ?_
    refine zi_lload_n dX11_digest_188 rfl rfl ?_
    refine zi_lmul dX11_digest_189 ?_
    refine zi_aload_n dX11_digest_190 rfl rfl ?_
    refine zi_iconst (v := 1) dX11_digest_191 (by decide) ?_
    refine zt_Vi (As := [.int (1 : Int32)]) dX11_digest_192 lk_X11_293 sk72 rfl ⟨⟨by decide, by decide⟩, rfl, rfl⟩ rfl ⟨Nat.le_of_ble_eq_true rfl, rfl, rfl⟩ h (fun y7 S7 L7 h => ?_)
    refine zi_i2l dX11_digest_195 ?_
    refine zi_ladd dX11_digest_196 ?_
    refine zt_nml (fun z4 ez4 => ?_)
    replace h := h z4 ez4
    refine zi_lstore_n dX11_digest_197 rfl (by decide) rfl ?_
    refine zi_iconst (v := 0) dX11_digest_198 (by decide) ?_
    refine zi_istore_n dX11_digest_199 rfl (by decide) rfl ?_
    refine zt_drop (lv' := [some (.ref 72), some (.long z4), none, some (.int (0 : Int32))]) [true, true, false, true] rfl ?_
    exact h
  · replace h := h.2 q9
    refine zi_aload_n dX11_digest_110 rfl rfl ?_
    refine zi_lload_n dX11_digest_111 rfl rfl ?_
    refine zi_iload_n dX11_digest_112 rfl rfl ?_
    refine zt_Vl (As := [.long v1, .int v3]) dX11_digest_113 lk_X11_387 sk72 rfl ⟨⟨by decide, by decide⟩, rfl, rfl⟩ rfl ⟨Nat.le_of_ble_eq_true rfl, rfl, rfl⟩ h (fun y1 S1 L1 h => ?_)
    refine zi_lstore_n dX11_digest_116 rfl (by decide) rfl ?_
    obtain ⟨x1, ex1⟩ : ∃ y : Int32, y = v3 + (1 : Int32) := ⟨_, rfl⟩
    replace h := h x1 ex1
    refine zi_iinc (v := x1) dX11_digest_117 rfl (by rw [ex1]; rfl) (by decide) rfl ?_
    refine zi_goto (tgt := 105) dX11_digest_120 (by decide) ?_
    refine zt_drop (lv' := [some (.ref 72), some (.long y1), none, some (.int x1)]) [true, true, false, true] rfl ?_
    exact h
set_option maxHeartbeats 2000000 in
theorem b_X11_digest_200 {v1 : Int64} {v3 : Int32} {X : Nat × (Nat → Int32)} {S : zS} {L : zL} {P : Int64 → zS → zL → Prop} (h : (((3 : Int32) ≤ v3 → zCi mX11_spareBy S L [.ref 72] (fun y1 S1 L1 => ∀ z1 : Int64, z1 = (((31 : Int64) * v1) + y1.toInt64) → zCi mX11_ofRow S1 L1 [.ref 72, .int y1, .int (0 : Int32)] (fun y2 S2 L2 => ∀ z2 : Int64, z2 = (((31 : Int64) * z1) + y2.toInt64) → zCi mX11_neverNow S2 L2 [.ref 72] (fun y3 S3 L3 => ∀ z3 : Int64, z3 = (((31 : Int64) * z2) + y3.toInt64) → zCi mX11_yearsOf S3 L3 [.ref 72, .int (7 : Int32), .int (9 : Int32), .int (0 : Int32)] (fun y4 S4 L4 => ∀ z4 : Int64, z4 = (((31 : Int64) * z3) + y4.toInt64) → zCi mX11_yearsOf S4 L4 [.ref 72, .int (7 : Int32), .int (9 : Int32), .int (1 : Int32)] (fun y5 S5 L5 => P (((31 : Int64) * z4) + y5.toInt64) S5 L5)))))) ∧ (¬ (3 : Int32) ≤ v3 → zCi mX11_planOf S L [.ref 72, .int (2 : Int32), .int v3] (fun y1 S1 L1 => ∀ z1 : Int64, z1 = (((31 : Int64) * v1) + y1.toInt64) → ∀ x1 : Int32, x1 = v3 + (1 : Int32) → zU mX11_digest X S1 L1 200 [some (.ref 72), some (.long z1), none, some (.int x1)] [] (zpl P))))) : zU mX11_digest X S L 200 [some (.ref 72), some (.long v1), none, some (.int v3)] [] (zpl P) := by
  refine zi_iload_n dX11_digest_200 rfl rfl ?_
  refine zi_iconst (v := 3) dX11_digest_201 (by decide) ?_
  refine zi_icmp_ge (tgt := 225) dX11_digest_202 (by decide) (fun q9 => ?_) (fun q9 => ?_)
  · replace h := h.1 q9
    refine zi_aload_n dX11_digest_225 rfl rfl ?_
    refine zt_Vi (As := []) dX11_digest_226 lk_X11_317 sk72 rfl ⟨⟨by decide, by decide⟩, rfl, rfl⟩ rfl ⟨Nat.le_of_ble_eq_true rfl, rfl, rfl⟩ h (fun y1 S1 L1 h => ?_)
    refine zi_istore_n dX11_digest_229 rfl (by decide) rfl ?_
    refine zi_ldc2 (v := 31) dX11_digest_230 (zme 7 100 (by decide +kernel) rfl) ?_
    refine zi_lload_n dX11_digest_233 rfl rfl ?_
    refine zi_lmul dX11_digest_234 ?_
    refine zi_iload_n dX11_digest_235 rfl rfl ?_
    refine zi_i2l dX11_digest_236 ?_
    refine zi_ladd dX11_digest_237 ?_
    refine zt_nml (fun z1 ez1 => ?_)
    replace h := h z1 ez1
    refine zi_lstore_n dX11_digest_238 rfl (by decide) rfl ?_
    refine zi_ldc2 (v := 31) dX11_digest_239 (zme 7 100 (by decide +kernel) rfl) ?_
    refine zi_lload_n dX11_digest_242 rfl rfl ?_
    refine zi_lmul dX11_digest_243 ?_
    refine zi_aload_n dX11_digest_244 rfl rfl ?_
    refine zi_iload_n dX11_digest_245 rfl rfl ?_
    refine zi_iconst (v := 0) dX11_digest_246 (by decide) ?_
    refine zt_Vi (As := [.int y1, .int (0 : Int32)]) dX11_digest_247 lk_X11_308 sk72 rfl ⟨⟨by decide, by decide⟩, rfl, rfl⟩ rfl ⟨Nat.le_of_ble_eq_true rfl, rfl, rfl⟩ h (fun y2 S2 L2 h => ?_)
    refine zi_i2l dX11_digest_250 ?_
    refine zi_ladd dX11_digest_251 ?_
    refine zt_nml (fun z2 ez2 => ?_)
    replace h := h z2 ez2
    refine zi_lstore_n dX11_digest_252 rfl (by decide) rfl ?_
    refine zi_ldc2 (v := 31) dX11_digest_253 (zme 7 100 (by decide +kernel) rfl) ?_
    refine zi_lload_n dX11_digest_256 rfl rfl ?_
    refine zi_lmul dX11_digest_257 ?_
    refine zi_aload_n dX11_digest_258 rfl rfl ?_
    refine zt_Vi (As := []) dX11_digest_259 lk_X11_330 sk72 rfl ⟨⟨by decide, by decide⟩, rfl, rfl⟩ rfl ⟨Nat.le_of_ble_eq_true rfl, rfl, rfl⟩ h (fun y3 S3 L3 h => ?_)
    refine zi_i2l dX11_digest_262 ?_
    refine zi_ladd dX11_digest_263 ?_
    refine zt_nml (fun z3 ez3 => ?_)
    replace h := h z3 ez3
    refine zi_lstore_n dX11_digest_264 rfl (by decide) rfl ?_
    refine zi_ldc2 (v := 31) dX11_digest_265 (zme 7 100 (by decide +kernel) rfl) ?_
    refine zi_lload_n dX11_digest_268 rfl rfl ?_
    refine zi_lmul dX11_digest_269 ?_
    refine zi_aload_n dX11_digest_270 rfl rfl ?_
    refine zi_bipush (v := 7) dX11_digest_271 (by decide) ?_
    refine zi_bipush (v := 9) dX11_digest_273 (by decide) ?_
    refine zi_iconst (v := 0) dX11_digest_275 (by decide) ?_
    refine zt_Vi (As := [.int (7 : Int32), .int (9 : Int32), .int (0 : Int32)]) dX11_digest_276 lk_X11_352 sk72 rfl ⟨⟨by decide, by decide⟩, rfl, rfl⟩ rfl ⟨Nat.le_of_ble_eq_true rfl, rfl, rfl⟩ h (fun y4 S4 L4 h => ?_)
    refine zi_i2l dX11_digest_279 ?_
    refine zi_ladd dX11_digest_280 ?_
    refine zt_nml (fun z4 ez4 => ?_)
    replace h := h z4 ez4
    refine zi_lstore_n dX11_digest_281 rfl (by decide) rfl ?_
    refine zi_ldc2 (v := 31) dX11_digest_282 (zme 7 100 (by decide +kernel) rfl) ?_
    refine zi_lload_n dX11_digest_285 rfl rfl ?_
    refine zi_lmul dX11_digest_286 ?_
    refine zi_aload_n dX11_digest_287 rfl rfl ?_
    refine zi_bipush (v := 7) dX11_digest_288 (by decide) ?_
    refine zi_bipush (v := 9) dX11_digest_290 (by decide) ?_
    refine zi_iconst (v := 1) dX11_digest_292 (by decide) ?_
    refine zt_Vi (As := [.int (7 : Int32), .int (9 : Int32), .int (1 : Int32)]) dX11_digest_293 lk_X11_352 sk72 rfl ⟨⟨by decide, by decide⟩, rfl, rfl⟩ rfl ⟨Nat.le_of_ble_eq_true rfl, rfl, rfl⟩ h (fun y5 S5 L5 h => ?_)
    refine zi_i2l dX11_digest_296 ?_
    refine zi_ladd dX11_digest_297 ?_
    exact zt_lret dX11_digest_298 rfl h
  · replace h := h.2 q9
    refine zi_ldc2 (v := 31) dX11_digest_205 (zme 7 100 (by decide +kernel) rfl) ?_
    refine zi_lload_n dX11_digest_208 rfl rfl ?_
    refine zi_lmul dX11_digest_209 ?_
    refine zi_aload_n dX11_digest_210 rfl rfl ?_
    refine zi_iconst (v := 2) dX11_digest_211 (by decide) ?_
    refine zi_iload_n dX11_digest_212 rfl rfl ?_
    refine zt_Vi (As := [.int (2 : Int32), .int v3]) dX11_digest_213 lk_X11_299 sk72 rfl ⟨⟨by decide, by decide⟩, rfl, rfl⟩ rfl ⟨Nat.le_of_ble_eq_true rfl, rfl, rfl⟩ h (fun y1 S1 L1 h => ?_)
    refine zi_i2l dX11_digest_216 ?_
    refine zi_ladd dX11_digest_217 ?_
    refine zt_nml (fun z1 ez1 => ?_)
    replace h := h z1 ez1
    refine zi_lstore_n dX11_digest_218 rfl (by decide) rfl ?_
    obtain ⟨x1, ex1⟩ : ∃ y : Int32, y = v3 + (1 : Int32) := ⟨_, rfl⟩
    replace h := h x1 ex1
    refine zi_iinc (v := x1) dX11_digest_219 rfl (by rw [ex1]; rfl) (by decide) rfl ?_
    refine zi_goto (tgt := 200) dX11_digest_222 (by decide) ?_
    refine zt_drop (lv' := [some (.ref 72), some (.long z1), none, some (.int x1)]) [true, true, false, true] rfl ?_
    exact h
theorem e_X11_digest {S : zS} {L : zL} {P : Int64 → zS → zL → Prop} (h : ∀ X, zU mX11_digest X S L 0 [some (.ref 72), none, none, none] [] (zpl P)) : zCl mX11_digest S L [.ref 72] P := zCl_of pn_X11_digest (Nat.le_of_ble_eq_true rfl) (fun X => zt_pad (j := 3) rfl (h X))
