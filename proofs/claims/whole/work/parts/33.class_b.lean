set_option maxHeartbeats 2000000 in
theorem b_X10_within_0 {v : Int32} {lo : Int32} {hi : Int32} {X : Nat × (Nat → Int32)} {S : zS} {L : zL} {P : Int32 → zS → zL → Prop} (h : ((v < lo → P (0 : Int32) S L) ∧ (¬ v < lo → ((hi < v → P (0 : Int32) S L) ∧ (¬ hi < v → P (1 : Int32) S L))))) : zU mX10_within X S L 0 [some (.int v), some (.int lo), some (.int hi)] [] (zpi P) := by
  refine zi_iload_n dX10_within_0 rfl rfl ?_
  refine zi_iload_n dX10_within_1 rfl rfl ?_
  refine zi_icmp_lt (tgt := 14) dX10_within_2 (by decide) (fun q9 => ?_) (fun q9 => ?_)
  · replace h := h.1 q9
    refine zi_iconst (v := 0) dX10_within_14 (by decide) ?_
    exact zt_zret (ty := .boolean) dX10_within_15 rfl rfl h
  · replace h := h.2 q9
    refine zi_iload_n dX10_within_5 rfl rfl ?_
    refine zi_iload_n dX10_within_6 rfl rfl ?_
    refine zi_icmp_gt (tgt := 14) dX10_within_7 (by decide) (fun q9 => ?_) (fun q9 => ?_)
    · replace h := h.1 q9
      refine zi_iconst (v := 0) dX10_within_14 (by decide) ?_
      exact zt_zret (ty := .boolean) dX10_within_15 rfl rfl h
    · replace h := h.2 q9
      refine zi_iconst (v := 1) dX10_within_10 (by decide) ?_
      refine zi_goto (tgt := 15) dX10_within_11 (by decide) ?_
      exact zt_zret (ty := .boolean) dX10_within_15 rfl rfl h
theorem e_X10_within {v : Int32} {lo : Int32} {hi : Int32} {S : zS} {L : zL} {P : Int32 → zS → zL → Prop} (h : ∀ X, zU mX10_within X S L 0 [some (.int v), some (.int lo), some (.int hi)] [] (zpi P)) : zCi mX10_within S L [.int v, .int lo, .int hi] P := zCi_of pn_X10_within (Nat.le_of_ble_eq_true rfl) (fun X => zt_pad (j := 0) rfl (h X))
set_option maxHeartbeats 2000000 in
theorem b_X10_textOf_0 {text : Int32} {X : Nat × (Nat → Int32)} {S : zS} {L : zL} {P : Nat → zS → zL → Prop} (h : ((¬ text = 0 → P 3 S L) ∧ (text = 0 → P 1 S L))) : zU mX10_textOf X S L 0 [some (.ref 0), some (.int text)] [] (zpr P) := by
  refine zi_iload_n dX10_textOf_0 rfl rfl ?_
  refine zi_if_ne (tgt := 11) dX10_textOf_1 (by decide) (fun q9 => ?_) (fun q9 => ?_)
  · replace h := h.1 q9
    refine zi_aload_n dX10_textOf_11 rfl rfl ?_
    refine zi_getr fl_X10_30 sk0 rfl dX10_textOf_12 ?_
    exact zt_aret dX10_textOf_15 rfl h
  · replace h := h.2 q9
    refine zi_aload_n dX10_textOf_4 rfl rfl ?_
    refine zi_getr fl_X10_20 sk0 rfl dX10_textOf_5 ?_
    refine zi_goto (tgt := 15) dX10_textOf_8 (by decide) ?_
    exact zt_aret dX10_textOf_15 rfl h
theorem e_X10_textOf {text : Int32} {S : zS} {L : zL} {P : Nat → zS → zL → Prop} (h : ∀ X, zU mX10_textOf X S L 0 [some (.ref 0), some (.int text)] [] (zpr P)) : zCr mX10_textOf S L [.ref 0, .int text] P := zCr_of pn_X10_textOf (Nat.le_of_ble_eq_true rfl) (fun X => zt_pad (j := 0) rfl (h X))
