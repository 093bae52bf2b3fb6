set_option maxHeartbeats 2000000 in
theorem b_X11_in_0 {v : Int32} {lo : Int32} {hi : Int32} {X : Nat × (Nat → Int32)} {S : zS} {L : zL} {P : Int32 → zS → zL → Prop} (h : ((v < lo → P (0 : Int32) S L) ∧ (¬ v < lo → ((hi < v → P (0 : Int32) S L) ∧ (¬ hi < v → P (1 : Int32) S L))))) : zU mX11_in X S L 0 [some (.int v), some (.int lo), some (.int hi)] [] (zpi P) := by
  refine zi_iload_n dX11_in_0 rfl rfl ?_
  refine zi_iload_n dX11_in_1 rfl rfl ?_
  refine zi_icmp_lt (tgt := 14) dX11_in_2 (by decide) (fun q9 => ?_) (fun q9 => ?_)
  · replace h := h.1 q9
    refine zi_iconst (v := 0) dX11_in_14 (by decide) ?_
    exact zt_zret (ty := .boolean) dX11_in_15 rfl rfl h
  · replace h := h.2 q9
    refine zi_iload_n dX11_in_5 rfl rfl ?_
    refine zi_iload_n dX11_in_6 rfl rfl ?_
    refine zi_icmp_gt (tgt := 14) dX11_in_7 (by decide) (fun q9 => ?_) (fun q9 => ?_)
    · replace h := h.1 q9
      refine zi_iconst (v := 0) dX11_in_14 (by decide) ?_
      exact zt_zret (ty := .boolean) dX11_in_15 rfl rfl h
    · replace h := h.2 q9
      refine zi_iconst (v := 1) dX11_in_10 (by decide) ?_
      refine zi_goto (tgt := 15) dX11_in_11 (by decide) ?_
      exact zt_zret (ty := .boolean) dX11_in_15 rfl rfl h
theorem e_X11_in {v : Int32} {lo : Int32} {hi : Int32} {S : zS} {L : zL} {P : Int32 → zS → zL → Prop} (h : ∀ X, zU mX11_in X S L 0 [some (.int v), some (.int lo), some (.int hi)] [] (zpi P)) : zCi mX11_in S L [.int v, .int lo, .int hi] P := zCi_of pn_X11_in (Nat.le_of_ble_eq_true rfl) (fun X => zt_pad (j := 0) rfl (h X))
set_option maxHeartbeats 2000000 in
theorem b_X11_isIn_0 {b : Int32} {k : Int32} {X : Nat × (Nat → Int32)} {S : zS} {L : zL} {P : Int32 → zS → zL → Prop} (h : ((¬ ((b >>> (k &&& 31)) &&& (1 : Int32)) = (1 : Int32) → P (0 : Int32) S L) ∧ (((b >>> (k &&& 31)) &&& (1 : Int32)) = (1 : Int32) → P (1 : Int32) S L))) : zU mX11_isIn X S L 0 [some (.int b), some (.int k)] [] (zpi P) := by
  refine zi_iload_n dX11_isIn_0 rfl rfl ?_
  refine zi_iload_n dX11_isIn_1 rfl rfl ?_
  refine zi_ishr dX11_isIn_2 ?_
  refine zi_iconst (v := 1) dX11_isIn_3 (by decide) ?_
  refine zi_iand dX11_isIn_4 ?_
  refine zi_iconst (v := 1) dX11_isIn_5 (by decide) ?_
  refine zi_icmp_ne (tgt := 13) dX11_isIn_6 (by decide) (fun q9 => ?_) (fun q9 => ?_)
  · replace h := h.1 q9
    refine zi_iconst (v := 0) dX11_isIn_13 (by decide) ?_
    exact zt_zret (ty := .boolean) dX11_isIn_14 rfl rfl h
  · replace h := h.2 q9
    refine zi_iconst (v := 1) dX11_isIn_9 (by decide) ?_
    refine zi_goto (tgt := 14) dX11_isIn_10 (by decide) ?_
    exact zt_zret (ty := .boolean) dX11_isIn_14 rfl rfl h
theorem e_X11_isIn {b : Int32} {k : Int32} {S : zS} {L : zL} {P : Int32 → zS → zL → Prop} (h : ∀ X, zU mX11_isIn X S L 0 [some (.int b), some (.int k)] [] (zpi P)) : zCi mX11_isIn S L [.int b, .int k] P := zCi_of pn_X11_isIn (Nat.le_of_ble_eq_true rfl) (fun X => zt_pad (j := 0) rfl (h X))
set_option maxHeartbeats 2000000 in
theorem b_X11_weightOf_0 {what : Int32} {X : Nat × (Nat → Int32)} {S : zS} {L : zL} {P : Int32 → zS → zL → Prop} (h : ((¬ what = 0 → ((¬ what = (1 : Int32) → ((¬ what = (2 : Int32) → P (9 : Int32) S L) ∧ (what = (2 : Int32) → P (4 : Int32) S L))) ∧ (what = (1 : Int32) → P (3 : Int32) S L))) ∧ (what = 0 → P (1 : Int32) S L))) : zU mX11_weightOf X S L 0 [some (.int what)] [] (zpi P) := by
  refine zi_iload_n dX11_weightOf_0 rfl rfl ?_
  refine zi_if_ne (tgt := 8) dX11_weightOf_1 (by decide) (fun q9 => ?_) (fun q9 => ?_)
  · replace h := h.1 q9
    refine zi_iload_n dX11_weightOf_8 rfl rfl ?_
    refine zi_iconst (v := 1) dX11_weightOf_9 (by decide) ?_
    refine zi_icmp_ne (tgt := 17) dX11_weightOf_10 (by decide) (fun q9 => ?_) (fun q9 => ?_)
    · replace h := h.1 q9
      refine zi_iload_n dX11_weightOf_17 rfl rfl ?_
      refine zi_iconst (v := 2) dX11_weightOf_18 (by decide) ?_
      refine zi_icmp_ne (tgt := 26) dX11_weightOf_19 (by decide) (fun q9 => ?_) (fun q9 => ?_)
      · replace h := h.1 q9
        refine zi_bipush (v := 9) dX11_weightOf_26 (by decide) ?_
        exact zt_iret dX11_weightOf_28 rfl h
      · replace h := h.2 q9
        refine zi_iconst (v := 4) dX11_weightOf_22 (by decide) ?_
        refine zi_goto (tgt := 28) dX11_weightOf_23 (by decide) ?_
        exact zt_iret dX11_weightOf_28 rfl h
    · replace h := h.2 q9
      refine zi_iconst (v := 3) dX11_weightOf_13 (by decide) ?_
      refine zi_goto (tgt := 28) dX11_weightOf_14 (by decide) ?_
      exact zt_iret dX11_weightOf_28 rfl h
  · replace h := h.2 q9
    refine zi_iconst (v := 1) dX11_weightOf_4 (by decide) ?_
    refine zi_goto (tgt := 28) dX11_weightOf_5 (by decide) ?_
    exact zt_iret dX11_weightOf_28 rfl h
theorem e_X11_weightOf {what : Int32} {S : zS} {L : zL} {P : Int32 → zS → zL → Prop} (h : ∀ X, zU mX11_weightOf X S L 0 [some (.int what)] [] (zpi P)) : zCi mX11_weightOf S L [.int what] P := zCi_of pn_X11_weightOf (Nat.le_of_ble_eq_true rfl) (fun X => zt_pad (j := 0) rfl (h X))
