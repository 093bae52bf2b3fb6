set_option maxHeartbeats 2000000 in
theorem b_X11_runsTold_0 {X : Nat × (Nat → Int32)} {S : zS} {L : zL} {P : zS → zL → Prop} (h : zCv mX11_asTold S L [.ref 72] (fun S1 L1 => zCv mX11_runs S1 L1 [.ref 72] (fun S2 L2 => P S2 L2))) : zU mX11_runsTold X S L 0 [some (.ref 72)] [] (zpv P) := by
  refine zi_aload_n dX11_runsTold_0 rfl rfl ?_
  refine zt_Vv (As := []) dX11_runsTold_1 lk_X11_266 sk72 rfl ⟨⟨by decide, by decide⟩, rfl, rfl⟩ rfl ⟨Nat.le_of_ble_eq_true rfl, rfl, rfl⟩ h (fun S1 L1 h => ?_)
  refine zi_aload_n dX11_runsTold_4 rfl rfl ?_
  refine zt_Vv (As := []) dX11_runsTold_5 lk_X11_269 sk72 rfl ⟨⟨by decide, by decide⟩, rfl, rfl⟩ rfl ⟨Nat.le_of_ble_eq_true rfl, rfl, rfl⟩ h (fun S2 L2 h => ?_)
  exact zt_vret dX11_runsTold_8 rfl h
theorem e_X11_runsTold {S : zS} {L : zL} {P : zS → zL → Prop} (h : ∀ X, zU mX11_runsTold X S L 0 [some (.ref 72)] [] (zpv P)) : zCv mX11_runsTold S L [.ref 72] P := zCv_of pn_X11_runsTold (Nat.le_of_ble_eq_true rfl) (fun X => zt_pad (j := 0) rfl (h X))
set_option maxHeartbeats 2000000 in
theorem b_X11_woolOf_0 {m : Int32} {p : Int32} {what : Int32} {X : Nat × (Nat → Int32)} {S : zS} {L : zL} {P : Int32 → zS → zL → Prop} (h : zCv mX11_runsTold S L [.ref 72] (fun S1 L1 => ((¬ what = 0 → ((¬ what = (1 : Int32) → vp_in (((8 : Int32) * m) + p) 192 ∧ P (S1 97 (((8 : Int32) * m) + p).toNatClampNeg) S1 L1) ∧ (what = (1 : Int32) → vp_in (((8 : Int32) * m) + p) 192 ∧ P (S1 96 (((8 : Int32) * m) + p).toNatClampNeg) S1 L1))) ∧ (what = 0 → vp_in (((8 : Int32) * m) + p) 192 ∧ P (S1 95 (((8 : Int32) * m) + p).toNatClampNeg) S1 L1)))) : zU mX11_woolOf X S L 0 [some (.ref 72), some (.int m), some (.int p), some (.int what)] [] (zpi P) := by
  refine zi_aload_n dX11_woolOf_0 rfl rfl ?_
  refine zt_Vv (As := []) dX11_woolOf_1 lk_X11_272 sk72 rfl ⟨⟨by decide, by decide⟩, rfl, rfl⟩ rfl ⟨Nat.le_of_ble_eq_true rfl, rfl, rfl⟩ h (fun S1 L1 h => ?_)
  refine zi_iload_n dX11_woolOf_4 rfl rfl ?_
  refine zi_if_ne (tgt := 22) dX11_woolOf_5 (by decide) (fun q9 => ?_) (fun q9 => ?_)
  · replace h := h.1 q9
    refine zi_iload_n dX11_woolOf_22 rfl rfl ?_
    refine zi_iconst (v := 1) dX11_woolOf_23 (by decide) ?_
    refine zi_icmp_ne (tgt := 41) dX11_woolOf_24 (by decide) (fun q9 => ?_) (fun q9 => ?_)
    · replace h := h.1 q9
      refine zi_aload_n dX11_woolOf_41 rfl rfl ?_
      refine zi_getr fl_X11_82 sk72 rfl dX11_woolOf_42 ?_
      refine zi_bipush (v := 8) dX11_woolOf_45 (by decide) ?_
      refine zi_iload_n dX11_woolOf_47 rfl rfl ?_
      refine zi_imul dX11_woolOf_48 ?_
      refine zi_iload_n dX11_woolOf_49 rfl rfl ?_
      refine zi_iadd dX11_woolOf_50 ?_
      refine zi_iald sk97 h.1 dX11_woolOf_51 ?_
      replace h := h.2
      exact zt_iret dX11_woolOf_52 rfl h
    · replace h := h.2 q9
      refine zi_aload_n dX11_woolOf_27 rfl rfl ?_
      refine zi_getr fl_X11_79 sk72 rfl dX11_woolOf_28 ?_
      refine zi_bipush (v := 8) dX11_woolOf_31 (by decide) ?_
      refine zi_iload_n dX11_woolOf_33 rfl rfl ?_
      refine zi_imul dX11_woolOf_34 ?_
      refine zi_iload_n dX11_woolOf_35 rfl rfl ?_
      refine zi_iadd dX11_woolOf_36 ?_
      refine zi_iald sk96 h.1 dX11_woolOf_37 ?_
      replace h := h.2
      refine zi_goto (tgt := 52) dX11_woolOf_38 (by decide) ?_
      exact zt_iret dX11_woolOf_52 rfl h
  · replace h := h.2 q9
    refine zi_aload_n dX11_woolOf_8 rfl rfl ?_
    refine zi_getr fl_X11_76 sk72 rfl dX11_woolOf_9 ?_
    refine zi_bipush (v := 8) dX11_woolOf_12 (by decide) ?_
    refine zi_iload_n dX11_woolOf_14 rfl rfl ?_
    refine zi_imul dX11_woolOf_15 ?_
    refine zi_iload_n dX11_woolOf_16 rfl rfl ?_
    refine zi_iadd dX11_woolOf_17 ?_
    refine zi_iald sk95 h.1 dX11_woolOf_18 ?_
    replace h := h.2
    refine zi_goto (tgt := 52) dX11_woolOf_19 (by decide) ?_
    exact zt_iret dX11_woolOf_52 rfl h
theorem e_X11_woolOf {m : Int32} {p : Int32} {what : Int32} {S : zS} {L : zL} {P : Int32 → zS → zL → Prop} (h : ∀ X, zU mX11_woolOf X S L 0 [some (.ref 72), some (.int m), some (.int p), some (.int what)] [] (zpi P)) : zCi mX11_woolOf S L [.ref 72, .int m, .int p, .int what] P := zCi_of pn_X11_woolOf (Nat.le_of_ble_eq_true rfl) (fun X => zt_pad (j := 0) rfl (h X))
set_option maxHeartbeats 2000000 in
theorem b_X11_wool_0 {m : Int32} {p : Int32} {what : Int32} {X : Nat × (Nat → Int32)} {S : zS} {L : zL} {P : Int32 → zS → zL → Prop} (h : ((((0 : Int32) ≤ m ∧ m ≤ (23 : Int32)) → zCi mX11_isPerson S L [.ref 72, .int p] (fun y2 S1 L1 => ((y2 = 0 → P (-2 : Int32) S1 L1) ∧ (¬ y2 = 0 → ((((0 : Int32) ≤ what ∧ what ≤ (2 : Int32)) → zCi mX11_woolOf S1 L1 [.ref 72, .int m, .int p, .int what] (fun y4 S2 L2 => P y4 S2 L2)) ∧ (¬ ((0 : Int32) ≤ what ∧ what ≤ (2 : Int32)) → P (-2 : Int32) S1 L1)))))) ∧ (¬ ((0 : Int32) ≤ m ∧ m ≤ (23 : Int32)) → P (-2 : Int32) S L))) : zU mX11_wool X S L 0 [some (.ref 72), some (.int m), some (.int p), some (.int what)] [] (zpi P) := by
  refine zi_iload_n dX11_wool_0 rfl rfl ?_
  refine zt_Si (As := [.int m]) dX11_wool_1 lk_X11_186 ⟨⟨by decide, by decide⟩, rfl, rfl⟩ rfl ⟨Nat.le_of_ble_eq_true rfl, rfl, rfl⟩ (isMonth_s (P := fun y S9 L9 => y = (if ((0 : Int32) ≤ m ∧ m ≤ (23 : Int32)) then (1 : Int32) else 0) ∧ S = S9 ∧ L = L9) ⟨rfl, rfl, rfl⟩) (fun y1 S9 L9 q9 => ?_)
  obtain ⟨ey1, rfl, rfl⟩ := q9
  by_cases q9 : ((0 : Int32) ≤ m ∧ m ≤ (23 : Int32))
  · replace h := h.1 q9
    rw [if_pos q9] at ey1
    subst ey1
    refine zi_if_eq (tgt := 34) dX11_wool_4 (by decide) (fun z9 => absurd z9 (by decide)) (fun _ => ?_)
    refine zi_aload_n dX11_wool_7 rfl rfl ?_
    refine zi_iload_n dX11_wool_8 rfl rfl ?_
    refine zt_Vi (As := [.int p]) dX11_wool_9 lk_X11_174 sk72 rfl ⟨⟨by decide, by decide⟩, rfl, rfl⟩ rfl ⟨Nat.le_of_ble_eq_true rfl, rfl, rfl⟩ h (fun y2 S1 L1 h => ?_)
    refine zi_if_eq (tgt := 34) dX11_wool_12 (by decide) (fun q9 => ?_) (fun q9 => ?_)
    · replace h := h.1 q9
      refine zi_bipush (v := -2) dX11_wool_34 (by decide) ?_
      exact zt_iret dX11_wool_36 rfl h
    · replace h := h.2 q9
      refine zi_iload_n dX11_wool_15 rfl rfl ?_
      refine zi_iconst (v := 0) dX11_wool_16 (by decide) ?_
      refine zi_iconst (v := 2) dX11_wool_17 (by decide) ?_
      refine zt_Si (As := [.int what, .int (0 : Int32), .int (2 : Int32)]) dX11_wool_18 lk_X11_140 ⟨⟨by decide, by decide⟩, rfl, rfl⟩ rfl ⟨Nat.le_of_ble_eq_true rfl, rfl, rfl⟩ (in_s (P := fun y S9 L9 => y = (if ((0 : Int32) ≤ what ∧ what ≤ (2 : Int32)) then (1 : Int32) else 0) ∧ S1 = S9 ∧ L1 = L9) ⟨rfl, rfl, rfl⟩) (fun y3 S9 L9 q9 => ?_)
      obtain ⟨ey3, rfl, rfl⟩ := q9
      by_cases q9 : ((0 : Int32) ≤ what ∧ what ≤ (2 : Int32))
      · replace h := h.1 q9
        rw [if_pos q9] at ey3
        subst ey3
        refine zi_if_eq (tgt := 34) dX11_wool_21 (by decide) (fun z9 => absurd z9 (by decide)) (fun _ => ?_)
        refine zi_aload_n dX11_wool_24 rfl rfl ?_
        refine zi_iload_n dX11_wool_25 rfl rfl ?_
        refine zi_iload_n dX11_wool_26 rfl rfl ?_
        refine zi_iload_n dX11_wool_27 rfl rfl ?_
        refine zt_Vi (As := [.int m, .int p, .int what]) dX11_wool_28 lk_X11_275 sk72 rfl ⟨⟨by decide, by decide⟩, rfl, rfl⟩ rfl ⟨Nat.le_of_ble_eq_true rfl, rfl, rfl⟩ h (fun y4 S2 L2 h => ?_)
        refine zi_goto (tgt := 36) dX11_wool_31 (by decide) ?_
        exact zt_iret dX11_wool_36 rfl h
      · replace h := h.2 q9
        rw [if_neg q9] at ey3
        subst ey3
        refine zi_if_eq (tgt := 34) dX11_wool_21 (by decide) (fun _ => ?_) (fun z9 => absurd rfl z9)
        refine zi_bipush (v := -2) dX11_wool_34 (by decide) ?_
        exact zt_iret dX11_wool_36 rfl h
  · replace h := h.2 q9
    rw [if_neg q9] at ey1
    subst ey1
    refine zi_if_eq (tgt := 34) dX11_wool_4 (by decide) (fun _ => ?_) (fun z9 => absurd rfl z9)
    refine zi_bipush (v := -2) dX11_wool_34 (by decide) ?_
    exact zt_iret dX11_wool_36 rfl h
theorem e_X11_wool {m : Int32} {p : Int32} {what : Int32} {S : zS} {L : zL} {P : Int32 → zS → zL → Prop} (h : ∀ X, zU mX11_wool X S L 0 [some (.ref 72), some (.int m), some (.int p), some (.int what)] [] (zpi P)) : zCi mX11_wool S L [.ref 72, .int m, .int p, .int what] P := zCi_of pn_X11_wool (Nat.le_of_ble_eq_true rfl) (fun X => zt_pad (j := 0) rfl (h X))
set_option maxHeartbeats 2000000 in
theorem b_X11_diesOf_0 {p : Int32} {X : Nat × (Nat → Int32)} {S : zS} {L : zL} {P : Int32 → zS → zL → Prop} (h : zCv mX11_runsTold S L [.ref 72] (fun S1 L1 => vp_in p 8 ∧ P (S1 92 p.toNatClampNeg) S1 L1)) : zU mX11_diesOf X S L 0 [some (.ref 72), some (.int p)] [] (zpi P) := by
  refine zi_aload_n dX11_diesOf_0 rfl rfl ?_
  refine zt_Vv (As := []) dX11_diesOf_1 lk_X11_272 sk72 rfl ⟨⟨by decide, by decide⟩, rfl, rfl⟩ rfl ⟨Nat.le_of_ble_eq_true rfl, rfl, rfl⟩ h (fun S1 L1 h => ?_)
  refine zi_aload_n dX11_diesOf_4 rfl rfl ?_
  refine zi_getr fl_X11_67 sk72 rfl dX11_diesOf_5 ?_
  refine zi_iload_n dX11_diesOf_8 rfl rfl ?_
  refine zi_iald sk92 h.1 dX11_diesOf_9 ?_
  replace h := h.2
  exact zt_iret dX11_diesOf_10 rfl h
theorem e_X11_diesOf {p : Int32} {S : zS} {L : zL} {P : Int32 → zS → zL → Prop} (h : ∀ X, zU mX11_diesOf X S L 0 [some (.ref 72), some (.int p)] [] (zpi P)) : zCi mX11_diesOf S L [.ref 72, .int p] P := zCi_of pn_X11_diesOf (Nat.le_of_ble_eq_true rfl) (fun X => zt_pad (j := 0) rfl (h X))
set_option maxHeartbeats 2000000 in
theorem b_X11_dies_0 {p : Int32} {X : Nat × (Nat → Int32)} {S : zS} {L : zL} {P : Int32 → zS → zL → Prop} (h : zCi mX11_isPerson S L [.ref 72, .int p] (fun y1 S1 L1 => ((y1 = 0 → P (-2 : Int32) S1 L1) ∧ (¬ y1 = 0 → zCi mX11_diesOf S1 L1 [.ref 72, .int p] (fun y2 S2 L2 => P y2 S2 L2))))) : zU mX11_dies X S L 0 [some (.ref 72), some (.int p)] [] (zpi P) := by
  refine zi_aload_n dX11_dies_0 rfl rfl ?_
  refine zi_iload_n dX11_dies_1 rfl rfl ?_
  refine zt_Vi (As := [.int p]) dX11_dies_2 lk_X11_174 sk72 rfl ⟨⟨by decide, by decide⟩, rfl, rfl⟩ rfl ⟨Nat.le_of_ble_eq_true rfl, rfl, rfl⟩ h (fun y1 S1 L1 h => ?_)
  refine zi_if_eq (tgt := 16) dX11_dies_5 (by decide) (fun q9 => ?_) (fun q9 => ?_)
  · replace h := h.1 q9
    refine zi_bipush (v := -2) dX11_dies_16 (by decide) ?_
    exact zt_iret dX11_dies_18 rfl h
  · replace h := h.2 q9
    refine zi_aload_n dX11_dies_8 rfl rfl ?_
    refine zi_iload_n dX11_dies_9 rfl rfl ?_
    refine zt_Vi (As := [.int p]) dX11_dies_10 lk_X11_278 sk72 rfl ⟨⟨by decide, by decide⟩, rfl, rfl⟩ rfl ⟨Nat.le_of_ble_eq_true rfl, rfl, rfl⟩ h (fun y2 S2 L2 h => ?_)
    refine zi_goto (tgt := 18) dX11_dies_13 (by decide) ?_
    exact zt_iret dX11_dies_18 rfl h
theorem e_X11_dies {p : Int32} {S : zS} {L : zL} {P : Int32 → zS → zL → Prop} (h : ∀ X, zU mX11_dies X S L 0 [some (.ref 72), some (.int p)] [] (zpi P)) : zCi mX11_dies S L [.ref 72, .int p] P := zCi_of pn_X11_dies (Nat.le_of_ble_eq_true rfl) (fun X => zt_pad (j := 0) rfl (h X))
set_option maxHeartbeats 2000000 in
theorem b_X11_clothOf_0 {m : Int32} {c : Int32} {what : Int32} {X : Nat × (Nat → Int32)} {S : zS} {L : zL} {P : Int32 → zS → zL → Prop} (h : zCv mX11_runsTold S L [.ref 72] (fun S1 L1 => ((¬ what = 0 → vp_in (((4 : Int32) * m) + c) 96 ∧ P (S1 101 (((4 : Int32) * m) + c).toNatClampNeg) S1 L1) ∧ (what = 0 → vp_in (((4 : Int32) * m) + c) 96 ∧ P (S1 100 (((4 : Int32) * m) + c).toNatClampNeg) S1 L1)))) : zU mX11_clothOf X S L 0 [some (.ref 72), some (.int m), some (.int c), some (.int what)] [] (zpi P) := by
  refine zi_aload_n dX11_clothOf_0 rfl rfl ?_
  refine zt_Vv (As := []) dX11_clothOf_1 lk_X11_272 sk72 rfl ⟨⟨by decide, by decide⟩, rfl, rfl⟩ rfl ⟨Nat.le_of_ble_eq_true rfl, rfl, rfl⟩ h (fun S1 L1 h => ?_)
  refine zi_iload_n dX11_clothOf_4 rfl rfl ?_
  refine zi_if_ne (tgt := 21) dX11_clothOf_5 (by decide) (fun q9 => ?_) (fun q9 => ?_)
  · replace h := h.1 q9
    refine zi_aload_n dX11_clothOf_21 rfl rfl ?_
    refine zi_getr fl_X11_94 sk72 rfl dX11_clothOf_22 ?_
    refine zi_iconst (v := 4) dX11_clothOf_25 (by decide) ?_
    refine zi_iload_n dX11_clothOf_26 rfl rfl ?_
    refine zi_imul dX11_clothOf_27 ?_
    refine zi_iload_n dX11_clothOf_28 rfl rfl ?_
    refine zi_iadd dX11_clothOf_29 ?_
    refine zi_iald sk101 h.1 dX11_clothOf_30 ?_
    replace h := h.2
    exact zt_iret dX11_clothOf_31 rfl h
  · replace h := h.2 q9
    refine zi_aload_n dX11_clothOf_8 rfl rfl ?_
    refine zi_getr fl_X11_91 sk72 rfl dX11_clothOf_9 ?_
    refine zi_iconst (v := 4) dX11_clothOf_12 (by decide) ?_
    refine zi_iload_n dX11_clothOf_13 rfl rfl ?_
    refine zi_imul dX11_clothOf_14 ?_
    refine zi_iload_n dX11_clothOf_15 rfl rfl ?_
    refine zi_iadd dX11_clothOf_16 ?_
    refine zi_iald sk100 h.1 dX11_clothOf_17 ?_
    replace h := h.2
    refine zi_goto (tgt := 31) dX11_clothOf_18 (by decide) ?_
    exact zt_iret dX11_clothOf_31 rfl h
theorem e_X11_clothOf {m : Int32} {c : Int32} {what : Int32} {S : zS} {L : zL} {P : Int32 → zS → zL → Prop} (h : ∀ X, zU mX11_clothOf X S L 0 [some (.ref 72), some (.int m), some (.int c), some (.int what)] [] (zpi P)) : zCi mX11_clothOf S L [.ref 72, .int m, .int c, .int what] P := zCi_of pn_X11_clothOf (Nat.le_of_ble_eq_true rfl) (fun X => zt_pad (j := 0) rfl (h X))
set_option maxHeartbeats 2000000 in
theorem b_X11_cloth_0 {m : Int32} {c : Int32} {what : Int32} {X : Nat × (Nat → Int32)} {S : zS} {L : zL} {P : Int32 → zS → zL → Prop} (h : ((((0 : Int32) ≤ m ∧ m ≤ (23 : Int32)) → ((((0 : Int32) ≤ c ∧ c ≤ (3 : Int32)) → ((((0 : Int32) ≤ what ∧ what ≤ (1 : Int32)) → zCi mX11_clothOf S L [.ref 72, .int m, .int c, .int what] (fun y4 S1 L1 => P y4 S1 L1)) ∧ (¬ ((0 : Int32) ≤ what ∧ what ≤ (1 : Int32)) → P (-2 : Int32) S L))) ∧ (¬ ((0 : Int32) ≤ c ∧ c ≤ (3 : Int32)) → P (-2 : Int32) S L))) ∧ (¬ ((0 : Int32) ≤ m ∧ m ≤ (23 : Int32)) → P (-2 : Int32) S L))) : zU mX11_cloth X S L 0 [some (.ref 72), some (.int m), some (.int c), some (.int what)] [] (zpi P) := by
  refine zi_iload_n dX11_cloth_0 rfl rfl ?_
  refine zt_Si (As := [.int m]) dX11_cloth_1 lk_X11_186 ⟨⟨by decide, by decide⟩, rfl, rfl⟩ rfl ⟨Nat.le_of_ble_eq_true rfl, rfl, rfl⟩ (isMonth_s (P := fun y S9 L9 => y = (if ((0 : Int32) ≤ m ∧ m ≤ (23 : Int32)) then (1 : Int32) else 0) ∧ S = S9 ∧ L = L9) ⟨rfl, rfl, rfl⟩) (fun y1 S9 L9 q9 => ?_)
  obtain ⟨ey1, rfl, rfl⟩ := q9
  by_cases q9 : ((0 : Int32) ≤ m ∧ m ≤ (23 : Int32))
  · replace h := h.1 q9
    rw [if_pos q9] at ey1
    subst ey1
    refine zi_if_eq (tgt := 33) dX11_cloth_4 (by decide) (fun z9 => absurd z9 (by decide)) (fun _ => ?_)
    refine zi_iload_n dX11_cloth_7 rfl rfl ?_
    refine zt_Si (As := [.int c]) dX11_cloth_8 lk_X11_189 ⟨⟨by decide, by decide⟩, rfl, rfl⟩ rfl ⟨Nat.le_of_ble_eq_true rfl, rfl, rfl⟩ (isCounty_s (P := fun y S9 L9 => y = (if ((0 : Int32) ≤ c ∧ c ≤ (3 : Int32)) then (1 : Int32) else 0) ∧ S = S9 ∧ L = L9) ⟨rfl, rfl, rfl⟩) (fun y2 S9 L9 q9 => ?_)
    obtain ⟨ey2, rfl, rfl⟩ := q9
    by_cases q9 : ((0 : Int32) ≤ c ∧ c ≤ (3 : Int32))
    · replace h := h.1 q9
      rw [if_pos q9] at ey2
      subst ey2
      refine zi_if_eq (tgt := 33) dX11_cloth_11 (by decide) (fun z9 => absurd z9 (by decide)) (fun _ => ?_)
      refine zi_iload_n dX11_cloth_14 rfl rfl ?_
      refine zi_iconst (v := 0) dX11_cloth_15 (by decide) ?_
      refine zi_iconst (v := 1) dX11_cloth_16 (by decide) ?_
      refine zt_Si (As := [.int what, .int (0 : Int32), .int (1 : Int32)]) dX11_cloth_17 lk_X11_140 ⟨⟨by decide, by decide⟩, rfl, rfl⟩ rfl ⟨Nat.le_of_ble_eq_true rfl, rfl, rfl⟩ (in_s (P := fun y S9 L9 => y = (if ((0 : Int32) ≤ what ∧ what ≤ (1 : Int32)) then (1 : Int32) else 0) ∧ S = S9 ∧ L = L9) ⟨rfl, rfl, rfl⟩) (fun y3 S9 L9 q9 => ?_)
      obtain ⟨ey3, rfl, rfl⟩ := q9
      by_cases q9 : ((0 : Int32) ≤ what ∧ what ≤ (1 : Int32))
      · replace h := h.1 q9
        rw [if_pos q9] at ey3
        subst ey3
        refine zi_if_eq (tgt := 33) dX11_cloth_20 (by decide) (fun z9 => absurd z9 (by decide)) (fun _ => ?_)
        refine zi_aload_n dX11_cloth_23 rfl rfl ?_
        refine zi_iload_n dX11_cloth_24 rfl rfl ?_
        refine zi_iload_n dX11_cloth_25 rfl rfl ?_
        refine zi_iload_n dX11_cloth_26 rfl rfl ?_
        refine zt_Vi (As := [.int m, .int c, .int what]) dX11_cloth_27 lk_X11_281 sk72 rfl ⟨⟨by decide, by decide⟩, rfl, rfl⟩ rfl ⟨Nat.le_of_ble_eq_true rfl, rfl, rfl⟩ h (fun y4 S1 L1 h => ?_)
        refine zi_goto (tgt := 35) dX11_cloth_30 (by decide) ?_
        exact zt_iret dX11_cloth_35 rfl h
      · replace h := h.2 q9
        rw [if_neg q9] at ey3
        subst ey3
        refine zi_if_eq (tgt := 33) dX11_cloth_20 (by decide) (fun _ => ?_) (fun z9 => absurd rfl z9)
        refine zi_bipush (v := -2) dX11_cloth_33 (by decide) ?_
        exact zt_iret dX11_cloth_35 rfl h
    · replace h := h.2 q9
      rw [if_neg q9] at ey2
      subst ey2
      refine zi_if_eq (tgt := 33) dX11_cloth_11 (by decide) (fun _ => ?_) (fun z9 => absurd rfl z9)
      refine zi_bipush (v := -2) dX11_cloth_33 (by decide) ?_
      exact zt_iret dX11_cloth_35 rfl h
  · replace h := h.2 q9
    rw [if_neg q9] at ey1
    subst ey1
    refine zi_if_eq (tgt := 33) dX11_cloth_4 (by decide) (fun _ => ?_) (fun z9 => absurd rfl z9)
    refine zi_bipush (v := -2) dX11_cloth_33 (by decide) ?_
    exact zt_iret dX11_cloth_35 rfl h
theorem e_X11_cloth {m : Int32} {c : Int32} {what : Int32} {S : zS} {L : zL} {P : Int32 → zS → zL → Prop} (h : ∀ X, zU mX11_cloth X S L 0 [some (.ref 72), some (.int m), some (.int c), some (.int what)] [] (zpi P)) : zCi mX11_cloth S L [.ref 72, .int m, .int c, .int what] P := zCi_of pn_X11_cloth (Nat.le_of_ble_eq_true rfl) (fun X => zt_pad (j := 0) rfl (h X))
set_option maxHeartbeats 2000000 in
theorem b_X11_thornOf_0 {m : Int32} {X : Nat × (Nat → Int32)} {S : zS} {L : zL} {P : Int32 → zS → zL → Prop} (h : zCv mX11_runsTold S L [.ref 72] (fun S1 L1 => vp_in m 24 ∧ P (S1 98 m.toNatClampNeg) S1 L1)) : zU mX11_thornOf X S L 0 [some (.ref 72), some (.int m)] [] (zpi P) := by
  refine zi_aload_n dX11_thornOf_0 rfl rfl ?_
  refine zt_Vv (As := []) dX11_thornOf_1 lk_X11_272 sk72 rfl ⟨⟨by decide, by decide⟩, rfl, rfl⟩ rfl ⟨Nat.le_of_ble_eq_true rfl, rfl, rfl⟩ h (fun S1 L1 h => ?_)
  refine zi_aload_n dX11_thornOf_4 rfl rfl ?_
  refine zi_getr fl_X11_85 sk72 rfl dX11_thornOf_5 ?_
  refine zi_iload_n dX11_thornOf_8 rfl rfl ?_
  refine zi_iald sk98 h.1 dX11_thornOf_9 ?_
  replace h := h.2
  exact zt_iret dX11_thornOf_10 rfl h
theorem e_X11_thornOf {m : Int32} {S : zS} {L : zL} {P : Int32 → zS → zL → Prop} (h : ∀ X, zU mX11_thornOf X S L 0 [some (.ref 72), some (.int m)] [] (zpi P)) : zCi mX11_thornOf S L [.ref 72, .int m] P := zCi_of pn_X11_thornOf (Nat.le_of_ble_eq_true rfl) (fun X => zt_pad (j := 0) rfl (h X))
set_option maxHeartbeats 2000000 in
theorem b_X11_thorn_0 {m : Int32} {X : Nat × (Nat → Int32)} {S : zS} {L : zL} {P : Int32 → zS → zL → Prop} (h : ((((0 : Int32) ≤ m ∧ m ≤ (23 : Int32)) → zCi mX11_thornOf S L [.ref 72, .int m] (fun y2 S1 L1 => P y2 S1 L1)) ∧ (¬ ((0 : Int32) ≤ m ∧ m ≤ (23 : Int32)) → P (-2 : Int32) S L))) : zU mX11_thorn X S L 0 [some (.ref 72), some (.int m)] [] (zpi P) := by
  refine zi_iload_n dX11_thorn_0 rfl rfl ?_
  refine zt_Si (As := [.int m]) dX11_thorn_1 lk_X11_186 ⟨⟨by decide, by decide⟩, rfl, rfl⟩ rfl ⟨Nat.le_of_ble_eq_true rfl, rfl, rfl⟩ (isMonth_s (P := fun y S9 L9 => y = (if ((0 : Int32) ≤ m ∧ m ≤ (23 : Int32)) then (1 : Int32) else 0) ∧ S = S9 ∧ L = L9) ⟨rfl, rfl, rfl⟩) (fun y1 S9 L9 q9 => ?_)
  obtain ⟨ey1, rfl, rfl⟩ := q9
  by_cases q9 : ((0 : Int32) ≤ m ∧ m ≤ (23 : Int32))
  · replace h := h.1 q9
    rw [if_pos q9] at ey1
    subst ey1
    refine zi_if_eq (tgt := 15) dX11_thorn_4 (by decide) (fun z9 => absurd z9 (by decide)) (fun _ => ?_)
    refine zi_aload_n dX11_thorn_7 rfl rfl ?_
    refine zi_iload_n dX11_thorn_8 rfl rfl ?_
    refine zt_Vi (As := [.int m]) dX11_thorn_9 lk_X11_284 sk72 rfl ⟨⟨by decide, by decide⟩, rfl, rfl⟩ rfl ⟨Nat.le_of_ble_eq_true rfl, rfl, rfl⟩ h (fun y2 S1 L1 h => ?_)
    refine zi_goto (tgt := 17) dX11_thorn_12 (by decide) ?_
    exact zt_iret dX11_thorn_17 rfl h
  · replace h := h.2 q9
    rw [if_neg q9] at ey1
    subst ey1
    refine zi_if_eq (tgt := 15) dX11_thorn_4 (by decide) (fun _ => ?_) (fun z9 => absurd rfl z9)
    refine zi_bipush (v := -2) dX11_thorn_15 (by decide) ?_
    exact zt_iret dX11_thorn_17 rfl h
theorem e_X11_thorn {m : Int32} {S : zS} {L : zL} {P : Int32 → zS → zL → Prop} (h : ∀ X, zU mX11_thorn X S L 0 [some (.ref 72), some (.int m)] [] (zpi P)) : zCi mX11_thorn S L [.ref 72, .int m] P := zCi_of pn_X11_thorn (Nat.le_of_ble_eq_true rfl) (fun X => zt_pad (j := 0) rfl (h X))
set_option maxHeartbeats 2000000 in
theorem b_X11_taxOf_0 {w : Int32} {X : Nat × (Nat → Int32)} {S : zS} {L : zL} {P : Int32 → zS → zL → Prop} (h : zCv mX11_runsTold S L [.ref 72] (fun S1 L1 => vp_in w 2 ∧ P (S1 102 w.toNatClampNeg) S1 L1)) : zU mX11_taxOf X S L 0 [some (.ref 72), some (.int w)] [] (zpi P) := by
  refine zi_aload_n dX11_taxOf_0 rfl rfl ?_
  refine zt_Vv (As := []) dX11_taxOf_1 lk_X11_272 sk72 rfl ⟨⟨by decide, by decide⟩, rfl, rfl⟩ rfl ⟨Nat.le_of_ble_eq_true rfl, rfl, rfl⟩ h (fun S1 L1 h => ?_)
  refine zi_aload_n dX11_taxOf_4 rfl rfl ?_
  refine zi_getr fl_X11_97 sk72 rfl dX11_taxOf_5 ?_
  refine zi_iload_n dX11_taxOf_8 rfl rfl ?_
  refine zi_iald sk102 h.1 dX11_taxOf_9 ?_
  replace h := h.2
  exact zt_iret dX11_taxOf_10 rfl h
theorem e_X11_taxOf {w : Int32} {S : zS} {L : zL} {P : Int32 → zS → zL → Prop} (h : ∀ X, zU mX11_taxOf X S L 0 [some (.ref 72), some (.int w)] [] (zpi P)) : zCi mX11_taxOf S L [.ref 72, .int w] P := zCi_of pn_X11_taxOf (Nat.le_of_ble_eq_true rfl) (fun X => zt_pad (j := 0) rfl (h X))
set_option maxHeartbeats 2000000 in
theorem b_X11_tax_0 {w : Int32} {X : Nat × (Nat → Int32)} {S : zS} {L : zL} {P : Int32 → zS → zL → Prop} (h : ((((0 : Int32) ≤ w ∧ w ≤ (1 : Int32)) → zCi mX11_taxOf S L [.ref 72, .int w] (fun y2 S1 L1 => P y2 S1 L1)) ∧ (¬ ((0 : Int32) ≤ w ∧ w ≤ (1 : Int32)) → P (-2 : Int32) S L))) : zU mX11_tax X S L 0 [some (.ref 72), some (.int w)] [] (zpi P) := by
  refine zi_iload_n dX11_tax_0 rfl rfl ?_
  refine zi_iconst (v := 0) dX11_tax_1 (by decide) ?_
  refine zi_iconst (v := 1) dX11_tax_2 (by decide) ?_
  refine zt_Si (As := [.int w, .int (0 : Int32), .int (1 : Int32)]) dX11_tax_3 lk_X11_140 ⟨⟨by decide, by decide⟩, rfl, rfl⟩ rfl ⟨Nat.le_of_ble_eq_true rfl, rfl, rfl⟩ (in_s (P := fun y S9 L9 => y = (if ((0 : Int32) ≤ w ∧ w ≤ (1 : Int32)) then (1 : Int32) else 0) ∧ S = S9 ∧ L = L9) ⟨rfl, rfl, rfl⟩) (fun y1 S9 L9 q9 => ?_)
  obtain ⟨ey1, rfl, rfl⟩ := q9
  by_cases q9 : ((0 : Int32) ≤ w ∧ w ≤ (1 : Int32))
  · replace h := h.1 q9
    rw [if_pos q9] at ey1
    subst ey1
    refine zi_if_eq (tgt := 17) dX11_tax_6 (by decide) (fun z9 => absurd z9 (by decide)) (fun _ => ?_)
    refine zi_aload_n dX11_tax_9 rfl rfl ?_
    refine zi_iload_n dX11_tax_10 rfl rfl ?_
    refine zt_Vi (As := [.int w]) dX11_tax_11 lk_X11_287 sk72 rfl ⟨⟨by decide, by decide⟩, rfl, rfl⟩ rfl ⟨Nat.le_of_ble_eq_true rfl, rfl, rfl⟩ h (fun y2 S1 L1 h => ?_)
    refine zi_goto (tgt := 19) dX11_tax_14 (by decide) ?_
    exact zt_iret dX11_tax_19 rfl h
  · replace h := h.2 q9
    rw [if_neg q9] at ey1
    subst ey1
    refine zi_if_eq (tgt := 17) dX11_tax_6 (by decide) (fun _ => ?_) (fun z9 => absurd rfl z9)
    refine zi_bipush (v := -2) dX11_tax_17 (by decide) ?_
    exact zt_iret dX11_tax_19 rfl h
theorem e_X11_tax {w : Int32} {S : zS} {L : zL} {P : Int32 → zS → zL → Prop} (h : ∀ X, zU mX11_tax X S L 0 [some (.ref 72), some (.int w)] [] (zpi P)) : zCi mX11_tax S L [.ref 72, .int w] P := zCi_of pn_X11_tax (Nat.le_of_ble_eq_true rfl) (fun X => zt_pad (j := 0) rfl (h X))
set_option maxHeartbeats 2000000 in
theorem b_X11_heaviestOf_0 {m : Int32} {X : Nat × (Nat → Int32)} {S : zS} {L : zL} {P : Int32 → zS → zL → Prop} (h : zCv mX11_runsTold S L [.ref 72] (fun S1 L1 => vp_in m 24 ∧ P (S1 99 m.toNatClampNeg) S1 L1)) : zU mX11_heaviestOf X S L 0 [some (.ref 72), some (.int m)] [] (zpi P) := by
  refine zi_aload_n dX11_heaviestOf_0 rfl rfl ?_
  refine zt_Vv (As := []) dX11_heaviestOf_1 lk_X11_272 sk72 rfl ⟨⟨by decide, by decide⟩, rfl, rfl⟩ rfl ⟨Nat.le_of_ble_eq_true rfl, rfl, rfl⟩ h (fun S1 L1 h => ?_)
  refine zi_aload_n dX11_heaviestOf_4 rfl rfl ?_
  refine zi_getr fl_X11_88 sk72 rfl dX11_heaviestOf_5 ?_
  refine zi_iload_n dX11_heaviestOf_8 rfl rfl ?_
  refine zi_iald sk99 h.1 dX11_heaviestOf_9 ?_
  replace h := h.2
  exact zt_iret dX11_heaviestOf_10 rfl h
theorem e_X11_heaviestOf {m : Int32} {S : zS} {L : zL} {P : Int32 → zS → zL → Prop} (h : ∀ X, zU mX11_heaviestOf X S L 0 [some (.ref 72), some (.int m)] [] (zpi P)) : zCi mX11_heaviestOf S L [.ref 72, .int m] P := zCi_of pn_X11_heaviestOf (Nat.le_of_ble_eq_true rfl) (fun X => zt_pad (j := 0) rfl (h X))
set_option maxHeartbeats 2000000 in
theorem b_X11_heaviest_0 {m : Int32} {X : Nat × (Nat → Int32)} {S : zS} {L : zL} {P : Int32 → zS → zL → Prop} (h : ((((0 : Int32) ≤ m ∧ m ≤ (23 : Int32)) → zCi mX11_heaviestOf S L [.ref 72, .int m] (fun y2 S1 L1 => P y2 S1 L1)) ∧ (¬ ((0 : Int32) ≤ m ∧ m ≤ (23 : Int32)) → P (-2 : Int32) S L))) : zU mX11_heaviest X S L 0 [some (.ref 72), some (.int m)] [] (zpi P) := by
  refine zi_iload_n dX11_heaviest_0 rfl rfl ?_
  refine zt_Si (As := [.int m]) dX11_heaviest_1 lk_X11_186 ⟨⟨by decide, by decide⟩, rfl, rfl⟩ rfl ⟨Nat.le_of_ble_eq_true rfl, rfl, rfl⟩ (isMonth_s (P := fun y S9 L9 => y = (if ((0 : Int32) ≤ m ∧ m ≤ (23 : Int32)) then (1 : Int32) else 0) ∧ S = S9 ∧ L = L9) ⟨rfl, rfl, rfl⟩) (fun y1 S9 L9 q9 => ?_)
  obtain ⟨ey1, rfl, rfl⟩ := q9
  by_cases q9 : ((0 : Int32) ≤ m ∧ m ≤ (23 : Int32))
  · replace h := h.1 q9
    rw [if_pos q9] at ey1
    subst ey1
    refine zi_if_eq (tgt := 15) dX11_heaviest_4 (by decide) (fun z9 => absurd z9 (by decide)) (fun _ => ?_)
    refine zi_aload_n dX11_heaviest_7 rfl rfl ?_
    refine zi_iload_n dX11_heaviest_8 rfl rfl ?_
    refine zt_Vi (As := [.int m]) dX11_heaviest_9 lk_X11_290 sk72 rfl ⟨⟨by decide, by decide⟩, rfl, rfl⟩ rfl ⟨Nat.le_of_ble_eq_true rfl, rfl, rfl⟩ h (fun y2 S1 L1 h => ?_)
    refine zi_goto (tgt := 17) dX11_heaviest_12 (by decide) ?_
    exact zt_iret dX11_heaviest_17 rfl h
  · replace h := h.2 q9
    rw [if_neg q9] at ey1
    subst ey1
    refine zi_if_eq (tgt := 15) dX11_heaviest_4 (by decide) (fun _ => ?_) (fun z9 => absurd rfl z9)
    refine zi_bipush (v := -2) dX11_heaviest_15 (by decide) ?_
    exact zt_iret dX11_heaviest_17 rfl h
theorem e_X11_heaviest {m : Int32} {S : zS} {L : zL} {P : Int32 → zS → zL → Prop} (h : ∀ X, zU mX11_heaviest X S L 0 [some (.ref 72), some (.int m)] [] (zpi P)) : zCi mX11_heaviest S L [.ref 72, .int m] P := zCi_of pn_X11_heaviest (Nat.le_of_ble_eq_true rfl) (fun X => zt_pad (j := 0) rfl (h X))
set_option maxHeartbeats 2000000 in
theorem b_X11_firstOf_0 {w : Int32} {X : Nat × (Nat → Int32)} {S : zS} {L : zL} {P : Int32 → zS → zL → Prop} (h : zCv mX11_runsTold S L [.ref 72] (fun S1 L1 => ((¬ w = 0 → P (S1 72 33) S1 L1) ∧ (w = 0 → P (S1 72 32) S1 L1)))) : zU mX11_firstOf X S L 0 [some (.ref 72), some (.int w)] [] (zpi P) := by
  refine zi_aload_n dX11_firstOf_0 rfl rfl ?_
  refine zt_Vv (As := []) dX11_firstOf_1 lk_X11_272 sk72 rfl ⟨⟨by decide, by decide⟩, rfl, rfl⟩ rfl ⟨Nat.le_of_ble_eq_true rfl, rfl, rfl⟩ h (fun S1 L1 h => ?_)
  refine zi_iload_n dX11_firstOf_4 rfl rfl ?_
  refine zi_if_ne (tgt := 15) dX11_firstOf_5 (by decide) (fun q9 => ?_) (fun q9 => ?_)
  · replace h := h.1 q9
    refine zi_aload_n dX11_firstOf_15 rfl rfl ?_
    refine zi_geti fl_X11_239 sk72 rfl dX11_firstOf_16 ?_
    exact zt_iret dX11_firstOf_19 rfl h
  · replace h := h.2 q9
    refine zi_aload_n dX11_firstOf_8 rfl rfl ?_
    refine zi_geti fl_X11_236 sk72 rfl dX11_firstOf_9 ?_
    refine zi_goto (tgt := 19) dX11_firstOf_12 (by decide) ?_
    exact zt_iret dX11_firstOf_19 rfl h
theorem e_X11_firstOf {w : Int32} {S : zS} {L : zL} {P : Int32 → zS → zL → Prop} (h : ∀ X, zU mX11_firstOf X S L 0 [some (.ref 72), some (.int w)] [] (zpi P)) : zCi mX11_firstOf S L [.ref 72, .int w] P := zCi_of pn_X11_firstOf (Nat.le_of_ble_eq_true rfl) (fun X => zt_pad (j := 0) rfl (h X))
set_option maxHeartbeats 2000000 in
theorem b_X11_first_0 {w : Int32} {X : Nat × (Nat → Int32)} {S : zS} {L : zL} {P : Int32 → zS → zL → Prop} (h : ((((0 : Int32) ≤ w ∧ w ≤ (1 : Int32)) → zCi mX11_firstOf S L [.ref 72, .int w] (fun y2 S1 L1 => P y2 S1 L1)) ∧ (¬ ((0 : Int32) ≤ w ∧ w ≤ (1 : Int32)) → P (-2 : Int32) S L))) : zU mX11_first X S L 0 [some (.ref 72), some (.int w)] [] (zpi P) := by
  refine zi_iload_n dX11_first_0 rfl rfl ?_
  refine zi_iconst (v := 0) dX11_first_1 (by decide) ?_
  refine zi_iconst (v := 1) dX11_first_2 (by decide) ?_
  refine zt_Si (As := [.int w, .int (0 : Int32), .int (1 : Int32)]) dX11_first_3 lk_X11_140 ⟨⟨by decide, by decide⟩, rfl, rfl⟩ rfl ⟨Nat.le_of_ble_eq_true rfl, rfl, rfl⟩ (in_s (P := fun y S9 L9 => y = (if ((0 : Int32) ≤ w ∧ w ≤ (1 : Int32)) then (1 : Int32) else 0) ∧ S = S9 ∧ L = L9) ⟨rfl, rfl, rfl⟩) (fun y1 S9 L9 q9 => ?_)
  obtain ⟨ey1, rfl, rfl⟩ := q9
  by_cases q9 : ((0 : Int32) ≤ w ∧ w ≤ (1 : Int32))
  · replace h := h.1 q9
    rw [if_pos q9] at ey1
    subst ey1
    refine zi_if_eq (tgt := 17) dX11_first_6 (by decide) (fun z9 => absurd z9 (by decide)) (fun _ => ?_)
    refine zi_aload_n dX11_first_9 rfl rfl ?_
    refine zi_iload_n dX11_first_10 rfl rfl ?_
    refine zt_Vi (As := [.int w]) dX11_first_11 lk_X11_293 sk72 rfl ⟨⟨by decide, by decide⟩, rfl, rfl⟩ rfl ⟨Nat.le_of_ble_eq_true rfl, rfl, rfl⟩ h (fun y2 S1 L1 h => ?_)
    refine zi_goto (tgt := 19) dX11_first_14 (by decide) ?_
    exact zt_iret dX11_first_19 rfl h
  · replace h := h.2 q9
    rw [if_neg q9] at ey1
    subst ey1
    refine zi_if_eq (tgt := 17) dX11_first_6 (by decide) (fun _ => ?_) (fun z9 => absurd rfl z9)
    refine zi_bipush (v := -2) dX11_first_17 (by decide) ?_
    exact zt_iret dX11_first_19 rfl h
theorem e_X11_first {w : Int32} {S : zS} {L : zL} {P : Int32 → zS → zL → Prop} (h : ∀ X, zU mX11_first X S L 0 [some (.ref 72), some (.int w)] [] (zpi P)) : zCi mX11_first S L [.ref 72, .int w] P := zCi_of pn_X11_first (Nat.le_of_ble_eq_true rfl) (fun X => zt_pad (j := 0) rfl (h X))
