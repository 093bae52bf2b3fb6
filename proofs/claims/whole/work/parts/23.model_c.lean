set_option maxHeartbeats 2000000 in
theorem b_X11_isText_0 {x : Int32} {X : Nat × (Nat → Int32)} {S : zS} {L : zL} {P : Int32 → zS → zL → Prop} (h : ∀ y1 : Int32, y1 = (if ((0 : Int32) ≤ x ∧ x ≤ (1 : Int32)) then (1 : Int32) else 0) → (narrow .boolean (.int y1) = .int y1 ∧ P y1 S L)) : zU mX11_isText X S L 0 [some (.int x)] [] (zpi P) := by
  refine zi_iload_n dX11_isText_0 rfl rfl ?_
  refine zi_iconst (v := 0) dX11_isText_1 (by decide) ?_
  refine zi_iconst (v := 1) dX11_isText_2 (by decide) ?_
  refine zt_Si (As := [.int x, .int (0 : Int32), .int (1 : Int32)]) dX11_isText_3 lk_X11_140 ⟨⟨by decide, by decide⟩, rfl, rfl⟩ rfl ⟨Nat.le_of_ble_eq_true rfl, rfl, rfl⟩ (in_s (P := fun y S9 L9 => y = (if ((0 : Int32) ≤ x ∧ x ≤ (1 : Int32)) then (1 : Int32) else 0) ∧ S = S9 ∧ L = L9) ⟨rfl, rfl, rfl⟩) (fun y1 S9 L9 q9 => ?_)
  obtain ⟨ey1, rfl, rfl⟩ := q9
  replace h := h y1 ey1
  exact zt_zret (ty := .boolean) dX11_isText_6 rfl h.1 h.2
theorem e_X11_isText {x : Int32} {S : zS} {L : zL} {P : Int32 → zS → zL → Prop} (h : ∀ X, zU mX11_isText X S L 0 [some (.int x)] [] (zpi P)) : zCi mX11_isText S L [.int x] P := zCi_of pn_X11_isText (Nat.le_of_ble_eq_true rfl) (fun X => zt_pad (j := 0) rfl (h X))
set_option maxHeartbeats 2000000 in
theorem b_X11_isMonth_0 {x : Int32} {X : Nat × (Nat → Int32)} {S : zS} {L : zL} {P : Int32 → zS → zL → Prop} (h : ∀ y1 : Int32, y1 = (if ((0 : Int32) ≤ x ∧ x ≤ (23 : Int32)) then (1 : Int32) else 0) → (narrow .boolean (.int y1) = .int y1 ∧ P y1 S L)) : zU mX11_isMonth X S L 0 [some (.int x)] [] (zpi P) := by
  refine zi_iload_n dX11_isMonth_0 rfl rfl ?_
  refine zi_iconst (v := 0) dX11_isMonth_1 (by decide) ?_
  refine zi_bipush (v := 23) dX11_isMonth_2 (by decide) ?_
  refine zt_Si (As := [.int x, .int (0 : Int32), .int (23 : Int32)]) dX11_isMonth_4 lk_X11_140 ⟨⟨by decide, by decide⟩, rfl, rfl⟩ rfl ⟨Nat.le_of_ble_eq_true rfl, rfl, rfl⟩ (in_s (P := fun y S9 L9 => y = (if ((0 : Int32) ≤ x ∧ x ≤ (23 : Int32)) then (1 : Int32) else 0) ∧ S = S9 ∧ L = L9) ⟨rfl, rfl, rfl⟩) (fun y1 S9 L9 q9 => ?_)
  obtain ⟨ey1, rfl, rfl⟩ := q9
  replace h := h y1 ey1
  exact zt_zret (ty := .boolean) dX11_isMonth_7 rfl h.1 h.2
theorem e_X11_isMonth {x : Int32} {S : zS} {L : zL} {P : Int32 → zS → zL → Prop} (h : ∀ X, zU mX11_isMonth X S L 0 [some (.int x)] [] (zpi P)) : zCi mX11_isMonth S L [.int x] P := zCi_of pn_X11_isMonth (Nat.le_of_ble_eq_true rfl) (fun X => zt_pad (j := 0) rfl (h X))
set_option maxHeartbeats 2000000 in
theorem b_X11_isCounty_0 {x : Int32} {X : Nat × (Nat → Int32)} {S : zS} {L : zL} {P : Int32 → zS → zL → Prop} (h : ∀ y1 : Int32, y1 = (if ((0 : Int32) ≤ x ∧ x ≤ (3 : Int32)) then (1 : Int32) else 0) → (narrow .boolean (.int y1) = .int y1 ∧ P y1 S L)) : zU mX11_isCounty X S L 0 [some (.int x)] [] (zpi P) := by
  refine zi_iload_n dX11_isCounty_0 rfl rfl ?_
  refine zi_iconst (v := 0) dX11_isCounty_1 (by decide) ?_
  refine zi_iconst (v := 3) dX11_isCounty_2 (by decide) ?_
  refine zt_Si (As := [.int x, .int (0 : Int32), .int (3 : Int32)]) dX11_isCounty_3 lk_X11_140 ⟨⟨by decide, by decide⟩, rfl, rfl⟩ rfl ⟨Nat.le_of_ble_eq_true rfl, rfl, rfl⟩ (in_s (P := fun y S9 L9 => y = (if ((0 : Int32) ≤ x ∧ x ≤ (3 : Int32)) then (1 : Int32) else 0) ∧ S = S9 ∧ L = L9) ⟨rfl, rfl, rfl⟩) (fun y1 S9 L9 q9 => ?_)
  obtain ⟨ey1, rfl, rfl⟩ := q9
  replace h := h y1 ey1
  exact zt_zret (ty := .boolean) dX11_isCounty_6 rfl h.1 h.2
theorem e_X11_isCounty {x : Int32} {S : zS} {L : zL} {P : Int32 → zS → zL → Prop} (h : ∀ X, zU mX11_isCounty X S L 0 [some (.int x)] [] (zpi P)) : zCi mX11_isCounty S L [.int x] P := zCi_of pn_X11_isCounty (Nat.le_of_ble_eq_true rfl) (fun X => zt_pad (j := 0) rfl (h X))
set_option maxHeartbeats 2000000 in
theorem b_X11_isSheet_0 {x : Int32} {X : Nat × (Nat → Int32)} {S : zS} {L : zL} {P : Int32 → zS → zL → Prop} (h : ∀ y1 : Int32, y1 = (if ((0 : Int32) ≤ x ∧ x ≤ (3 : Int32)) then (1 : Int32) else 0) → (narrow .boolean (.int y1) = .int y1 ∧ P y1 S L)) : zU mX11_isSheet X S L 0 [some (.int x)] [] (zpi P) := by
  refine zi_iload_n dX11_isSheet_0 rfl rfl ?_
  refine zi_iconst (v := 0) dX11_isSheet_1 (by decide) ?_
  refine zi_iconst (v := 3) dX11_isSheet_2 (by decide) ?_
  refine zt_Si (As := [.int x, .int (0 : Int32), .int (3 : Int32)]) dX11_isSheet_3 lk_X11_140 ⟨⟨by decide, by decide⟩, rfl, rfl⟩ rfl ⟨Nat.le_of_ble_eq_true rfl, rfl, rfl⟩ (in_s (P := fun y S9 L9 => y = (if ((0 : Int32) ≤ x ∧ x ≤ (3 : Int32)) then (1 : Int32) else 0) ∧ S = S9 ∧ L = L9) ⟨rfl, rfl, rfl⟩) (fun y1 S9 L9 q9 => ?_)
  obtain ⟨ey1, rfl, rfl⟩ := q9
  replace h := h y1 ey1
  exact zt_zret (ty := .boolean) dX11_isSheet_6 rfl h.1 h.2
theorem e_X11_isSheet {x : Int32} {S : zS} {L : zL} {P : Int32 → zS → zL → Prop} (h : ∀ X, zU mX11_isSheet X S L 0 [some (.int x)] [] (zpi P)) : zCi mX11_isSheet S L [.int x] P := zCi_of pn_X11_isSheet (Nat.le_of_ble_eq_true rfl) (fun X => zt_pad (j := 0) rfl (h X))
set_option maxHeartbeats 2000000 in
theorem b_X11_lives_0 {who : Int32} {X : Nat × (Nat → Int32)} {S : zS} {L : zL} {P : Int32 → zS → zL → Prop} (h : ((((0 : Int32) ≤ who ∧ who ≤ ((S 72 2) - (1 : Int32))) → vp_in who 8 ∧ ((¬ (S 92 who.toNatClampNeg) = (-1 : Int32) → P (0 : Int32) S L) ∧ ((S 92 who.toNatClampNeg) = (-1 : Int32) → P (1 : Int32) S L))) ∧ (¬ ((0 : Int32) ≤ who ∧ who ≤ ((S 72 2) - (1 : Int32))) → P (0 : Int32) S L))) : zU mX11_lives X S L 0 [some (.ref 72), some (.int who)] [] (zpi P) := by
  refine zi_iload_n dX11_lives_0 rfl rfl ?_
  refine zi_iconst (v := 0) dX11_lives_1 (by decide) ?_
  refine zi_aload_n dX11_lives_2 rfl rfl ?_
  refine zi_geti fl_X11_152 sk72 rfl dX11_lives_3 ?_
  refine zi_iconst (v := 1) dX11_lives_6 (by decide) ?_
  refine zi_isub dX11_lives_7 ?_
  refine zt_Si (As := [.int who, .int (0 : Int32), .int ((S 72 2) - (1 : Int32))]) dX11_lives_8 lk_X11_140 ⟨⟨by decide, by decide⟩, rfl, rfl⟩ rfl ⟨Nat.le_of_ble_eq_true rfl, rfl, rfl⟩ (in_s (P := fun y S9 L9 => y = (if ((0 : Int32) ≤ who ∧ who ≤ ((S 72 2) - (1 : Int32))) then (1 : Int32) else 0) ∧ S = S9 ∧ L = L9) ⟨rfl, rfl, rfl⟩) (fun y1 S9 L9 q9 => ?_)
  obtain ⟨ey1, rfl, rfl⟩ := q9
  by_cases q9 : ((0 : Int32) ≤ who ∧ who ≤ ((S 72 2) - (1 : Int32)))
  · replace h := h.1 q9
    rw [if_pos q9] at ey1
    subst ey1
    refine zi_if_eq (tgt := 28) dX11_lives_11 (by decide) (fun z9 => absurd z9 (by decide)) (fun _ => ?_)
    refine zi_aload_n dX11_lives_14 rfl rfl ?_
    refine zi_getr fl_X11_67 sk72 rfl dX11_lives_15 ?_
    refine zi_iload_n dX11_lives_18 rfl rfl ?_
    refine zi_iald sk92 h.1 dX11_lives_19 ?_
    replace h := h.2
    refine zi_iconst (v := -1) dX11_lives_20 (by decide) ?_
    refine zi_icmp_ne (tgt := 28) dX11_lives_21 (by decide) (fun q9 => ?_) (fun q9 => ?_)
    · replace h := h.1 q9
      refine zi_iconst (v := 0) dX11_lives_28 (by decide) ?_
      exact zt_zret (ty := .boolean) dX11_lives_29 rfl rfl h
    · replace h := h.2 q9
      refine zi_iconst (v := 1) dX11_lives_24 (by decide) ?_
      refine zi_goto (tgt := 29) dX11_lives_25 (by decide) ?_
      exact zt_zret (ty := .boolean) dX11_lives_29 rfl rfl h
  · replace h := h.2 q9
    rw [if_neg q9] at ey1
    subst ey1
    refine zi_if_eq (tgt := 28) dX11_lives_11 (by decide) (fun _ => ?_) (fun z9 => absurd rfl z9)
    refine zi_iconst (v := 0) dX11_lives_28 (by decide) ?_
    exact zt_zret (ty := .boolean) dX11_lives_29 rfl rfl h
theorem e_X11_lives {who : Int32} {S : zS} {L : zL} {P : Int32 → zS → zL → Prop} (h : ∀ X, zU mX11_lives X S L 0 [some (.ref 72), some (.int who)] [] (zpi P)) : zCi mX11_lives S L [.ref 72, .int who] P := zCi_of pn_X11_lives (Nat.le_of_ble_eq_true rfl) (fun X => zt_pad (j := 0) rfl (h X))
