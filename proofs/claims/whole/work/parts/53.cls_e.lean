set_option maxHeartbeats 2000000 in
theorem b_X10_sheet_0 {s : Int32} {form : Int32} {n : Int32} {X : Nat × (Nat → Int32)} {S : zS} {L : zL} {P : Int32 → zS → zL → Prop} (h : ((((0 : Int32) ≤ s ∧ s ≤ (3 : Int32)) → ((((0 : Int32) ≤ form ∧ form ≤ (2 : Int32)) → ((n ≤ (60 : Int32) → ((0 ≤ n → zCi mX6_renew S L [.ref 68, .int s, .int form, .int n] (fun y3 S1 L1 => P y3 S1 L1)) ∧ (¬ 0 ≤ n → zCi mX6_finding S L [.ref 68, .int (5 : Int32)] (fun y3 S1 L1 => P y3 S1 L1)))) ∧ (¬ n ≤ (60 : Int32) → P (-2 : Int32) S L))) ∧ (¬ ((0 : Int32) ≤ form ∧ form ≤ (2 : Int32)) → P (-2 : Int32) S L))) ∧ (¬ ((0 : Int32) ≤ s ∧ s ≤ (3 : Int32)) → P (-2 : Int32) S L))) : zU mX10_sheet X S L 0 [some (.ref 0), some (.int s), some (.int form), some (.int n)] [] (zpi P) := by
  refine zi_iload_n dX10_sheet_0 rfl rfl ?_
  refine zt_Si (As := [.int s]) dX10_sheet_1 lk_X10_163 ⟨⟨by decide, by decide⟩, rfl, rfl⟩ rfl ⟨Nat.le_of_ble_eq_true rfl, rfl, rfl⟩ (xSheet_s (P := fun y S9 L9 => y = (if ((0 : Int32) ≤ s ∧ s ≤ (3 : Int32)) then (1 : Int32) else 0) ∧ S = S9 ∧ L = L9) ⟨rfl, rfl, rfl⟩) (fun y1 S9 L9 q9 => ?_)
  obtain ⟨ey1, rfl, rfl⟩ := q9
  by_cases q9 : ((0 : Int32) ≤ s ∧ s ≤ (3 : Int32))
  · replace h := h.1 q9
    rw [if_pos q9] at ey1
    subst ey1
    refine zi_if_eq (tgt := 22) dX10_sheet_4 (by decide) (fun z9 => absurd z9 (by decide)) (fun _ => ?_)
    refine zi_iload_n dX10_sheet_7 rfl rfl ?_
    refine zi_iconst (v := 0) dX10_sheet_8 (by decide) ?_
    refine zi_iconst (v := 2) dX10_sheet_9 (by decide) ?_
    refine zt_Si (As := [.int form, .int (0 : Int32), .int (2 : Int32)]) dX10_sheet_10 lk_X10_90 ⟨⟨by decide, by decide⟩, rfl, rfl⟩ rfl ⟨Nat.le_of_ble_eq_true rfl, rfl, rfl⟩ (within_s (P := fun y S9 L9 => y = (if ((0 : Int32) ≤ form ∧ form ≤ (2 : Int32)) then (1 : Int32) else 0) ∧ S = S9 ∧ L = L9) ⟨rfl, rfl, rfl⟩) (fun y2 S9 L9 q9 => ?_)
    obtain ⟨ey2, rfl, rfl⟩ := q9
    by_cases q9 : ((0 : Int32) ≤ form ∧ form ≤ (2 : Int32))
    · replace h := h.1 q9
      rw [if_pos q9] at ey2
      subst ey2
      refine zi_if_eq (tgt := 22) dX10_sheet_13 (by decide) (fun z9 => absurd z9 (by decide)) (fun _ => ?_)
      refine zi_iload_n dX10_sheet_16 rfl rfl ?_
      refine zi_bipush (v := 60) dX10_sheet_17 (by decide) ?_
      refine zi_icmp_le (tgt := 25) dX10_sheet_19 (by decide) (fun q9 => ?_) (fun q9 => ?_)
      · replace h := h.1 q9
        refine zi_iload_n dX10_sheet_25 rfl rfl ?_
        refine zi_if_ge (tgt := 40) dX10_sheet_26 (by decide) (fun q9 => ?_) (fun q9 => ?_)
        · replace h := h.1 q9
          refine zi_aload_n dX10_sheet_40 rfl rfl ?_
          refine zi_getr fl_X10_82 sk0 rfl dX10_sheet_41 ?_
          refine zi_iload_n dX10_sheet_44 rfl rfl ?_
          refine zi_iload_n dX10_sheet_45 rfl rfl ?_
          refine zi_iload_n dX10_sheet_46 rfl rfl ?_
          refine zt_Vi (As := [.int s, .int form, .int n]) dX10_sheet_47 lk_X10_267 sk68 rfl ⟨⟨by decide, by decide⟩, rfl, rfl⟩ rfl ⟨Nat.le_of_ble_eq_true rfl, rfl, rfl⟩ h (fun y3 S1 L1 h => ?_)
          exact zt_iret dX10_sheet_50 rfl h
        · replace h := h.2 q9
          refine zi_aload_n dX10_sheet_29 rfl rfl ?_
          refine zi_getr fl_X10_82 sk0 rfl dX10_sheet_30 ?_
          refine zi_iconst (v := 5) dX10_sheet_33 (by decide) ?_
          refine zt_Vi (As := [.int (5 : Int32)]) dX10_sheet_34 lk_X10_169 sk68 rfl ⟨⟨by decide, by decide⟩, rfl, rfl⟩ rfl ⟨Nat.le_of_ble_eq_true rfl, rfl, rfl⟩ h (fun y3 S1 L1 h => ?_)
          refine zi_goto (tgt := 50) dX10_sheet_37 (by decide) ?_
          exact zt_iret dX10_sheet_50 rfl h
      · replace h := h.2 q9
        refine zi_bipush (v := -2) dX10_sheet_22 (by decide) ?_
        exact zt_iret dX10_sheet_24 rfl h
    · replace h := h.2 q9
      rw [if_neg q9] at ey2
      subst ey2
      refine zi_if_eq (tgt := 22) dX10_sheet_13 (by decide) (fun _ => ?_) (fun z9 => absurd rfl z9)
      refine zi_bipush (v := -2) dX10_sheet_22 (by decide) ?_
      exact zt_iret dX10_sheet_24 rfl h
  · replace h := h.2 q9
    rw [if_neg q9] at ey1
    subst ey1
    refine zi_if_eq (tgt := 22) dX10_sheet_4 (by decide) (fun _ => ?_) (fun z9 => absurd rfl z9)
    refine zi_bipush (v := -2) dX10_sheet_22 (by decide) ?_
    exact zt_iret dX10_sheet_24 rfl h
theorem e_X10_sheet {s : Int32} {form : Int32} {n : Int32} {S : zS} {L : zL} {P : Int32 → zS → zL → Prop} (h : ∀ X, zU mX10_sheet X S L 0 [some (.ref 0), some (.int s), some (.int form), some (.int n)] [] (zpi P)) : zCi mX10_sheet S L [.ref 0, .int s, .int form, .int n] P := zCi_of pn_X10_sheet (Nat.le_of_ble_eq_true rfl) (fun X => zt_pad (j := 0) rfl (h X))
set_option maxHeartbeats 2000000 in
theorem b_X10_lose_0 {s : Int32} {X : Nat × (Nat → Int32)} {S : zS} {L : zL} {P : Int32 → zS → zL → Prop} (h : ((((0 : Int32) ≤ s ∧ s ≤ (3 : Int32)) → zCi mX6_isLost S L [.ref 68, .int s] (fun y2 S1 L1 => ((y2 = 0 → zCi mX6_drop S1 L1 [.ref 68, .int s] (fun y3 S2 L2 => P y3 S2 L2)) ∧ (¬ y2 = 0 → zCi mX6_finding S1 L1 [.ref 68, .int (1 : Int32)] (fun y3 S2 L2 => P y3 S2 L2))))) ∧ (¬ ((0 : Int32) ≤ s ∧ s ≤ (3 : Int32)) → P (-2 : Int32) S L))) : zU mX10_lose X S L 0 [some (.ref 0), some (.int s)] [] (zpi P) := by
  refine zi_iload_n dX10_lose_0 rfl rfl ?_
  refine zt_Si (As := [.int s]) dX10_lose_1 lk_X10_163 ⟨⟨by decide, by decide⟩, rfl, rfl⟩ rfl ⟨Nat.le_of_ble_eq_true rfl, rfl, rfl⟩ (xSheet_s (P := fun y S9 L9 => y = (if ((0 : Int32) ≤ s ∧ s ≤ (3 : Int32)) then (1 : Int32) else 0) ∧ S = S9 ∧ L = L9) ⟨rfl, rfl, rfl⟩) (fun y1 S9 L9 q9 => ?_)
  obtain ⟨ey1, rfl, rfl⟩ := q9
  by_cases q9 : ((0 : Int32) ≤ s ∧ s ≤ (3 : Int32))
  · replace h := h.1 q9
    rw [if_pos q9] at ey1
    subst ey1
    refine zi_if_ne (tgt := 10) dX10_lose_4 (by decide) (fun _ => ?_) (fun z9 => absurd z9 (by decide))
    refine zi_aload_n dX10_lose_10 rfl rfl ?_
    refine zi_getr fl_X10_82 sk0 rfl dX10_lose_11 ?_
    refine zi_iload_n dX10_lose_14 rfl rfl ?_
    refine zt_Vi (As := [.int s]) dX10_lose_15 lk_X10_166 sk68 rfl ⟨⟨by decide, by decide⟩, rfl, rfl⟩ rfl ⟨Nat.le_of_ble_eq_true rfl, rfl, rfl⟩ h (fun y2 S1 L1 h => ?_)
    refine zi_if_eq (tgt := 32) dX10_lose_18 (by decide) (fun q9 => ?_) (fun q9 => ?_)
    · replace h := h.1 q9
      refine zi_aload_n dX10_lose_32 rfl rfl ?_
      refine zi_getr fl_X10_82 sk0 rfl dX10_lose_33 ?_
      refine zi_iload_n dX10_lose_36 rfl rfl ?_
      refine zt_Vi (As := [.int s]) dX10_lose_37 lk_X10_270 sk68 rfl ⟨⟨by decide, by decide⟩, rfl, rfl⟩ rfl ⟨Nat.le_of_ble_eq_true rfl, rfl, rfl⟩ h (fun y3 S2 L2 h => ?_)
      exact zt_iret dX10_lose_40 rfl h
    · replace h := h.2 q9
      refine zi_aload_n dX10_lose_21 rfl rfl ?_
      refine zi_getr fl_X10_82 sk0 rfl dX10_lose_22 ?_
      refine zi_iconst (v := 1) dX10_lose_25 (by decide) ?_
      refine zt_Vi (As := [.int (1 : Int32)]) dX10_lose_26 lk_X10_169 sk68 rfl ⟨⟨by decide, by decide⟩, rfl, rfl⟩ rfl ⟨Nat.le_of_ble_eq_true rfl, rfl, rfl⟩ h (fun y3 S2 L2 h => ?_)
      refine zi_goto (tgt := 40) dX10_lose_29 (by decide) ?_
      exact zt_iret dX10_lose_40 rfl h
  · replace h := h.2 q9
    rw [if_neg q9] at ey1
    subst ey1
    refine zi_if_ne (tgt := 10) dX10_lose_4 (by decide) (fun z9 => absurd rfl z9) (fun _ => ?_)
    refine zi_bipush (v := -2) dX10_lose_7 (by decide) ?_
    exact zt_iret dX10_lose_9 rfl h
theorem e_X10_lose {s : Int32} {S : zS} {L : zL} {P : Int32 → zS → zL → Prop} (h : ∀ X, zU mX10_lose X S L 0 [some (.ref 0), some (.int s)] [] (zpi P)) : zCi mX10_lose S L [.ref 0, .int s] P := zCi_of pn_X10_lose (Nat.le_of_ble_eq_true rfl) (fun X => zt_pad (j := 0) rfl (h X))
set_option maxHeartbeats 2000000 in
theorem b_X10_put_0 {s : Int32} {form : Int32} {i : Int32} {v : Int32} {X : Nat × (Nat → Int32)} {S : zS} {L : zL} {P : Int32 → zS → zL → Prop} (h : ((((0 : Int32) ≤ s ∧ s ≤ (3 : Int32)) → ((((0 : Int32) ≤ form ∧ form ≤ (2 : Int32)) → zCi mX6_faultAt S L [.ref 68, .int s, .int form, .int i] (fun y3 S1 L1 => ((y3 = 0 → zCv mX6_store S1 L1 [.ref 68, .int s, .int i, .int v] (fun S2 L2 => P (1 : Int32) S2 L2)) ∧ (¬ y3 = 0 → zCi mX6_finding S1 L1 [.ref 68, .int y3] (fun y4 S2 L2 => P y4 S2 L2))))) ∧ (¬ ((0 : Int32) ≤ form ∧ form ≤ (2 : Int32)) → P (-2 : Int32) S L))) ∧ (¬ ((0 : Int32) ≤ s ∧ s ≤ (3 : Int32)) → P (-2 : Int32) S L))) : zU mX10_put X S L 0 [some (.ref 0), some (.int s), some (.int form), some (.int i), some (.int v), none] [] (zpi P) := by
  refine zi_iload_n dX10_put_0 rfl rfl ?_
  refine zt_Si (As := [.int s]) dX10_put_1 lk_X10_163 ⟨⟨by decide, by decide⟩, rfl, rfl⟩ rfl ⟨Nat.le_of_ble_eq_true rfl, rfl, rfl⟩ (xSheet_s (P := fun y S9 L9 => y = (if ((0 : Int32) ≤ s ∧ s ≤ (3 : Int32)) then (1 : Int32) else 0) ∧ S = S9 ∧ L = L9) ⟨rfl, rfl, rfl⟩) (fun y1 S9 L9 q9 => ?_)
  obtain ⟨ey1, rfl, rfl⟩ := q9
  by_cases q9 : ((0 : Int32) ≤ s ∧ s ≤ (3 : Int32))
  · replace h := h.1 q9
    rw [if_pos q9] at ey1
    subst ey1
    refine zi_if_eq (tgt := 16) dX10_put_4 (by decide) (fun z9 => absurd z9 (by decide)) (fun _ => ?_)
    refine zi_iload_n dX10_put_7 rfl rfl ?_
    refine zi_iconst (v := 0) dX10_put_8 (by decide) ?_
    refine zi_iconst (v := 2) dX10_put_9 (by decide) ?_
    refine zt_Si (As := [.int form, .int (0 : Int32), .int (2 : Int32)]) dX10_put_10 lk_X10_90 ⟨⟨by decide, by decide⟩, rfl, rfl⟩ rfl ⟨Nat.le_of_ble_eq_true rfl, rfl, rfl⟩ (within_s (P := fun y S9 L9 => y = (if ((0 : Int32) ≤ form ∧ form ≤ (2 : Int32)) then (1 : Int32) else 0) ∧ S = S9 ∧ L = L9) ⟨rfl, rfl, rfl⟩) (fun y2 S9 L9 q9 => ?_)
    obtain ⟨ey2, rfl, rfl⟩ := q9
    by_cases q9 : ((0 : Int32) ≤ form ∧ form ≤ (2 : Int32))
    · replace h := h.1 q9
      rw [if_pos q9] at ey2
      subst ey2
      refine zi_if_ne (tgt := 19) dX10_put_13 (by decide) (fun _ => ?_) (fun z9 => absurd z9 (by decide))
      refine zi_aload_n dX10_put_19 rfl rfl ?_
      refine zi_getr fl_X10_82 sk0 rfl dX10_put_20 ?_
      refine zi_iload_n dX10_put_23 rfl rfl ?_
      refine zi_iload_n dX10_put_24 rfl rfl ?_
      refine zi_iload_n dX10_put_25 rfl rfl ?_
      refine zt_Vi (As := [.int s, .int form, .int i]) dX10_put_26 lk_X10_273 sk68 rfl ⟨⟨by decide, by decide⟩, rfl, rfl⟩ rfl ⟨Nat.le_of_ble_eq_true rfl, rfl, rfl⟩ h (fun y3 S1 L1 h => ?_)
      refine zi_istore dX10_put_29 (by decide) rfl ?_
      refine zi_iload dX10_put_31 rfl ?_
      refine zi_if_eq (tgt := 46) dX10_put_33 (by decide) (fun q9 => ?_) (fun q9 => ?_)
      · replace h := h.1 q9
        refine zi_aload_n dX10_put_46 rfl rfl ?_
        refine zi_getr fl_X10_82 sk0 rfl dX10_put_47 ?_
        refine zi_iload_n dX10_put_50 rfl rfl ?_
        refine zi_iload_n dX10_put_51 rfl rfl ?_
        refine zi_iload dX10_put_52 rfl ?_
        refine zt_Vv (As := [.int s, .int i, .int v]) dX10_put_54 lk_X10_276 sk68 rfl ⟨⟨by decide, by decide⟩, rfl, rfl⟩ rfl ⟨Nat.le_of_ble_eq_true rfl, rfl, rfl⟩ h (fun S2 L2 h => ?_)
        refine zi_iconst (v := 1) dX10_put_57 (by decide) ?_
        exact zt_iret dX10_put_58 rfl h
      · replace h := h.2 q9
        refine zi_aload_n dX10_put_36 rfl rfl ?_
        refine zi_getr fl_X10_82 sk0 rfl dX10_put_37 ?_
        refine zi_iload dX10_put_40 rfl ?_
        refine zt_Vi (As := [.int y3]) dX10_put_42 lk_X10_169 sk68 rfl ⟨⟨by decide, by decide⟩, rfl, rfl⟩ rfl ⟨Nat.le_of_ble_eq_true rfl, rfl, rfl⟩ h (fun y4 S2 L2 h => ?_)
        exact zt_iret dX10_put_45 rfl h
    · replace h := h.2 q9
      rw [if_neg q9] at ey2
      subst ey2
      refine zi_if_ne (tgt := 19) dX10_put_13 (by decide) (fun z9 => absurd rfl z9) (fun _ => ?_)
      refine zi_bipush (v := -2) dX10_put_16 (by decide) ?_
      exact zt_iret dX10_put_18 rfl h
  · replace h := h.2 q9
    rw [if_neg q9] at ey1
    subst ey1
    refine zi_if_eq (tgt := 16) dX10_put_4 (by decide) (fun _ => ?_) (fun z9 => absurd rfl z9)
    refine zi_bipush (v := -2) dX10_put_16 (by decide) ?_
    exact zt_iret dX10_put_18 rfl h
theorem e_X10_put {s : Int32} {form : Int32} {i : Int32} {v : Int32} {S : zS} {L : zL} {P : Int32 → zS → zL → Prop} (h : ∀ X, zU mX10_put X S L 0 [some (.ref 0), some (.int s), some (.int form), some (.int i), some (.int v), none] [] (zpi P)) : zCi mX10_put S L [.ref 0, .int s, .int form, .int i, .int v] P := zCi_of pn_X10_put (Nat.le_of_ble_eq_true rfl) (fun X => zt_pad (j := 1) rfl (h X))
set_option maxHeartbeats 2000000 in
theorem b_X10_get_0 {s : Int32} {form : Int32} {i : Int32} {X : Nat × (Nat → Int32)} {S : zS} {L : zL} {P : Int32 → zS → zL → Prop} (h : ((((0 : Int32) ≤ s ∧ s ≤ (3 : Int32)) → ((((0 : Int32) ≤ form ∧ form ≤ (2 : Int32)) → zCi mX6_faultAt S L [.ref 68, .int s, .int form, .int i] (fun y3 S1 L1 => ((y3 = 0 → zCi mX6_item S1 L1 [.ref 68, .int s, .int i] (fun y4 S2 L2 => P y4 S2 L2)) ∧ (¬ y3 = 0 → zCi mX6_finding S1 L1 [.ref 68, .int y3] (fun y4 S2 L2 => P (-2147483648 : Int32) S2 L2))))) ∧ (¬ ((0 : Int32) ≤ form ∧ form ≤ (2 : Int32)) → P (-2147483648 : Int32) S L))) ∧ (¬ ((0 : Int32) ≤ s ∧ s ≤ (3 : Int32)) → P (-2147483648 : Int32) S L))) : zU mX10_get X S L 0 [some (.ref 0), some (.int s), some (.int form), some (.int i), none] [] (zpi P) := by
  refine zi_iload_n dX10_get_0 rfl rfl ?_
  refine zt_Si (As := [.int s]) dX10_get_1 lk_X10_163 ⟨⟨by decide, by decide⟩, rfl, rfl⟩ rfl ⟨Nat.le_of_ble_eq_true rfl, rfl, rfl⟩ (xSheet_s (P := fun y S9 L9 => y = (if ((0 : Int32) ≤ s ∧ s ≤ (3 : Int32)) then (1 : Int32) else 0) ∧ S = S9 ∧ L = L9) ⟨rfl, rfl, rfl⟩) (fun y1 S9 L9 q9 => ?_)
  obtain ⟨ey1, rfl, rfl⟩ := q9
  by_cases q9 : ((0 : Int32) ≤ s ∧ s ≤ (3 : Int32))
  · replace h := h.1 q9
    rw [if_pos q9] at ey1
    subst ey1
    refine zi_if_eq (tgt := 16) dX10_get_4 (by decide) (fun z9 => absurd z9 (by decide)) (fun _ => ?_)
    refine zi_iload_n dX10_get_7 rfl rfl ?_
    refine zi_iconst (v := 0) dX10_get_8 (by decide) ?_
    refine zi_iconst (v := 2) dX10_get_9 (by decide) ?_
    refine zt_Si (As := [.int form, .int (0 : Int32), .int (2 : Int32)]) dX10_get_10 lk_X10_90 ⟨⟨by decide, by decide⟩, rfl, rfl⟩ rfl ⟨Nat.le_of_ble_eq_true rfl, rfl, rfl⟩ (within_s (P := fun y S9 L9 => y = (if ((0 : Int32) ≤ form ∧ form ≤ (2 : Int32)) then (1 : Int32) else 0) ∧ S = S9 ∧ L = L9) ⟨rfl, rfl, rfl⟩) (fun y2 S9 L9 q9 => ?_)
    obtain ⟨ey2, rfl, rfl⟩ := q9
    by_cases q9 : ((0 : Int32) ≤ form ∧ form ≤ (2 : Int32))
    · replace h := h.1 q9
      rw [if_pos q9] at ey2
      subst ey2
      refine zi_if_ne (tgt := 20) dX10_get_13 (by decide) (fun _ => ?_) (fun z9 => absurd z9 (by decide))
      refine zi_aload_n dX10_get_20 rfl rfl ?_
      refine zi_getr fl_X10_82 sk0 rfl dX10_get_21 ?_
      refine zi_iload_n dX10_get_24 rfl rfl ?_
      refine zi_iload_n dX10_get_25 rfl rfl ?_
      refine zi_iload_n dX10_get_26 rfl rfl ?_
      refine zt_Vi (As := [.int s, .int form, .int i]) dX10_get_27 lk_X10_273 sk68 rfl ⟨⟨by decide, by decide⟩, rfl, rfl⟩ rfl ⟨Nat.le_of_ble_eq_true rfl, rfl, rfl⟩ h (fun y3 S1 L1 h => ?_)
      refine zi_istore dX10_get_30 (by decide) rfl ?_
      refine zi_iload dX10_get_32 rfl ?_
      refine zi_if_eq (tgt := 51) dX10_get_34 (by decide) (fun q9 => ?_) (fun q9 => ?_)
      · replace h := h.1 q9
        refine zi_aload_n dX10_get_51 rfl rfl ?_
        refine zi_getr fl_X10_82 sk0 rfl dX10_get_52 ?_
        refine zi_iload_n dX10_get_55 rfl rfl ?_
        refine zi_iload_n dX10_get_56 rfl rfl ?_
        refine zt_Vi (As := [.int s, .int i]) dX10_get_57 lk_X10_174 sk68 rfl ⟨⟨by decide, by decide⟩, rfl, rfl⟩ rfl ⟨Nat.le_of_ble_eq_true rfl, rfl, rfl⟩ h (fun y4 S2 L2 h => ?_)
        exact zt_iret dX10_get_60 rfl h
      · replace h := h.2 q9
        refine zi_aload_n dX10_get_37 rfl rfl ?_
        refine zi_getr fl_X10_82 sk0 rfl dX10_get_38 ?_
        refine zi_iload dX10_get_41 rfl ?_
        refine zt_Vi (As := [.int y3]) dX10_get_43 lk_X10_169 sk68 rfl ⟨⟨by decide, by decide⟩, rfl, rfl⟩ rfl ⟨Nat.le_of_ble_eq_true rfl, rfl, rfl⟩ h (fun y4 S2 L2 h => ?_)
        refine zi_pop dX10_get_46 rfl ?_
        refine zi_ldcw (v := -2147483648) dX10_get_47 (zme 4 217 (by decide +kernel) rfl) ?_
        exact zt_iret dX10_get_50 rfl h
    · replace h := h.2 q9
      rw [if_neg q9] at ey2
      subst ey2
      refine zi_if_ne (tgt := 20) dX10_get_13 (by decide) (fun z9 => absurd rfl z9) (fun _ => ?_)
      refine zi_ldcw (v := -2147483648) dX10_get_16 (zme 4 217 (by decide +kernel) rfl) ?_
      exact zt_iret dX10_get_19 rfl h
  · replace h := h.2 q9
    rw [if_neg q9] at ey1
    subst ey1
    refine zi_if_eq (tgt := 16) dX10_get_4 (by decide) (fun _ => ?_) (fun z9 => absurd rfl z9)
    refine zi_ldcw (v := -2147483648) dX10_get_16 (zme 4 217 (by decide +kernel) rfl) ?_
    exact zt_iret dX10_get_19 rfl h
theorem e_X10_get {s : Int32} {form : Int32} {i : Int32} {S : zS} {L : zL} {P : Int32 → zS → zL → Prop} (h : ∀ X, zU mX10_get X S L 0 [some (.ref 0), some (.int s), some (.int form), some (.int i), none] [] (zpi P)) : zCi mX10_get S L [.ref 0, .int s, .int form, .int i] P := zCi_of pn_X10_get (Nat.le_of_ble_eq_true rfl) (fun X => zt_pad (j := 1) rfl (h X))
set_option maxHeartbeats 2000000 in
theorem b_X10_copy_0 {s : Int32} {i : Int32} {t : Int32} {j : Int32} {n : Int32} {X : Nat × (Nat → Int32)} {S : zS} {L : zL} {P : Int32 → zS → zL → Prop} (h : ((((0 : Int32) ≤ s ∧ s ≤ (3 : Int32)) → ((((0 : Int32) ≤ t ∧ t ≤ (3 : Int32)) → zCi mX6_isLost S L [.ref 68, .int s] (fun y3 S1 L1 => ((¬ y3 = 0 → zCi mX6_finding S1 L1 [.ref 68, .int (1 : Int32)] (fun y4 S2 L2 => P y4 S2 L2)) ∧ (y3 = 0 → zCi mX6_isLost S1 L1 [.ref 68, .int t] (fun y4 S2 L2 => ((y4 = 0 → zCi mX6_alike S2 L2 [.ref 68, .int s, .int t] (fun y5 S3 L3 => ((¬ y5 = 0 → zCi mX6_holds S3 L3 [.ref 68, .int s, .int i, .int n] (fun y6 S4 L4 => ((y6 = 0 → zCi mX6_finding S4 L4 [.ref 68, .int (2 : Int32)] (fun y7 S5 L5 => P y7 S5 L5)) ∧ (¬ y6 = 0 → zCi mX6_holds S4 L4 [.ref 68, .int t, .int j, .int n] (fun y7 S5 L5 => ((¬ y7 = 0 → zCv mX6_move S5 L5 [.ref 68, .int s, .int i, .int t, .int j, .int n] (fun S6 L6 => P (1 : Int32) S6 L6)) ∧ (y7 = 0 → zCi mX6_finding S5 L5 [.ref 68, .int (2 : Int32)] (fun y8 S6 L6 => P y8 S6 L6)))))))) ∧ (y5 = 0 → zCi mX6_finding S3 L3 [.ref 68, .int (4 : Int32)] (fun y6 S4 L4 => P y6 S4 L4))))) ∧ (¬ y4 = 0 → zCi mX6_finding S2 L2 [.ref 68, .int (1 : Int32)] (fun y5 S3 L3 => P y5 S3 L3)))))))) ∧ (¬ ((0 : Int32) ≤ t ∧ t ≤ (3 : Int32)) → P (-2 : Int32) S L))) ∧ (¬ ((0 : Int32) ≤ s ∧ s ≤ (3 : Int32)) → P (-2 : Int32) S L))) : zU mX10_copy X S L 0 [some (.ref 0), some (.int s), some (.int i), some (.int t), some (.int j), some (.int n)] [] (zpi P) := by
  refine zi_iload_n dX10_copy_0 rfl rfl ?_
  refine zt_Si (As := [.int s]) dX10_copy_1 lk_X10_163 ⟨⟨by decide, by decide⟩, rfl, rfl⟩ rfl ⟨Nat.le_of_ble_eq_true rfl, rfl, rfl⟩ (xSheet_s (P := fun y S9 L9 => y = (if ((0 : Int32) ≤ s ∧ s ≤ (3 : Int32)) then (1 : Int32) else 0) ∧ S = S9 ∧ L = L9) ⟨rfl, rfl, rfl⟩) (fun y1 S9 L9 q9 => ?_)
  obtain ⟨ey1, rfl, rfl⟩ := q9
  by_cases q9 : ((0 : Int32) ≤ s ∧ s ≤ (3 : Int32))
  · replace h := h.1 q9
    rw [if_pos q9] at ey1
    subst ey1
    refine zi_if_eq (tgt := 14) dX10_copy_4 (by decide) (fun z9 => absurd z9 (by decide)) (fun _ => ?_)
    refine zi_iload_n dX10_copy_7 rfl rfl ?_
    refine zt_Si (As := [.int t]) dX10_copy_8 lk_X10_163 ⟨⟨by decide, by decide⟩, rfl, rfl⟩ rfl ⟨Nat.le_of_ble_eq_true rfl, rfl, rfl⟩ (xSheet_s (P := fun y S9 L9 => y = (if ((0 : Int32) ≤ t ∧ t ≤ (3 : Int32)) then (1 : Int32) else 0) ∧ S = S9 ∧ L = L9) ⟨rfl, rfl, rfl⟩) (fun y2 S9 L9 q9 => ?_)
    obtain ⟨ey2, rfl, rfl⟩ := q9
    by_cases q9 : ((0 : Int32) ≤ t ∧ t ≤ (3 : Int32))
    · replace h := h.1 q9
      rw [if_pos q9] at ey2
      subst ey2
      refine zi_if_ne (tgt := 17) dX10_copy_11 (by decide) (fun _ => ?_) (fun z9 => absurd z9 (by decide))
      refine zi_aload_n dX10_copy_17 rfl rfl ?_
      refine zi_getr fl_X10_82 sk0 rfl dX10_copy_18 ?_
      refine zi_iload_n dX10_copy_21 rfl rfl ?_
      refine zt_Vi (As := [.int s]) dX10_copy_22 lk_X10_166 sk68 rfl ⟨⟨by decide, by decide⟩, rfl, rfl⟩ rfl ⟨Nat.le_of_ble_eq_true rfl, rfl, rfl⟩ h (fun y3 S1 L1 h => ?_)
      refine zi_if_ne (tgt := 39) dX10_copy_25 (by decide) (fun q9 => ?_) (fun q9 => ?_)
      · replace h := h.1 q9
        refine zi_aload_n dX10_copy_39 rfl rfl ?_
        refine zi_getr fl_X10_82 sk0 rfl dX10_copy_40 ?_
        refine zi_iconst (v := 1) dX10_copy_43 (by decide) ?_
        refine zt_Vi (As := [.int (1 : Int32)]) dX10_copy_44 lk_X10_169 sk68 rfl ⟨⟨by decide, by decide⟩, rfl, rfl⟩ rfl ⟨Nat.le_of_ble_eq_true rfl, rfl, rfl⟩ h (fun y4 S2 L2 h => ?_)
        exact zt_iret dX10_copy_47 rfl h
      · replace h := h.2 q9
        refine zi_aload_n dX10_copy_28 rfl rfl ?_
        refine zi_getr fl_X10_82 sk0 rfl dX10_copy_29 ?_
        refine zi_iload_n dX10_copy_32 rfl rfl ?_
        refine zt_Vi (As := [.int t]) dX10_copy_33 lk_X10_166 sk68 rfl ⟨⟨by decide, by decide⟩, rfl, rfl⟩ rfl ⟨Nat.le_of_ble_eq_true rfl, rfl, rfl⟩ h (fun y4 S2 L2 h => ?_)
        refine zi_if_eq (tgt := 48) dX10_copy_36 (by decide) (fun q9 => ?_) (fun q9 => ?_)
        · replace h := h.1 q9
          refine zi_aload_n dX10_copy_48 rfl rfl ?_
          refine zi_getr fl_X10_82 sk0 rfl dX10_copy_49 ?_
          refine zi_iload_n dX10_copy_52 rfl rfl ?_
          refine zi_iload_n dX10_copy_53 rfl rfl ?_
          refine zt_Vi (As := [.int s, .int t]) dX10_copy_54 lk_X10_283 sk68 rfl ⟨⟨by decide, by decide⟩, rfl, rfl⟩ rfl ⟨Nat.le_of_ble_eq_true rfl, rfl, rfl⟩ h (fun y5 S3 L3 h => ?_)
          refine zi_if_ne (tgt := 69) dX10_copy_57 (by decide) (fun q9 => ?_) (fun q9 => ?_)
          · replace h := h.1 q9
            refine zi_aload_n dX10_copy_69 rfl rfl ?_
            refine zi_getr fl_X10_82 sk0 rfl dX10_copy_70 ?_
            refine zi_iload_n dX10_copy_73 rfl rfl ?_
            refine zi_iload_n dX10_copy_74 rfl rfl ?_
            refine zi_iload dX10_copy_75 rfl ?_
            refine zt_Vi (As := [.int s, .int i, .int n]) dX10_copy_77 lk_X10_287 sk68 rfl ⟨⟨by decide, by decide⟩, rfl, rfl⟩ rfl ⟨Nat.le_of_ble_eq_true rfl, rfl, rfl⟩ h (fun y6 S4 L4 h => ?_)
            refine zi_if_eq (tgt := 98) dX10_copy_80 (by decide) (fun q9 => ?_) (fun q9 => ?_)
            · replace h := h.1 q9
              refine zi_aload_n dX10_copy_98 rfl rfl ?_
              refine zi_getr fl_X10_82 sk0 rfl dX10_copy_99 ?_
              refine zi_iconst (v := 2) dX10_copy_102 (by decide) ?_
              refine zt_Vi (As := [.int (2 : Int32)]) dX10_copy_103 lk_X10_169 sk68 rfl ⟨⟨by decide, by decide⟩, rfl, rfl⟩ rfl ⟨Nat.le_of_ble_eq_true rfl, rfl, rfl⟩ h (fun y7 S5 L5 h => ?_)
              exact zt_iret dX10_copy_106 rfl h
            · replace h := h.2 q9
              refine zi_aload_n dX10_copy_83 rfl rfl ?_
              refine zi_getr fl_X10_82 sk0 rfl dX10_copy_84 ?_
              refine zi_iload_n dX10_copy_87 rfl rfl ?_
              refine zi_iload dX10_copy_88 rfl ?_
              refine zi_iload dX10_copy_90 rfl ?_
              refine zt_Vi (As := [.int t, .int j, .int n]) dX10_copy_92 lk_X10_287 sk68 rfl ⟨⟨by decide, by decide⟩, rfl, rfl⟩ rfl ⟨Nat.le_of_ble_eq_true rfl, rfl, rfl⟩ h (fun y7 S5 L5 h => ?_)
              refine zi_if_ne (tgt := 107) dX10_copy_95 (by decide) (fun q9 => ?_) (fun q9 => ?_)
              · replace h := h.1 q9
                refine zi_aload_n dX10_copy_107 rfl rfl ?_
                refine zi_getr fl_X10_82 sk0 rfl dX10_copy_108 ?_
                refine zi_iload_n dX10_copy_111 rfl rfl ?_
                refine zi_iload_n dX10_copy_112 rfl rfl ?_
                refine zi_iload_n dX10_copy_113 rfl rfl ?_
                refine zi_iload dX10_copy_114 rfl ?_
                refine zi_iload dX10_copy_116 rfl ?_
                refine zt_Vv (As := [.int s, .int i, .int t, .int j, .int n]) dX10_copy_118 lk_X10_290 sk68 rfl ⟨⟨by decide, by decide⟩, rfl, rfl⟩ rfl ⟨Nat.le_of_ble_eq_true rfl, rfl, rfl⟩ h (fun S6 L6 h => ?_)
                refine zi_iconst (v := 1) dX10_copy_121 (by decide) ?_
                exact zt_iret dX10_copy_122 rfl h
              · replace h := h.2 q9
                refine zi_aload_n dX10_copy_98 rfl rfl ?_
                refine zi_getr fl_X10_82 sk0 rfl dX10_copy_99 ?_
                refine zi_iconst (v := 2) dX10_copy_102 (by decide) ?_
                refine zt_Vi (As := [.int (2 : Int32)]) dX10_copy_103 lk_X10_169 sk68 rfl ⟨⟨by decide, by decide⟩, rfl, rfl⟩ rfl ⟨Nat.le_of_ble_eq_true rfl, rfl, rfl⟩ h (fun y8 S6 L6 h => ?_)
                exact zt_iret dX10_copy_106 rfl h
          · replace h := h.2 q9
            refine zi_aload_n dX10_copy_60 rfl rfl ?_
            refine zi_getr fl_X10_82 sk0 rfl dX10_copy_61 ?_
            refine zi_iconst (v := 4) dX10_copy_64 (by decide) ?_
            refine zt_Vi (As := [.int (4 : Int32)]) dX10_copy_65 lk_X10_169 sk68 rfl ⟨⟨by decide, by decide⟩, rfl, rfl⟩ rfl ⟨Nat.le_of_ble_eq_true rfl, rfl, rfl⟩ h (fun y6 S4 L4 h => ?_)
            exact zt_iret dX10_copy_68 rfl h
        · replace h := h.2 q9
          refine zi_aload_n dX10_copy_39 rfl rfl ?_
          refine zi_getr fl_X10_82 sk0 rfl dX10_copy_40 ?_
          refine zi_iconst (v := 1) dX10_copy_43 (by decide) ?_
          refine zt_Vi (As := [.int (1 : Int32)]) dX10_copy_44 lk_X10_169 sk68 rfl ⟨⟨by decide, by decide⟩, rfl, rfl⟩ rfl ⟨Nat.le_of_ble_eq_true rfl, rfl, rfl⟩ h (fun y5 S3 L3 h => ?_)
          exact zt_iret dX10_copy_47 rfl h
    · replace h := h.2 q9
      rw [if_neg q9] at ey2
      subst ey2
      refine zi_if_ne (tgt := 17) dX10_copy_11 (by decide) (fun z9 => absurd rfl z9) (fun _ => ?_)
      refine zi_bipush (v := -2) dX10_copy_14 (by decide) ?_
      exact zt_iret dX10_copy_16 rfl h
  · replace h := h.2 q9
    rw [if_neg q9] at ey1
    subst ey1
    refine zi_if_eq (tgt := 14) dX10_copy_4 (by decide) (fun _ => ?_) (fun z9 => absurd rfl z9)
    refine zi_bipush (v := -2) dX10_copy_14 (by decide) ?_
    exact zt_iret dX10_copy_16 rfl h
theorem e_X10_copy {s : Int32} {i : Int32} {t : Int32} {j : Int32} {n : Int32} {S : zS} {L : zL} {P : Int32 → zS → zL → Prop} (h : ∀ X, zU mX10_copy X S L 0 [some (.ref 0), some (.int s), some (.int i), some (.int t), some (.int j), some (.int n)] [] (zpi P)) : zCi mX10_copy S L [.ref 0, .int s, .int i, .int t, .int j, .int n] P := zCi_of pn_X10_copy (Nat.le_of_ble_eq_true rfl) (fun X => zt_pad (j := 0) rfl (h X))
set_option maxHeartbeats 2000000 in
theorem b_X6_finding_0 {n : Int32} {X : Nat × (Nat → Int32)} {S : zS} {L : zL} {P : Int32 → zS → zL → Prop} (h : ∀ S1 : zS, S1 = zc S 68 (upd (S 68) 3 n) → P ((-10 : Int32) - n) S1 L) : zU mX6_finding X S L 0 [some (.ref 68), some (.int n)] [] (zpi P) := by
  refine zi_aload_n dX6_finding_0 rfl rfl ?_
  refine zi_iload_n dX6_finding_1 rfl rfl ?_
  refine zi_puti fp_X6_21 sk68 rfl dX6_finding_2 ?_
  refine zt_nmS (fun S1 eS1 => ?_)
  replace h := h S1 eS1
  refine zi_bipush (v := -10) dX6_finding_5 (by decide) ?_
  refine zi_iload_n dX6_finding_7 rfl rfl ?_
  refine zi_isub dX6_finding_8 ?_
  exact zt_iret dX6_finding_9 rfl h
theorem e_X6_finding {n : Int32} {S : zS} {L : zL} {P : Int32 → zS → zL → Prop} (h : ∀ X, zU mX6_finding X S L 0 [some (.ref 68), some (.int n)] [] (zpi P)) : zCi mX6_finding S L [.ref 68, .int n] P := zCi_of pn_X6_finding (Nat.le_of_ble_eq_true rfl) (fun X => zt_pad (j := 0) rfl (h X))
set_option maxHeartbeats 2000000 in
theorem b_X6_isLost_0 {s : Int32} {X : Nat × (Nat → Int32)} {S : zS} {L : zL} {P : Int32 → zS → zL → Prop} (h : ((s < 0 → P (1 : Int32) S L) ∧ (¬ s < 0 → (((4 : Int32) ≤ s → P (1 : Int32) S L) ∧ (¬ (4 : Int32) ≤ s → vp_in s 4 ∧ ((¬ (S 69 s.toNatClampNeg) = (-1 : Int32) → P (0 : Int32) S L) ∧ ((S 69 s.toNatClampNeg) = (-1 : Int32) → P (1 : Int32) S L))))))) : zU mX6_isLost X S L 0 [some (.ref 68), some (.int s)] [] (zpi P) := by
  refine zi_iload_n dX6_isLost_0 rfl rfl ?_
  refine zi_if_lt (tgt := 23) dX6_isLost_1 (by decide) (fun q9 => ?_) (fun q9 => ?_)
  · replace h := h.1 q9
    refine zi_iconst (v := 1) dX6_isLost_23 (by decide) ?_
    refine zi_goto (tgt := 28) dX6_isLost_24 (by decide) ?_
    exact zt_zret (ty := .boolean) dX6_isLost_28 rfl rfl h
  · replace h := h.2 q9
    refine zi_iload_n dX6_isLost_4 rfl rfl ?_
    refine zi_aload_n dX6_isLost_5 rfl rfl ?_
    refine zi_getr fl_X6_9 sk68 rfl dX6_isLost_6 ?_
    refine zi_alen (v := 4) sk69 (by decide) dX6_isLost_9 ?_
    refine zi_icmp_ge (tgt := 23) dX6_isLost_10 (by decide) (fun q9 => ?_) (fun q9 => ?_)
    · replace h := h.1 q9
      refine zi_iconst (v := 1) dX6_isLost_23 (by decide) ?_
      refine zi_goto (tgt := 28) dX6_isLost_24 (by decide) ?_
      exact zt_zret (ty := .boolean) dX6_isLost_28 rfl rfl h
    · replace h := h.2 q9
      refine zi_aload_n dX6_isLost_13 rfl rfl ?_
      refine zi_getr fl_X6_9 sk68 rfl dX6_isLost_14 ?_
      refine zi_iload_n dX6_isLost_17 rfl rfl ?_
      refine zi_iald sk69 h.1 dX6_isLost_18 ?_
      replace h := h.2
      refine zi_iconst (v := -1) dX6_isLost_19 (by decide) ?_
      refine zi_icmp_ne (tgt := 27) dX6_isLost_20 (by decide) (fun q9 => ?_) (fun q9 => ?_)
      · replace h := h.1 q9
        refine zi_iconst (v := 0) dX6_isLost_27 (by decide) ?_
        exact zt_zret (ty := .boolean) dX6_isLost_28 rfl rfl h
      · replace h := h.2 q9
        refine zi_iconst (v := 1) dX6_isLost_23 (by decide) ?_
        refine zi_goto (tgt := 28) dX6_isLost_24 (by decide) ?_
        exact zt_zret (ty := .boolean) dX6_isLost_28 rfl rfl h
theorem e_X6_isLost {s : Int32} {S : zS} {L : zL} {P : Int32 → zS → zL → Prop} (h : ∀ X, zU mX6_isLost X S L 0 [some (.ref 68), some (.int s)] [] (zpi P)) : zCi mX6_isLost S L [.ref 68, .int s] P := zCi_of pn_X6_isLost (Nat.le_of_ble_eq_true rfl) (fun X => zt_pad (j := 0) rfl (h X))
set_option maxHeartbeats 2000000 in
theorem b_X6_length_0 {s : Int32} {X : Nat × (Nat → Int32)} {S : zS} {L : zL} {P : Int32 → zS → zL → Prop} (h : zCi mX6_isLost S L [.ref 68, .int s] (fun y1 S1 L1 => ((y1 = 0 → vp_in s 4 ∧ P (S1 70 s.toNatClampNeg) S1 L1) ∧ (¬ y1 = 0 → P (0 : Int32) S1 L1)))) : zU mX6_length X S L 0 [some (.ref 68), some (.int s)] [] (zpi P) := by
  refine zi_aload_n dX6_length_0 rfl rfl ?_
  refine zi_iload_n dX6_length_1 rfl rfl ?_
  refine zt_Vi (As := [.int s]) dX6_length_2 lk_X6_31 sk68 rfl ⟨⟨by decide, by decide⟩, rfl, rfl⟩ rfl ⟨Nat.le_of_ble_eq_true rfl, rfl, rfl⟩ h (fun y1 S1 L1 h => ?_)
  refine zi_if_eq (tgt := 12) dX6_length_5 (by decide) (fun q9 => ?_) (fun q9 => ?_)
  · replace h := h.1 q9
    refine zi_aload_n dX6_length_12 rfl rfl ?_
    refine zi_getr fl_X6_15 sk68 rfl dX6_length_13 ?_
    refine zi_iload_n dX6_length_16 rfl rfl ?_
    refine zi_iald sk70 h.1 dX6_length_17 ?_
    replace h := h.2
    exact zt_iret dX6_length_18 rfl h
  · replace h := h.2 q9
    refine zi_iconst (v := 0) dX6_length_8 (by decide) ?_
    refine zi_goto (tgt := 18) dX6_length_9 (by decide) ?_
    exact zt_iret dX6_length_18 rfl h
theorem e_X6_length {s : Int32} {S : zS} {L : zL} {P : Int32 → zS → zL → Prop} (h : ∀ X, zU mX6_length X S L 0 [some (.ref 68), some (.int s)] [] (zpi P)) : zCi mX6_length S L [.ref 68, .int s] P := zCi_of pn_X6_length (Nat.le_of_ble_eq_true rfl) (fun X => zt_pad (j := 0) rfl (h X))
set_option maxHeartbeats 2000000 in
theorem b_X6_renew_0 {s : Int32} {form : Int32} {n : Int32} {X : Nat × (Nat → Int32)} {S : zS} {L : zL} {P : Int32 → zS → zL → Prop} (h : ((s < 0 → P (-2 : Int32) S L) ∧ (¬ s < 0 → (((4 : Int32) ≤ s → P (-2 : Int32) S L) ∧ (¬ (4 : Int32) ≤ s → ((n < 0 → P (-2 : Int32) S L) ∧ (¬ n < 0 → ((n ≤ (60 : Int32) → vp_in s 4 ∧ ∀ S1 : zS, S1 = zc S 69 (upd (S 69) s.toNatClampNeg form) → vp_in s 4 ∧ ∀ S2 : zS, S2 = zc S1 70 (upd (S1 70) s.toNatClampNeg n) → zU mX6_renew X S2 L 43 [some (.ref 68), some (.int s), none, some (.int n), some (.int (0 : Int32))] [] (zpi P)) ∧ (¬ n ≤ (60 : Int32) → P (-2 : Int32) S L))))))))) : zU mX6_renew X S L 0 [some (.ref 68), some (.int s), some (.int form), some (.int n), none] [] (zpi P) := by
  refine zi_iload_n dX6_renew_0 rfl rfl ?_
  refine zi_if_lt (tgt := 23) dX6_renew_1 (by decide) (fun q9 => ?_) (fun q9 => ?_)
  · replace h := h.1 q9
    refine zi_bipush (v := -2) dX6_renew_23 (by decide) ?_
    exact zt_iret dX6_renew_25 rfl h
  · replace h := h.2 q9
    refine zi_iload_n dX6_renew_4 rfl rfl ?_
    refine zi_aload_n dX6_renew_5 rfl rfl ?_
    refine zi_getr fl_X6_9 sk68 rfl dX6_renew_6 ?_
    refine zi_alen (v := 4) sk69 (by decide) dX6_renew_9 ?_
    refine zi_icmp_ge (tgt := 23) dX6_renew_10 (by decide) (fun q9 => ?_) (fun q9 => ?_)
    · replace h := h.1 q9
      refine zi_bipush (v := -2) dX6_renew_23 (by decide) ?_
      exact zt_iret dX6_renew_25 rfl h
    · replace h := h.2 q9
      refine zi_iload_n dX6_renew_13 rfl rfl ?_
      refine zi_if_lt (tgt := 23) dX6_renew_14 (by decide) (fun q9 => ?_) (fun q9 => ?_)
      · replace h := h.1 q9
        refine zi_bipush (v := -2) dX6_renew_23 (by decide) ?_
        exact zt_iret dX6_renew_25 rfl h
      · replace h := h.2 q9
        refine zi_iload_n dX6_renew_17 rfl rfl ?_
        refine zi_bipush (v := 60) dX6_renew_18 (by decide) ?_
        refine zi_icmp_le (tgt := 26) dX6_renew_20 (by decide) (fun q9 => ?_) (fun q9 => ?_)
        · replace h := h.1 q9
          refine zi_aload_n dX6_renew_26 rfl rfl ?_
          refine zi_getr fl_X6_9 sk68 rfl dX6_renew_27 ?_
          refine zi_iload_n dX6_renew_30 rfl rfl ?_
          refine zi_iload_n dX6_renew_31 rfl rfl ?_
          refine zi_iast sk69 h.1 dX6_renew_32 ?_
          replace h := h.2
          refine zt_nmS (fun S1 eS1 => ?_)
          replace h := h S1 eS1
          refine zi_aload_n dX6_renew_33 rfl rfl ?_
          refine zi_getr fl_X6_15 sk68 rfl dX6_renew_34 ?_
          refine zi_iload_n dX6_renew_37 rfl rfl ?_
          refine zi_iload_n dX6_renew_38 rfl rfl ?_
          refine zi_iast sk70 h.1 dX6_renew_39 ?_
          replace h := h.2
          refine zt_nmS (fun S2 eS2 => ?_)
          replace h := h S2 eS2
          refine zi_iconst (v := 0) dX6_renew_40 (by decide) ?_
          refine zi_istore dX6_renew_41 (by decide) rfl ?_
          refine zt_drop (lv' := [some (.ref 68), some (.int s), none, some (.int n), some (.int (0 : Int32))]) [true, true, false, true, true] rfl ?_
          exact h
        · replace h := h.2 q9
          refine zi_bipush (v := -2) dX6_renew_23 (by decide) ?_
          exact zt_iret dX6_renew_25 rfl h
set_option maxHeartbeats 2000000 in
theorem b_X6_renew_43 {v1 : Int32} {v3 : Int32} {v4 : Int32} {X : Nat × (Nat → Int32)} {S : zS} {L : zL} {P : Int32 → zS → zL → Prop} (h : (((60 : Int32) ≤ v4 → P v3 S L) ∧ (¬ (60 : Int32) ≤ v4 → vp_in ((v1 * (60 : Int32)) + v4) 240 ∧ ∀ S1 : zS, S1 = zc S 71 (upd (S 71) ((v1 * (60 : Int32)) + v4).toNatClampNeg (0 : Int32)) → ∀ x1 : Int32, x1 = v4 + (1 : Int32) → zU mX6_renew X S1 L 43 [some (.ref 68), some (.int v1), none, some (.int v3), some (.int x1)] [] (zpi P)))) : zU mX6_renew X S L 43 [some (.ref 68), some (.int v1), none, some (.int v3), some (.int v4)] [] (zpi P) := by
  refine zi_iload dX6_renew_43 rfl ?_
  refine zi_bipush (v := 60) dX6_renew_45 (by decide) ?_
  refine zi_icmp_ge (tgt := 69) dX6_renew_47 (by decide) (fun q9 => ?_) (fun q9 => ?_)
  · replace h := h.1 q9
    refine zi_iload_n dX6_renew_69 rfl rfl ?_
    exact zt_iret dX6_renew_70 rfl h
  · replace h := h.2 q9
    refine zi_aload_n dX6_renew_50 rfl rfl ?_
    refine zi_getr fl_X6_18 sk68 rfl dX6_renew_51 ?_
    refine zi_iload_n dX6_renew_54 rfl rfl ?_
    refine zi_bipush (v := 60) dX6_renew_55 (by decide) ?_
    refine zi_imul dX6_renew_57 ?_
    refine zi_iload dX6_renew_58 rfl ?_
    refine zi_iadd dX6_renew_60 ?_
    refine zi_iconst (v := 0) dX6_renew_61 (by decide) ?_
    refine zi_iast sk71 h.1 dX6_renew_62 ?_
    replace h := h.2
    refine zt_nmS (fun S1 eS1 => ?_)
    replace h := h S1 eS1
    obtain ⟨x1, ex1⟩ : ∃ y : Int32, y = v4 + (1 : Int32) := ⟨_, rfl⟩
    replace h := h x1 ex1
    refine zi_iinc (v := x1) dX6_renew_63 rfl (by rw [ex1]; rfl) (by decide) rfl ?_
    refine zi_goto (tgt := 43) dX6_renew_66 (by decide) ?_
    refine zt_drop (lv' := [some (.ref 68), some (.int v1), none, some (.int v3), some (.int x1)]) [true, true, false, true, true] rfl ?_
    exact h
theorem e_X6_renew {s : Int32} {form : Int32} {n : Int32} {S : zS} {L : zL} {P : Int32 → zS → zL → Prop} (h : ∀ X, zU mX6_renew X S L 0 [some (.ref 68), some (.int s), some (.int form), some (.int n), none] [] (zpi P)) : zCi mX6_renew S L [.ref 68, .int s, .int form, .int n] P := zCi_of pn_X6_renew (Nat.le_of_ble_eq_true rfl) (fun X => zt_pad (j := 1) rfl (h X))
set_option maxHeartbeats 2000000 in
theorem b_X6_drop_0 {s : Int32} {X : Nat × (Nat → Int32)} {S : zS} {L : zL} {P : Int32 → zS → zL → Prop} (h : zCi mX6_isLost S L [.ref 68, .int s] (fun y1 S1 L1 => ((y1 = 0 → vp_in s 4 ∧ ∀ S2 : zS, S2 = zc S1 69 (upd (S1 69) s.toNatClampNeg (-1 : Int32)) → vp_in s 4 ∧ P (S2 70 s.toNatClampNeg) S2 L1) ∧ (¬ y1 = 0 → P (0 : Int32) S1 L1)))) : zU mX6_drop X S L 0 [some (.ref 68), some (.int s)] [] (zpi P) := by
  refine zi_aload_n dX6_drop_0 rfl rfl ?_
  refine zi_iload_n dX6_drop_1 rfl rfl ?_
  refine zt_Vi (As := [.int s]) dX6_drop_2 lk_X6_31 sk68 rfl ⟨⟨by decide, by decide⟩, rfl, rfl⟩ rfl ⟨Nat.le_of_ble_eq_true rfl, rfl, rfl⟩ h (fun y1 S1 L1 h => ?_)
  refine zi_if_eq (tgt := 10) dX6_drop_5 (by decide) (fun q9 => ?_) (fun q9 => ?_)
  · replace h := h.1 q9
    refine zi_aload_n dX6_drop_10 rfl rfl ?_
    refine zi_getr fl_X6_9 sk68 rfl dX6_drop_11 ?_
    refine zi_iload_n dX6_drop_14 rfl rfl ?_
    refine zi_iconst (v := -1) dX6_drop_15 (by decide) ?_
    refine zi_iast sk69 h.1 dX6_drop_16 ?_
    replace h := h.2
    refine zt_nmS (fun S2 eS2 => ?_)
    replace h := h S2 eS2
    refine zi_aload_n dX6_drop_17 rfl rfl ?_
    refine zi_getr fl_X6_15 sk68 rfl dX6_drop_18 ?_
    refine zi_iload_n dX6_drop_21 rfl rfl ?_
    refine zi_iald sk70 h.1 dX6_drop_22 ?_
    replace h := h.2
    exact zt_iret dX6_drop_23 rfl h
  · replace h := h.2 q9
    refine zi_iconst (v := 0) dX6_drop_8 (by decide) ?_
    exact zt_iret dX6_drop_9 rfl h
theorem e_X6_drop {s : Int32} {S : zS} {L : zL} {P : Int32 → zS → zL → Prop} (h : ∀ X, zU mX6_drop X S L 0 [some (.ref 68), some (.int s)] [] (zpi P)) : zCi mX6_drop S L [.ref 68, .int s] P := zCi_of pn_X6_drop (Nat.le_of_ble_eq_true rfl) (fun X => zt_pad (j := 0) rfl (h X))
set_option maxHeartbeats 2000000 in
theorem b_X6_holds_0 {s : Int32} {i : Int32} {n : Int32} {X : Nat × (Nat → Int32)} {S : zS} {L : zL} {P : Int32 → zS → zL → Prop} (h : ((i < 0 → P (0 : Int32) S L) ∧ (¬ i < 0 → ((n < 0 → P (0 : Int32) S L) ∧ (¬ n < 0 → zCi mX6_length S L [.ref 68, .int s] (fun y1 S1 L1 => (((y1 - n) < i → P (0 : Int32) S1 L1) ∧ (¬ (y1 - n) < i → P (1 : Int32) S1 L1)))))))) : zU mX6_holds X S L 0 [some (.ref 68), some (.int s), some (.int i), some (.int n)] [] (zpi P) := by
  refine zi_iload_n dX6_holds_0 rfl rfl ?_
  refine zi_if_lt (tgt := 23) dX6_holds_1 (by decide) (fun q9 => ?_) (fun q9 => ?_)
  · replace h := h.1 q9
    refine zi_iconst (v := 0) dX6_holds_23 (by decide) ?_
    exact zt_zret (ty := .boolean) dX6_holds_24 rfl rfl h
  · replace h := h.2 q9
    refine zi_iload_n dX6_holds_4 rfl rfl ?_
    refine zi_if_lt (tgt := 23) dX6_holds_5 (by decide) (fun q9 => ?_) (fun q9 => ?_)
    · replace h := h.1 q9
      refine zi_iconst (v := 0) dX6_holds_23 (by decide) ?_
      exact zt_zret (ty := .boolean) dX6_holds_24 rfl rfl h
    · replace h := h.2 q9
      refine zi_iload_n dX6_holds_8 rfl rfl ?_
      refine zi_aload_n dX6_holds_9 rfl rfl ?_
      refine zi_iload_n dX6_holds_10 rfl rfl ?_
      refine zt_Vi (As := [.int s]) dX6_holds_11 lk_X6_35 sk68 rfl ⟨⟨by decide, by decide⟩, rfl, rfl⟩ rfl ⟨Nat.le_of_ble_eq_true rfl, rfl, rfl⟩ h (fun y1 S1 L1 h => ?_)
      refine zi_iload_n dX6_holds_14 rfl rfl ?_
      refine zi_isub dX6_holds_15 ?_
      refine zi_icmp_gt (tgt := 23) dX6_holds_16 (by decide) (fun q9 => ?_) (fun q9 => ?_)
      · replace h := h.1 q9
        refine zi_iconst (v := 0) dX6_holds_23 (by decide) ?_
        exact zt_zret (ty := .boolean) dX6_holds_24 rfl rfl h
      · replace h := h.2 q9
        refine zi_iconst (v := 1) dX6_holds_19 (by decide) ?_
        refine zi_goto (tgt := 24) dX6_holds_20 (by decide) ?_
        exact zt_zret (ty := .boolean) dX6_holds_24 rfl rfl h
theorem e_X6_holds {s : Int32} {i : Int32} {n : Int32} {S : zS} {L : zL} {P : Int32 → zS → zL → Prop} (h : ∀ X, zU mX6_holds X S L 0 [some (.ref 68), some (.int s), some (.int i), some (.int n)] [] (zpi P)) : zCi mX6_holds S L [.ref 68, .int s, .int i, .int n] P := zCi_of pn_X6_holds (Nat.le_of_ble_eq_true rfl) (fun X => zt_pad (j := 0) rfl (h X))
set_option maxHeartbeats 2000000 in
theorem b_X6_alike_0 {s : Int32} {t : Int32} {X : Nat × (Nat → Int32)} {S : zS} {L : zL} {P : Int32 → zS → zL → Prop} (h : zCi mX6_isLost S L [.ref 68, .int s] (fun y1 S1 L1 => ((¬ y1 = 0 → P (0 : Int32) S1 L1) ∧ (y1 = 0 → zCi mX6_isLost S1 L1 [.ref 68, .int t] (fun y2 S2 L2 => ((¬ y2 = 0 → P (0 : Int32) S2 L2) ∧ (y2 = 0 → vp_in s 4 ∧ vp_in t 4 ∧ ((¬ (S2 69 s.toNatClampNeg) = (S2 69 t.toNatClampNeg) → P (0 : Int32) S2 L2) ∧ ((S2 69 s.toNatClampNeg) = (S2 69 t.toNatClampNeg) → P (1 : Int32) S2 L2))))))))) : zU mX6_alike X S L 0 [some (.ref 68), some (.int s), some (.int t)] [] (zpi P) := by
  refine zi_aload_n dX6_alike_0 rfl rfl ?_
  refine zi_iload_n dX6_alike_1 rfl rfl ?_
  refine zt_Vi (As := [.int s]) dX6_alike_2 lk_X6_31 sk68 rfl ⟨⟨by decide, by decide⟩, rfl, rfl⟩ rfl ⟨Nat.le_of_ble_eq_true rfl, rfl, rfl⟩ h (fun y1 S1 L1 h => ?_)
  refine zi_if_ne (tgt := 35) dX6_alike_5 (by decide) (fun q9 => ?_) (fun q9 => ?_)
  · replace h := h.1 q9
    refine zi_iconst (v := 0) dX6_alike_35 (by decide) ?_
    exact zt_zret (ty := .boolean) dX6_alike_36 rfl rfl h
  · replace h := h.2 q9
    refine zi_aload_n dX6_alike_8 rfl rfl ?_
    refine zi_iload_n dX6_alike_9 rfl rfl ?_
    refine zt_Vi (As := [.int t]) dX6_alike_10 lk_X6_31 sk68 rfl ⟨⟨by decide, by decide⟩, rfl, rfl⟩ rfl ⟨Nat.le_of_ble_eq_true rfl, rfl, rfl⟩ h (fun y2 S2 L2 h => ?_)
    refine zi_if_ne (tgt := 35) dX6_alike_13 (by decide) (fun q9 => ?_) (fun q9 => ?_)
    · replace h := h.1 q9
      refine zi_iconst (v := 0) dX6_alike_35 (by decide) ?_
      exact zt_zret (ty := .boolean) dX6_alike_36 rfl rfl h
    · replace h := h.2 q9
      refine zi_aload_n dX6_alike_16 rfl rfl ?_
      refine zi_getr fl_X6_9 sk68 rfl dX6_alike_17 ?_
      refine zi_iload_n dX6_alike_20 rfl rfl ?_
      refine zi_iald sk69 h.1 dX6_alike_21 ?_
      replace h := h.2
      refine zi_aload_n dX6_alike_22 rfl rfl ?_
      refine zi_getr fl_X6_9 sk68 rfl dX6_alike_23 ?_
      refine zi_iload_n dX6_alike_26 rfl rfl ?_
      refine zi_iald sk69 h.1 dX6_alike_27 ?_
      replace h := h.2
      refine zi_icmp_ne (tgt := 35) dX6_alike_28 (by decide) (fun q9 => ?_) (fun q9 => ?_)
      · replace h := h.1 q9
        refine zi_iconst (v := 0) dX6_alike_35 (by decide) ?_
        exact zt_zret (ty := .boolean) dX6_alike_36 rfl rfl h
      · replace h := h.2 q9
        refine zi_iconst (v := 1) dX6_alike_31 (by decide) ?_
        refine zi_goto (tgt := 36) dX6_alike_32 (by decide) ?_
        exact zt_zret (ty := .boolean) dX6_alike_36 rfl rfl h
theorem e_X6_alike {s : Int32} {t : Int32} {S : zS} {L : zL} {P : Int32 → zS → zL → Prop} (h : ∀ X, zU mX6_alike X S L 0 [some (.ref 68), some (.int s), some (.int t)] [] (zpi P)) : zCi mX6_alike S L [.ref 68, .int s, .int t] P := zCi_of pn_X6_alike (Nat.le_of_ble_eq_true rfl) (fun X => zt_pad (j := 0) rfl (h X))
set_option maxHeartbeats 2000000 in
theorem b_X6_faultAt_0 {s : Int32} {form : Int32} {i : Int32} {X : Nat × (Nat → Int32)} {S : zS} {L : zL} {P : Int32 → zS → zL → Prop} (h : zCi mX6_isLost S L [.ref 68, .int s] (fun y1 S1 L1 => ((y1 = 0 → vp_in s 4 ∧ (((S1 69 s.toNatClampNeg) = form → zCi mX6_holds S1 L1 [.ref 68, .int s, .int i, .int (1 : Int32)] (fun y2 S2 L2 => ((y2 = 0 → P (2 : Int32) S2 L2) ∧ (¬ y2 = 0 → P (0 : Int32) S2 L2)))) ∧ (¬ (S1 69 s.toNatClampNeg) = form → P (3 : Int32) S1 L1))) ∧ (¬ y1 = 0 → P (1 : Int32) S1 L1)))) : zU mX6_faultAt X S L 0 [some (.ref 68), some (.int s), some (.int form), some (.int i)] [] (zpi P) := by
  refine zi_aload_n dX6_faultAt_0 rfl rfl ?_
  refine zi_iload_n dX6_faultAt_1 rfl rfl ?_
  refine zt_Vi (As := [.int s]) dX6_faultAt_2 lk_X6_31 sk68 rfl ⟨⟨by decide, by decide⟩, rfl, rfl⟩ rfl ⟨Nat.le_of_ble_eq_true rfl, rfl, rfl⟩ h (fun y1 S1 L1 h => ?_)
  refine zi_if_eq (tgt := 10) dX6_faultAt_5 (by decide) (fun q9 => ?_) (fun q9 => ?_)
  · replace h := h.1 q9
    refine zi_aload_n dX6_faultAt_10 rfl rfl ?_
    refine zi_getr fl_X6_9 sk68 rfl dX6_faultAt_11 ?_
    refine zi_iload_n dX6_faultAt_14 rfl rfl ?_
    refine zi_iald sk69 h.1 dX6_faultAt_15 ?_
    replace h := h.2
    refine zi_iload_n dX6_faultAt_16 rfl rfl ?_
    refine zi_icmp_eq (tgt := 22) dX6_faultAt_17 (by decide) (fun q9 => ?_) (fun q9 => ?_)
    · replace h := h.1 q9
      refine zi_aload_n dX6_faultAt_22 rfl rfl ?_
      refine zi_iload_n dX6_faultAt_23 rfl rfl ?_
      refine zi_iload_n dX6_faultAt_24 rfl rfl ?_
      refine zi_iconst (v := 1) dX6_faultAt_25 (by decide) ?_
      refine zt_Vi (As := [.int s, .int i, .int (1 : Int32)]) dX6_faultAt_26 lk_X6_39 sk68 rfl ⟨⟨by decide, by decide⟩, rfl, rfl⟩ rfl ⟨Nat.le_of_ble_eq_true rfl, rfl, rfl⟩ h (fun y2 S2 L2 h => ?_)
      refine zi_if_eq (tgt := 36) dX6_faultAt_29 (by decide) (fun q9 => ?_) (fun q9 => ?_)
      · replace h := h.1 q9
        refine zi_iconst (v := 2) dX6_faultAt_36 (by decide) ?_
        exact zt_iret dX6_faultAt_37 rfl h
      · replace h := h.2 q9
        refine zi_iconst (v := 0) dX6_faultAt_32 (by decide) ?_
        refine zi_goto (tgt := 37) dX6_faultAt_33 (by decide) ?_
        exact zt_iret dX6_faultAt_37 rfl h
    · replace h := h.2 q9
      refine zi_iconst (v := 3) dX6_faultAt_20 (by decide) ?_
      exact zt_iret dX6_faultAt_21 rfl h
  · replace h := h.2 q9
    refine zi_iconst (v := 1) dX6_faultAt_8 (by decide) ?_
    exact zt_iret dX6_faultAt_9 rfl h
theorem e_X6_faultAt {s : Int32} {form : Int32} {i : Int32} {S : zS} {L : zL} {P : Int32 → zS → zL → Prop} (h : ∀ X, zU mX6_faultAt X S L 0 [some (.ref 68), some (.int s), some (.int form), some (.int i)] [] (zpi P)) : zCi mX6_faultAt S L [.ref 68, .int s, .int form, .int i] P := zCi_of pn_X6_faultAt (Nat.le_of_ble_eq_true rfl) (fun X => zt_pad (j := 0) rfl (h X))
set_option maxHeartbeats 2000000 in
theorem b_X6_item_0 {s : Int32} {i : Int32} {X : Nat × (Nat → Int32)} {S : zS} {L : zL} {P : Int32 → zS → zL → Prop} (h : zCi mX6_holds S L [.ref 68, .int s, .int i, .int (1 : Int32)] (fun y1 S1 L1 => ((y1 = 0 → P (0 : Int32) S1 L1) ∧ (¬ y1 = 0 → vp_in ((s * (60 : Int32)) + i) 240 ∧ P (S1 71 ((s * (60 : Int32)) + i).toNatClampNeg) S1 L1)))) : zU mX6_item X S L 0 [some (.ref 68), some (.int s), some (.int i)] [] (zpi P) := by
  refine zi_aload_n dX6_item_0 rfl rfl ?_
  refine zi_iload_n dX6_item_1 rfl rfl ?_
  refine zi_iload_n dX6_item_2 rfl rfl ?_
  refine zi_iconst (v := 1) dX6_item_3 (by decide) ?_
  refine zt_Vi (As := [.int s, .int i, .int (1 : Int32)]) dX6_item_4 lk_X6_39 sk68 rfl ⟨⟨by decide, by decide⟩, rfl, rfl⟩ rfl ⟨Nat.le_of_ble_eq_true rfl, rfl, rfl⟩ h (fun y1 S1 L1 h => ?_)
  refine zi_if_eq (tgt := 24) dX6_item_7 (by decide) (fun q9 => ?_) (fun q9 => ?_)
  · replace h := h.1 q9
    refine zi_iconst (v := 0) dX6_item_24 (by decide) ?_
    exact zt_iret dX6_item_25 rfl h
  · replace h := h.2 q9
    refine zi_aload_n dX6_item_10 rfl rfl ?_
    refine zi_getr fl_X6_18 sk68 rfl dX6_item_11 ?_
    refine zi_iload_n dX6_item_14 rfl rfl ?_
    refine zi_bipush (v := 60) dX6_item_15 (by decide) ?_
    refine zi_imul dX6_item_17 ?_
    refine zi_iload_n dX6_item_18 rfl rfl ?_
    refine zi_iadd dX6_item_19 ?_
    refine zi_iald sk71 h.1 dX6_item_20 ?_
    replace h := h.2
    refine zi_goto (tgt := 25) dX6_item_21 (by decide) ?_
    exact zt_iret dX6_item_25 rfl h
theorem e_X6_item {s : Int32} {i : Int32} {S : zS} {L : zL} {P : Int32 → zS → zL → Prop} (h : ∀ X, zU mX6_item X S L 0 [some (.ref 68), some (.int s), some (.int i)] [] (zpi P)) : zCi mX6_item S L [.ref 68, .int s, .int i] P := zCi_of pn_X6_item (Nat.le_of_ble_eq_true rfl) (fun X => zt_pad (j := 0) rfl (h X))
set_option maxHeartbeats 2000000 in
theorem b_X6_store_0 {s : Int32} {i : Int32} {v : Int32} {X : Nat × (Nat → Int32)} {S : zS} {L : zL} {P : zS → zL → Prop} (h : zCi mX6_holds S L [.ref 68, .int s, .int i, .int (1 : Int32)] (fun y1 S1 L1 => ((y1 = 0 → P S1 L1) ∧ (¬ y1 = 0 → vp_in s 4 ∧ ((¬ (S1 69 s.toNatClampNeg) = 0 → vp_in s 4 ∧ ((¬ (S1 69 s.toNatClampNeg) = (1 : Int32) → vp_in ((s * (60 : Int32)) + i) 240 ∧ ∀ S2 : zS, S2 = zc S1 71 (upd (S1 71) ((s * (60 : Int32)) + i).toNatClampNeg v) → P S2 L1) ∧ ((S1 69 s.toNatClampNeg) = (1 : Int32) → vp_in ((s * (60 : Int32)) + i) 240 ∧ ∀ S2 : zS, S2 = zc S1 71 (upd (S1 71) ((s * (60 : Int32)) + i).toNatClampNeg v.toInt16.toInt32) → P S2 L1))) ∧ ((S1 69 s.toNatClampNeg) = 0 → vp_in ((s * (60 : Int32)) + i) 240 ∧ ∀ S2 : zS, S2 = zc S1 71 (upd (S1 71) ((s * (60 : Int32)) + i).toNatClampNeg v.toInt8.toInt32) → P S2 L1)))))) : zU mX6_store X S L 0 [some (.ref 68), some (.int s), some (.int i), some (.int v)] [] (zpv P) := by
  refine zi_aload_n dX6_store_0 rfl rfl ?_
  refine zi_iload_n dX6_store_1 rfl rfl ?_
  refine zi_iload_n dX6_store_2 rfl rfl ?_
  refine zi_iconst (v := 1) dX6_store_3 (by decide) ?_
  refine zt_Vi (As := [.int s, .int i, .int (1 : Int32)]) dX6_store_4 lk_X6_39 sk68 rfl ⟨⟨by decide, by decide⟩, rfl, rfl⟩ rfl ⟨Nat.le_of_ble_eq_true rfl, rfl, rfl⟩ h (fun y1 S1 L1 h => ?_)
  refine zi_if_eq (tgt := 51) dX6_store_7 (by decide) (fun q9 => ?_) (fun q9 => ?_)
  · replace h := h.1 q9
    exact zt_vret dX6_store_51 rfl h
  · replace h := h.2 q9
    refine zi_aload_n dX6_store_10 rfl rfl ?_
    refine zi_getr fl_X6_18 sk68 rfl dX6_store_11 ?_
    refine zi_iload_n dX6_store_14 rfl rfl ?_
    refine zi_bipush (v := 60) dX6_store_15 (by decide) ?_
    refine zi_imul dX6_store_17 ?_
    refine zi_iload_n dX6_store_18 rfl rfl ?_
    refine zi_iadd dX6_store_19 ?_
    refine zi_aload_n dX6_store_20 rfl rfl ?_
    refine zi_getr fl_X6_9 sk68 rfl dX6_store_21 ?_
    refine zi_iload_n dX6_store_24 rfl rfl ?_
    refine zi_iald sk69 h.1 dX6_store_25 ?_
    replace h := h.2
    refine zi_if_ne (tgt := 34) dX6_store_26 (by decide) (fun q9 => ?_) (fun q9 => ?_)
    · replace h := h.1 q9
      refine zi_aload_n dX6_store_34 rfl rfl ?_
      refine zi_getr fl_X6_9 sk68 rfl dX6_store_35 ?_
      refine zi_iload_n dX6_store_38 rfl rfl ?_
      refine zi_iald sk69 h.1 dX6_store_39 ?_
      replace h := h.2
      refine zi_iconst (v := 1) dX6_store_40 (by decide) ?_
      refine zi_icmp_ne (tgt := 49) dX6_store_41 (by decide) (fun q9 => ?_) (fun q9 => ?_)
      · replace h := h.1 q9
        refine zi_iload_n dX6_store_49 rfl rfl ?_
        refine zi_iast sk71 h.1 dX6_store_50 ?_
        replace h := h.2
        refine zt_nmS (fun S2 eS2 => ?_)
        replace h := h S2 eS2
        exact zt_vret dX6_store_51 rfl h
      · replace h := h.2 q9
        refine zi_iload_n dX6_store_44 rfl rfl ?_
        refine zi_i2s dX6_store_45 ?_
        refine zi_goto (tgt := 50) dX6_store_46 (by decide) ?_
        refine zi_iast sk71 h.1 dX6_store_50 ?_
        replace h := h.2
        refine zt_nmS (fun S2 eS2 => ?_)
        replace h := h S2 eS2
        exact zt_vret dX6_store_51 rfl h
    · replace h := h.2 q9
      refine zi_iload_n dX6_store_29 rfl rfl ?_
      refine zi_i2b dX6_store_30 ?_
      refine zi_goto (tgt := 50) dX6_store_31 (by decide) ?_
      refine zi_iast sk71 h.1 dX6_store_50 ?_
      replace h := h.2
      refine zt_nmS (fun S2 eS2 => ?_)
      replace h := h S2 eS2
      exact zt_vret dX6_store_51 rfl h
theorem e_X6_store {s : Int32} {i : Int32} {v : Int32} {S : zS} {L : zL} {P : zS → zL → Prop} (h : ∀ X, zU mX6_store X S L 0 [some (.ref 68), some (.int s), some (.int i), some (.int v)] [] (zpv P)) : zCv mX6_store S L [.ref 68, .int s, .int i, .int v] P := zCv_of pn_X6_store (Nat.le_of_ble_eq_true rfl) (fun X => zt_pad (j := 0) rfl (h X))
set_option maxHeartbeats 2000000 in
theorem b_X6_move_0 {s : Int32} {i : Int32} {t : Int32} {j : Int32} {n : Int32} {X : Nat × (Nat → Int32)} {S : zS} {L : zL} {P : zS → zL → Prop} (h : zCi mX6_holds S L [.ref 68, .int s, .int i, .int n] (fun y1 S1 L1 => ((y1 = 0 → P S1 L1) ∧ (¬ y1 = 0 → zCi mX6_holds S1 L1 [.ref 68, .int t, .int j, .int n] (fun y2 S2 L2 => ((y2 = 0 → P S2 L2) ∧ (¬ y2 = 0 → ((¬ ((s * (60 : Int32)) + i) < 0 ∧ ¬ ((t * (60 : Int32)) + j) < 0 ∧ ¬ n < 0) ∧ ((s * (60 : Int32)) + i).toNatClampNeg + n.toNatClampNeg ≤ 240 ∧ ((t * (60 : Int32)) + j).toNatClampNeg + n.toNatClampNeg ≤ 240) ∧ ∀ S3 : zS, S3 = zc S2 71 (va_cpy (S2 71) (S2 71) ((s * (60 : Int32)) + i).toNatClampNeg ((t * (60 : Int32)) + j).toNatClampNeg n.toNatClampNeg) → P S3 L2))))))) : zU mX6_move X S L 0 [some (.ref 68), some (.int s), some (.int i), some (.int t), some (.int j), some (.int n)] [] (zpv P) := by
  refine zi_aload_n dX6_move_0 rfl rfl ?_
  refine zi_iload_n dX6_move_1 rfl rfl ?_
  refine zi_iload_n dX6_move_2 rfl rfl ?_
  refine zi_iload dX6_move_3 rfl ?_
  refine zt_Vi (As := [.int s, .int i, .int n]) dX6_move_5 lk_X6_39 sk68 rfl ⟨⟨by decide, by decide⟩, rfl, rfl⟩ rfl ⟨Nat.le_of_ble_eq_true rfl, rfl, rfl⟩ h (fun y1 S1 L1 h => ?_)
  refine zi_if_eq (tgt := 49) dX6_move_8 (by decide) (fun q9 => ?_) (fun q9 => ?_)
  · replace h := h.1 q9
    exact zt_vret dX6_move_49 rfl h
  · replace h := h.2 q9
    refine zi_aload_n dX6_move_11 rfl rfl ?_
    refine zi_iload_n dX6_move_12 rfl rfl ?_
    refine zi_iload dX6_move_13 rfl ?_
    refine zi_iload dX6_move_15 rfl ?_
    refine zt_Vi (As := [.int t, .int j, .int n]) dX6_move_17 lk_X6_39 sk68 rfl ⟨⟨by decide, by decide⟩, rfl, rfl⟩ rfl ⟨Nat.le_of_ble_eq_true rfl, rfl, rfl⟩ h (fun y2 S2 L2 h => ?_)
    refine zi_if_eq (tgt := 49) dX6_move_20 (by decide) (fun q9 => ?_) (fun q9 => ?_)
    · replace h := h.1 q9
      exact zt_vret dX6_move_49 rfl h
    · replace h := h.2 q9
      refine zi_aload_n dX6_move_23 rfl rfl ?_
      refine zi_getr fl_X6_18 sk68 rfl dX6_move_24 ?_
      refine zi_iload_n dX6_move_27 rfl rfl ?_
      refine zi_bipush (v := 60) dX6_move_28 (by decide) ?_
      refine zi_imul dX6_move_30 ?_
      refine zi_iload_n dX6_move_31 rfl rfl ?_
      refine zi_iadd dX6_move_32 ?_
      refine zi_aload_n dX6_move_33 rfl rfl ?_
      refine zi_getr fl_X6_18 sk68 rfl dX6_move_34 ?_
      refine zi_iload_n dX6_move_37 rfl rfl ?_
      refine zi_bipush (v := 60) dX6_move_38 (by decide) ?_
      refine zi_imul dX6_move_40 ?_
      refine zi_iload dX6_move_41 rfl ?_
      refine zi_iadd dX6_move_43 ?_
      refine zi_iload dX6_move_44 rfl ?_
      refine zi_copyi dX6_move_46 ly_X6_43 (by decide) (Nat.le_of_ble_eq_true rfl) sk71 sk71 h.1 ?_
      replace h := h.2
      refine zt_nmS (fun S3 eS3 => ?_)
      replace h := h S3 eS3
      exact zt_vret dX6_move_49 rfl h
theorem e_X6_move {s : Int32} {i : Int32} {t : Int32} {j : Int32} {n : Int32} {S : zS} {L : zL} {P : zS → zL → Prop} (h : ∀ X, zU mX6_move X S L 0 [some (.ref 68), some (.int s), some (.int i), some (.int t), some (.int j), some (.int n)] [] (zpv P)) : zCv mX6_move S L [.ref 68, .int s, .int i, .int t, .int j, .int n] P := zCv_of pn_X6_move (Nat.le_of_ble_eq_true rfl) (fun X => zt_pad (j := 0) rfl (h X))
