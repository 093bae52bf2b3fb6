set_option maxHeartbeats 2000000 in
theorem b_X11_meets_0 {n : Int32} {X : Nat × (Nat → Int32)} {S : zS} {L : zL} {P : Int32 → zS → zL → Prop} (h : ∀ S1 : zS, S1 = zc S 72 (upd (S 72) 55 n) → P ((-10 : Int32) - n) S1 L) : zU mX11_meets X S L 0 [some (.ref 72), some (.int n)] [] (zpi P) := by
  refine zi_aload_n dX11_meets_0 rfl rfl ?_
  refine zi_iload_n dX11_meets_1 rfl rfl ?_
  refine zi_puti fp_X11_355 sk72 rfl dX11_meets_2 ?_
  refine zt_nmS (fun S1 eS1 => ?_)
  replace h := h S1 eS1
  refine zi_bipush (v := -10) dX11_meets_5 (by decide) ?_
  refine zi_iload_n dX11_meets_7 rfl rfl ?_
  refine zi_isub dX11_meets_8 ?_
  exact zt_iret dX11_meets_9 rfl h
theorem e_X11_meets {n : Int32} {S : zS} {L : zL} {P : Int32 → zS → zL → Prop} (h : ∀ X, zU mX11_meets X S L 0 [some (.ref 72), some (.int n)] [] (zpi P)) : zCi mX11_meets S L [.ref 72, .int n] P := zCi_of pn_X11_meets (Nat.le_of_ble_eq_true rfl) (fun X => zt_pad (j := 0) rfl (h X))
set_option maxHeartbeats 2000000 in
theorem b_X11_sheet_0 {s : Int32} {form : Int32} {n : Int32} {X : Nat × (Nat → Int32)} {S : zS} {L : zL} {P : Int32 → zS → zL → Prop} (h : ((((0 : Int32) ≤ s ∧ s ≤ (3 : Int32)) → ((((0 : Int32) ≤ form ∧ form ≤ (2 : Int32)) → ((n ≤ (60 : Int32) → ((0 ≤ n → vp_in s 4 ∧ ∀ S1 : zS, S1 = zc S 108 (upd (S 108) s.toNatClampNeg (vp_nar .boolean (1 : Int32))) → vp_in s 4 ∧ ∀ S2 : zS, S2 = zc S1 109 (upd (S1 109) s.toNatClampNeg form) → vp_in s 4 ∧ ∀ S3 : zS, S3 = zc S2 110 (upd (S2 110) s.toNatClampNeg n) → zU mX11_sheet X S3 L 59 [some (.ref 72), some (.int s), none, some (.int n), some (.int (0 : Int32))] [] (zpi P)) ∧ (¬ 0 ≤ n → zCi mX11_meets S L [.ref 72, .int (5 : Int32)] (fun y3 S1 L1 => P y3 S1 L1)))) ∧ (¬ n ≤ (60 : Int32) → P (-2 : Int32) S L))) ∧ (¬ ((0 : Int32) ≤ form ∧ form ≤ (2 : Int32)) → P (-2 : Int32) S L))) ∧ (¬ ((0 : Int32) ≤ s ∧ s ≤ (3 : Int32)) → P (-2 : Int32) S L))) : zU mX11_sheet X S L 0 [some (.ref 72), some (.int s), some (.int form), some (.int n), none] [] (zpi P) := by
  refine zi_iload_n dX11_sheet_0 rfl rfl ?_
  refine zt_Si (As := [.int s]) dX11_sheet_1 lk_X11_201 ⟨⟨by decide, by decide⟩, rfl, rfl⟩ rfl ⟨Nat.le_of_ble_eq_true rfl, rfl, rfl⟩ (isSheet_s (P := fun y S9 L9 => y = (if ((0 : Int32) ≤ s ∧ s ≤ (3 : Int32)) then (1 : Int32) else 0) ∧ S = S9 ∧ L = L9) ⟨rfl, rfl, rfl⟩) (fun y1 S9 L9 q9 => ?_)
  obtain ⟨ey1, rfl, rfl⟩ := q9
  by_cases q9 : ((0 : Int32) ≤ s ∧ s ≤ (3 : Int32))
  · replace h := h.1 q9
    rw [if_pos q9] at ey1
    subst ey1
    refine zi_if_eq (tgt := 22) dX11_sheet_4 (by decide) (fun z9 => absurd z9 (by decide)) (fun _ => ?_)
    refine zi_iload_n dX11_sheet_7 rfl rfl ?_
    refine zi_iconst (v := 0) dX11_sheet_8 (by decide) ?_
    refine zi_iconst (v := 2) dX11_sheet_9 (by decide) ?_
    refine zt_Si (As := [.int form, .int (0 : Int32), .int (2 : Int32)]) dX11_sheet_10 lk_X11_140 ⟨⟨by decide, by decide⟩, rfl, rfl⟩ rfl ⟨Nat.le_of_ble_eq_true rfl, rfl, rfl⟩ (in_s (P := fun y S9 L9 => y = (if ((0 : Int32) ≤ form ∧ form ≤ (2 : Int32)) then (1 : Int32) else 0) ∧ S = S9 ∧ L = L9) ⟨rfl, rfl, rfl⟩) (fun y2 S9 L9 q9 => ?_)
    obtain ⟨ey2, rfl, rfl⟩ := q9
    by_cases q9 : ((0 : Int32) ≤ form ∧ form ≤ (2 : Int32))
    · replace h := h.1 q9
      rw [if_pos q9] at ey2
      subst ey2
      refine zi_if_eq (tgt := 22) dX11_sheet_13 (by decide) (fun z9 => absurd z9 (by decide)) (fun _ => ?_)
      refine zi_iload_n dX11_sheet_16 rfl rfl ?_
      refine zi_bipush (v := 60) dX11_sheet_17 (by decide) ?_
      refine zi_icmp_le (tgt := 25) dX11_sheet_19 (by decide) (fun q9 => ?_) (fun q9 => ?_)
      · replace h := h.1 q9
        refine zi_iload_n dX11_sheet_25 rfl rfl ?_
        refine zi_if_ge (tgt := 35) dX11_sheet_26 (by decide) (fun q9 => ?_) (fun q9 => ?_)
        · replace h := h.1 q9
          refine zi_aload_n dX11_sheet_35 rfl rfl ?_
          refine zi_getr fl_X11_115 sk72 rfl dX11_sheet_36 ?_
          refine zi_iload_n dX11_sheet_39 rfl rfl ?_
          refine zi_iconst (v := 1) dX11_sheet_40 (by decide) ?_
          refine zi_zast sk108 h.1 dX11_sheet_41 ?_
          replace h := h.2
          refine zt_nmS (fun S1 eS1 => ?_)
          replace h := h S1 eS1
          refine zi_aload_n dX11_sheet_42 rfl rfl ?_
          refine zi_getr fl_X11_119 sk72 rfl dX11_sheet_43 ?_
          refine zi_iload_n dX11_sheet_46 rfl rfl ?_
          refine zi_iload_n dX11_sheet_47 rfl rfl ?_
          refine zi_iast sk109 h.1 dX11_sheet_48 ?_
          replace h := h.2
          refine zt_nmS (fun S2 eS2 => ?_)
          replace h := h S2 eS2
          refine zi_aload_n dX11_sheet_49 rfl rfl ?_
          refine zi_getr fl_X11_122 sk72 rfl dX11_sheet_50 ?_
          refine zi_iload_n dX11_sheet_53 rfl rfl ?_
          refine zi_iload_n dX11_sheet_54 rfl rfl ?_
          refine zi_iast sk110 h.1 dX11_sheet_55 ?_
          replace h := h.2
          refine zt_nmS (fun S3 eS3 => ?_)
          replace h := h S3 eS3
          refine zi_iconst (v := 0) dX11_sheet_56 (by decide) ?_
          refine zi_istore dX11_sheet_57 (by decide) rfl ?_
          refine zt_drop (lv' := [some (.ref 72), some (.int s), none, some (.int n), some (.int (0 : Int32))]) [true, true, false, true, true] rfl ?_
          exact h
        · replace h := h.2 q9
          refine zi_aload_n dX11_sheet_29 rfl rfl ?_
          refine zi_iconst (v := 5) dX11_sheet_30 (by decide) ?_
          refine zt_Vi (As := [.int (5 : Int32)]) dX11_sheet_31 lk_X11_204 sk72 rfl ⟨⟨by decide, by decide⟩, rfl, rfl⟩ rfl ⟨Nat.le_of_ble_eq_true rfl, rfl, rfl⟩ h (fun y3 S1 L1 h => ?_)
          exact zt_iret dX11_sheet_34 rfl h
      · replace h := h.2 q9
        refine zi_bipush (v := -2) dX11_sheet_22 (by decide) ?_
        exact zt_iret dX11_sheet_24 rfl h
    · replace h := h.2 q9
      rw [if_neg q9] at ey2
      subst ey2
      refine zi_if_eq (tgt := 22) dX11_sheet_13 (by decide) (fun _ => ?_) (fun z9 => absurd rfl z9)
      refine zi_bipush (v := -2) dX11_sheet_22 (by decide) ?_
      exact zt_iret dX11_sheet_24 rfl h
  · replace h := h.2 q9
    rw [if_neg q9] at ey1
    subst ey1
    refine zi_if_eq (tgt := 22) dX11_sheet_4 (by decide) (fun _ => ?_) (fun z9 => absurd rfl z9)
    refine zi_bipush (v := -2) dX11_sheet_22 (by decide) ?_
    exact zt_iret dX11_sheet_24 rfl h
set_option maxHeartbeats 2000000 in
theorem b_X11_sheet_59 {v1 : Int32} {v3 : Int32} {v4 : Int32} {X : Nat × (Nat → Int32)} {S : zS} {L : zL} {P : Int32 → zS → zL → Prop} (h : (((60 : Int32) ≤ v4 → P v3 S L) ∧ (¬ (60 : Int32) ≤ v4 → vp_in (((60 : Int32) * v1) + v4) 240 ∧ ∀ S1 : zS, S1 = zc S 111 (upd (S 111) (((60 : Int32) * v1) + v4).toNatClampNeg (0 : Int32)) → ∀ x1 : Int32, x1 = v4 + (1 : Int32) → zU mX11_sheet X S1 L 59 [some (.ref 72), some (.int v1), none, some (.int v3), some (.int x1)] [] (zpi P)))) : zU mX11_sheet X S L 59 [some (.ref 72), some (.int v1), none, some (.int v3), some (.int v4)] [] (zpi P) := by
  refine zi_iload dX11_sheet_59 rfl ?_
  refine zi_bipush (v := 60) dX11_sheet_61 (by decide) ?_
  refine zi_icmp_ge (tgt := 85) dX11_sheet_63 (by decide) (fun q9 => ?_) (fun q9 => ?_)
  · replace h := h.1 q9
    refine zi_iload_n dX11_sheet_85 rfl rfl ?_
    exact zt_iret dX11_sheet_86 rfl h
  · replace h := h.2 q9
    refine zi_aload_n dX11_sheet_66 rfl rfl ?_
    refine zi_getr fl_X11_125 sk72 rfl dX11_sheet_67 ?_
    refine zi_bipush (v := 60) dX11_sheet_70 (by decide) ?_
    refine zi_iload_n dX11_sheet_72 rfl rfl ?_
    refine zi_imul dX11_sheet_73 ?_
    refine zi_iload dX11_sheet_74 rfl ?_
    refine zi_iadd dX11_sheet_76 ?_
    refine zi_iconst (v := 0) dX11_sheet_77 (by decide) ?_
    refine zi_iast sk111 h.1 dX11_sheet_78 ?_
    replace h := h.2
    refine zt_nmS (fun S1 eS1 => ?_)
    replace h := h S1 eS1
    obtain ⟨x1, ex1⟩ : ∃ y : Int32, y = v4 + (1 : Int32) := ⟨_, rfl⟩
    replace h := h x1 ex1
    refine zi_iinc (v := x1) dX11_sheet_79 rfl (by rw [ex1]; rfl) (by decide) rfl ?_
    refine zi_goto (tgt := 59) dX11_sheet_82 (by decide) ?_
    refine zt_drop (lv' := [some (.ref 72), some (.int v1), none, some (.int v3), some (.int x1)]) [true, true, false, true, true] rfl ?_
    exact h
theorem e_X11_sheet {s : Int32} {form : Int32} {n : Int32} {S : zS} {L : zL} {P : Int32 → zS → zL → Prop} (h : ∀ X, zU mX11_sheet X S L 0 [some (.ref 72), some (.int s), some (.int form), some (.int n), none] [] (zpi P)) : zCi mX11_sheet S L [.ref 72, .int s, .int form, .int n] P := zCi_of pn_X11_sheet (Nat.le_of_ble_eq_true rfl) (fun X => zt_pad (j := 1) rfl (h X))
set_option maxHeartbeats 2000000 in
theorem b_X11_lose_0 {s : Int32} {X : Nat × (Nat → Int32)} {S : zS} {L : zL} {P : Int32 → zS → zL → Prop} (h : ((((0 : Int32) ≤ s ∧ s ≤ (3 : Int32)) → vp_in s 4 ∧ ((¬ (S 108 s.toNatClampNeg) = 0 → vp_in s 4 ∧ ∀ S1 : zS, S1 = zc S 108 (upd (S 108) s.toNatClampNeg (vp_nar .boolean (0 : Int32))) → vp_in s 4 ∧ P (S1 110 s.toNatClampNeg) S1 L) ∧ ((S 108 s.toNatClampNeg) = 0 → zCi mX11_meets S L [.ref 72, .int (1 : Int32)] (fun y2 S1 L1 => P y2 S1 L1)))) ∧ (¬ ((0 : Int32) ≤ s ∧ s ≤ (3 : Int32)) → P (-2 : Int32) S L))) : zU mX11_lose X S L 0 [some (.ref 72), some (.int s)] [] (zpi P) := by
  refine zi_iload_n dX11_lose_0 rfl rfl ?_
  refine zt_Si (As := [.int s]) dX11_lose_1 lk_X11_201 ⟨⟨by decide, by decide⟩, rfl, rfl⟩ rfl ⟨Nat.le_of_ble_eq_true rfl, rfl, rfl⟩ (isSheet_s (P := fun y S9 L9 => y = (if ((0 : Int32) ≤ s ∧ s ≤ (3 : Int32)) then (1 : Int32) else 0) ∧ S = S9 ∧ L = L9) ⟨rfl, rfl, rfl⟩) (fun y1 S9 L9 q9 => ?_)
  obtain ⟨ey1, rfl, rfl⟩ := q9
  by_cases q9 : ((0 : Int32) ≤ s ∧ s ≤ (3 : Int32))
  · replace h := h.1 q9
    rw [if_pos q9] at ey1
    subst ey1
    refine zi_if_ne (tgt := 10) dX11_lose_4 (by decide) (fun _ => ?_) (fun z9 => absurd z9 (by decide))
    refine zi_aload_n dX11_lose_10 rfl rfl ?_
    refine zi_getr fl_X11_115 sk72 rfl dX11_lose_11 ?_
    refine zi_iload_n dX11_lose_14 rfl rfl ?_
    refine zi_zald sk108 h.1 dX11_lose_15 ?_
    replace h := h.2
    refine zi_if_ne (tgt := 25) dX11_lose_16 (by decide) (fun q9 => ?_) (fun q9 => ?_)
    · replace h := h.1 q9
      refine zi_aload_n dX11_lose_25 rfl rfl ?_
      refine zi_getr fl_X11_115 sk72 rfl dX11_lose_26 ?_
      refine zi_iload_n dX11_lose_29 rfl rfl ?_
      refine zi_iconst (v := 0) dX11_lose_30 (by decide) ?_
      refine zi_zast sk108 h.1 dX11_lose_31 ?_
      replace h := h.2
      refine zt_nmS (fun S1 eS1 => ?_)
      replace h := h S1 eS1
      refine zi_aload_n dX11_lose_32 rfl rfl ?_
      refine zi_getr fl_X11_122 sk72 rfl dX11_lose_33 ?_
      refine zi_iload_n dX11_lose_36 rfl rfl ?_
      refine zi_iald sk110 h.1 dX11_lose_37 ?_
      replace h := h.2
      exact zt_iret dX11_lose_38 rfl h
    · replace h := h.2 q9
      refine zi_aload_n dX11_lose_19 rfl rfl ?_
      refine zi_iconst (v := 1) dX11_lose_20 (by decide) ?_
      refine zt_Vi (As := [.int (1 : Int32)]) dX11_lose_21 lk_X11_204 sk72 rfl ⟨⟨by decide, by decide⟩, rfl, rfl⟩ rfl ⟨Nat.le_of_ble_eq_true rfl, rfl, rfl⟩ h (fun y2 S1 L1 h => ?_)
      exact zt_iret dX11_lose_24 rfl h
  · replace h := h.2 q9
    rw [if_neg q9] at ey1
    subst ey1
    refine zi_if_ne (tgt := 10) dX11_lose_4 (by decide) (fun z9 => absurd rfl z9) (fun _ => ?_)
    refine zi_bipush (v := -2) dX11_lose_7 (by decide) ?_
    exact zt_iret dX11_lose_9 rfl h
theorem e_X11_lose {s : Int32} {S : zS} {L : zL} {P : Int32 → zS → zL → Prop} (h : ∀ X, zU mX11_lose X S L 0 [some (.ref 72), some (.int s)] [] (zpi P)) : zCi mX11_lose S L [.ref 72, .int s] P := zCi_of pn_X11_lose (Nat.le_of_ble_eq_true rfl) (fun X => zt_pad (j := 0) rfl (h X))
set_option maxHeartbeats 2000000 in
theorem b_X11_lacks_0 {s : Int32} {form : Int32} {i : Int32} {X : Nat × (Nat → Int32)} {S : zS} {L : zL} {P : Int32 → zS → zL → Prop} (h : vp_in s 4 ∧ ((¬ (S 108 s.toNatClampNeg) = 0 → vp_in s 4 ∧ (((S 109 s.toNatClampNeg) = form → vp_in s 4 ∧ ((((0 : Int32) ≤ i ∧ i ≤ ((S 110 s.toNatClampNeg) - (1 : Int32))) → P (0 : Int32) S L) ∧ (¬ ((0 : Int32) ≤ i ∧ i ≤ ((S 110 s.toNatClampNeg) - (1 : Int32))) → P (2 : Int32) S L))) ∧ (¬ (S 109 s.toNatClampNeg) = form → P (3 : Int32) S L))) ∧ ((S 108 s.toNatClampNeg) = 0 → P (1 : Int32) S L))) : zU mX11_lacks X S L 0 [some (.ref 72), some (.int s), some (.int form), some (.int i)] [] (zpi P) := by
  refine zi_aload_n dX11_lacks_0 rfl rfl ?_
  refine zi_getr fl_X11_115 sk72 rfl dX11_lacks_1 ?_
  refine zi_iload_n dX11_lacks_4 rfl rfl ?_
  refine zi_zald sk108 h.1 dX11_lacks_5 ?_
  replace h := h.2
  refine zi_if_ne (tgt := 13) dX11_lacks_6 (by decide) (fun q9 => ?_) (fun q9 => ?_)
  · replace h := h.1 q9
    refine zi_aload_n dX11_lacks_13 rfl rfl ?_
    refine zi_getr fl_X11_119 sk72 rfl dX11_lacks_14 ?_
    refine zi_iload_n dX11_lacks_17 rfl rfl ?_
    refine zi_iald sk109 h.1 dX11_lacks_18 ?_
    replace h := h.2
    refine zi_iload_n dX11_lacks_19 rfl rfl ?_
    refine zi_icmp_eq (tgt := 27) dX11_lacks_20 (by decide) (fun q9 => ?_) (fun q9 => ?_)
    · replace h := h.1 q9
      refine zi_iload_n dX11_lacks_27 rfl rfl ?_
      refine zi_iconst (v := 0) dX11_lacks_28 (by decide) ?_
      refine zi_aload_n dX11_lacks_29 rfl rfl ?_
      refine zi_getr fl_X11_122 sk72 rfl dX11_lacks_30 ?_
      refine zi_iload_n dX11_lacks_33 rfl rfl ?_
      refine zi_iald sk110 h.1 dX11_lacks_34 ?_
      replace h := h.2
      refine zi_iconst (v := 1) dX11_lacks_35 (by decide) ?_
      refine zi_isub dX11_lacks_36 ?_
      refine zt_Si (As := [.int i, .int (0 : Int32), .int ((S 110 s.toNatClampNeg) - (1 : Int32))]) dX11_lacks_37 lk_X11_140 ⟨⟨by decide, by decide⟩, rfl, rfl⟩ rfl ⟨Nat.le_of_ble_eq_true rfl, rfl, rfl⟩ (in_s (P := fun y S9 L9 => y = (if ((0 : Int32) ≤ i ∧ i ≤ ((S 110 s.toNatClampNeg) - (1 : Int32))) then (1 : Int32) else 0) ∧ S = S9 ∧ L = L9) ⟨rfl, rfl, rfl⟩) (fun y1 S9 L9 q9 => ?_)
      obtain ⟨ey1, rfl, rfl⟩ := q9
      by_cases q9 : ((0 : Int32) ≤ i ∧ i ≤ ((S 110 s.toNatClampNeg) - (1 : Int32)))
      · replace h := h.1 q9
        rw [if_pos q9] at ey1
        subst ey1
        refine zi_if_eq (tgt := 47) dX11_lacks_40 (by decide) (fun z9 => absurd z9 (by decide)) (fun _ => ?_)
        refine zi_iconst (v := 0) dX11_lacks_43 (by decide) ?_
        refine zi_goto (tgt := 48) dX11_lacks_44 (by decide) ?_
        exact zt_iret dX11_lacks_48 rfl h
      · replace h := h.2 q9
        rw [if_neg q9] at ey1
        subst ey1
        refine zi_if_eq (tgt := 47) dX11_lacks_40 (by decide) (fun _ => ?_) (fun z9 => absurd rfl z9)
        refine zi_iconst (v := 2) dX11_lacks_47 (by decide) ?_
        exact zt_iret dX11_lacks_48 rfl h
    · replace h := h.2 q9
      refine zi_iconst (v := 3) dX11_lacks_23 (by decide) ?_
      refine zi_goto (tgt := 48) dX11_lacks_24 (by decide) ?_
      exact zt_iret dX11_lacks_48 rfl h
  · replace h := h.2 q9
    refine zi_iconst (v := 1) dX11_lacks_9 (by decide) ?_
    refine zi_goto (tgt := 48) dX11_lacks_10 (by decide) ?_
    exact zt_iret dX11_lacks_48 rfl h
theorem e_X11_lacks {s : Int32} {form : Int32} {i : Int32} {S : zS} {L : zL} {P : Int32 → zS → zL → Prop} (h : ∀ X, zU mX11_lacks X S L 0 [some (.ref 72), some (.int s), some (.int form), some (.int i)] [] (zpi P)) : zCi mX11_lacks S L [.ref 72, .int s, .int form, .int i] P := zCi_of pn_X11_lacks (Nat.le_of_ble_eq_true rfl) (fun X => zt_pad (j := 0) rfl (h X))
set_option maxHeartbeats 2000000 in
theorem b_X11_keep_0 {s : Int32} {i : Int32} {v : Int32} {X : Nat × (Nat → Int32)} {S : zS} {L : zL} {P : zS → zL → Prop} (h : vp_in s 4 ∧ ((¬ (S 109 s.toNatClampNeg) = 0 → vp_in s 4 ∧ ((¬ (S 109 s.toNatClampNeg) = (1 : Int32) → vp_in (((60 : Int32) * s) + i) 240 ∧ ∀ S1 : zS, S1 = zc S 111 (upd (S 111) (((60 : Int32) * s) + i).toNatClampNeg v) → P S1 L) ∧ ((S 109 s.toNatClampNeg) = (1 : Int32) → vp_in (((60 : Int32) * s) + i) 240 ∧ ∀ S1 : zS, S1 = zc S 111 (upd (S 111) (((60 : Int32) * s) + i).toNatClampNeg v.toInt16.toInt32) → P S1 L))) ∧ ((S 109 s.toNatClampNeg) = 0 → vp_in (((60 : Int32) * s) + i) 240 ∧ ∀ S1 : zS, S1 = zc S 111 (upd (S 111) (((60 : Int32) * s) + i).toNatClampNeg v.toInt8.toInt32) → P S1 L))) : zU mX11_keep X S L 0 [some (.ref 72), some (.int s), some (.int i), some (.int v)] [] (zpv P) := by
  refine zi_aload_n dX11_keep_0 rfl rfl ?_
  refine zi_getr fl_X11_125 sk72 rfl dX11_keep_1 ?_
  refine zi_bipush (v := 60) dX11_keep_4 (by decide) ?_
  refine zi_iload_n dX11_keep_6 rfl rfl ?_
  refine zi_imul dX11_keep_7 ?_
  refine zi_iload_n dX11_keep_8 rfl rfl ?_
  refine zi_iadd dX11_keep_9 ?_
  refine zi_aload_n dX11_keep_10 rfl rfl ?_
  refine zi_getr fl_X11_119 sk72 rfl dX11_keep_11 ?_
  refine zi_iload_n dX11_keep_14 rfl rfl ?_
  refine zi_iald sk109 h.1 dX11_keep_15 ?_
  replace h := h.2
  refine zi_if_ne (tgt := 24) dX11_keep_16 (by decide) (fun q9 => ?_) (fun q9 => ?_)
  · replace h := h.1 q9
    refine zi_aload_n dX11_keep_24 rfl rfl ?_
    refine zi_getr fl_X11_119 sk72 rfl dX11_keep_25 ?_
    refine zi_iload_n dX11_keep_28 rfl rfl ?_
    refine zi_iald sk109 h.1 dX11_keep_29 ?_
    replace h := h.2
    refine zi_iconst (v := 1) dX11_keep_30 (by decide) ?_
    refine zi_icmp_ne (tgt := 39) dX11_keep_31 (by decide) (fun q9 => ?_) (fun q9 => ?_)
    · replace h := h.1 q9
      refine zi_iload_n dX11_keep_39 rfl rfl ?_
      refine zi_iast sk111 h.1 dX11_keep_40 ?_
      replace h := h.2
      refine zt_nmS (fun S1 eS1 => ?_)
      replace h := h S1 eS1
      exact zt_vret dX11_keep_41 rfl h
    · replace h := h.2 q9
      refine zi_iload_n dX11_keep_34 rfl rfl ?_
      refine zi_i2s dX11_keep_35 ?_
      refine zi_goto (tgt := 40) dX11_keep_36 (by decide) ?_
      refine zi_iast sk111 h.1 dX11_keep_40 ?_
      replace h := h.2
      refine zt_nmS (fun S1 eS1 => ?_)
      replace h := h S1 eS1
      exact zt_vret dX11_keep_41 rfl h
  · replace h := h.2 q9
    refine zi_iload_n dX11_keep_19 rfl rfl ?_
    refine zi_i2b dX11_keep_20 ?_
    refine zi_goto (tgt := 40) dX11_keep_21 (by decide) ?_
    refine zi_iast sk111 h.1 dX11_keep_40 ?_
    replace h := h.2
    refine zt_nmS (fun S1 eS1 => ?_)
    replace h := h S1 eS1
    exact zt_vret dX11_keep_41 rfl h
theorem e_X11_keep {s : Int32} {i : Int32} {v : Int32} {S : zS} {L : zL} {P : zS → zL → Prop} (h : ∀ X, zU mX11_keep X S L 0 [some (.ref 72), some (.int s), some (.int i), some (.int v)] [] (zpv P)) : zCv mX11_keep S L [.ref 72, .int s, .int i, .int v] P := zCv_of pn_X11_keep (Nat.le_of_ble_eq_true rfl) (fun X => zt_pad (j := 0) rfl (h X))
set_option maxHeartbeats 2000000 in
theorem b_X11_put_0 {s : Int32} {form : Int32} {i : Int32} {v : Int32} {X : Nat × (Nat → Int32)} {S : zS} {L : zL} {P : Int32 → zS → zL → Prop} (h : ((((0 : Int32) ≤ s ∧ s ≤ (3 : Int32)) → ((((0 : Int32) ≤ form ∧ form ≤ (2 : Int32)) → zCi mX11_lacks S L [.ref 72, .int s, .int form, .int i] (fun y3 S1 L1 => ((y3 ≤ 0 → zCv mX11_keep S1 L1 [.ref 72, .int s, .int i, .int v] (fun S2 L2 => P (1 : Int32) S2 L2)) ∧ (¬ y3 ≤ 0 → zCi mX11_meets S1 L1 [.ref 72, .int y3] (fun y4 S2 L2 => P y4 S2 L2))))) ∧ (¬ ((0 : Int32) ≤ form ∧ form ≤ (2 : Int32)) → P (-2 : Int32) S L))) ∧ (¬ ((0 : Int32) ≤ s ∧ s ≤ (3 : Int32)) → P (-2 : Int32) S L))) : zU mX11_put X S L 0 [some (.ref 72), some (.int s), some (.int form), some (.int i), some (.int v), none] [] (zpi P) := by
  refine zi_iload_n dX11_put_0 rfl rfl ?_
  refine zt_Si (As := [.int s]) dX11_put_1 lk_X11_201 ⟨⟨by decide, by decide⟩, rfl, rfl⟩ rfl ⟨Nat.le_of_ble_eq_true rfl, rfl, rfl⟩ (isSheet_s (P := fun y S9 L9 => y = (if ((0 : Int32) ≤ s ∧ s ≤ (3 : Int32)) then (1 : Int32) else 0) ∧ S = S9 ∧ L = L9) ⟨rfl, rfl, rfl⟩) (fun y1 S9 L9 q9 => ?_)
  obtain ⟨ey1, rfl, rfl⟩ := q9
  by_cases q9 : ((0 : Int32) ≤ s ∧ s ≤ (3 : Int32))
  · replace h := h.1 q9
    rw [if_pos q9] at ey1
    subst ey1
    refine zi_if_eq (tgt := 16) dX11_put_4 (by decide) (fun z9 => absurd z9 (by decide)) (fun _ => ?_)
    refine zi_iload_n dX11_put_7 rfl rfl ?_
    refine zi_iconst (v := 0) dX11_put_8 (by decide) ?_
    refine zi_iconst (v := 2) dX11_put_9 (by decide) ?_
    refine zt_Si (As := [.int form, .int (0 : Int32), .int (2 : Int32)]) dX11_put_10 lk_X11_140 ⟨⟨by decide, by decide⟩, rfl, rfl⟩ rfl ⟨Nat.le_of_ble_eq_true rfl, rfl, rfl⟩ (in_s (P := fun y S9 L9 => y = (if ((0 : Int32) ≤ form ∧ form ≤ (2 : Int32)) then (1 : Int32) else 0) ∧ S = S9 ∧ L = L9) ⟨rfl, rfl, rfl⟩) (fun y2 S9 L9 q9 => ?_)
    obtain ⟨ey2, rfl, rfl⟩ := q9
    by_cases q9 : ((0 : Int32) ≤ form ∧ form ≤ (2 : Int32))
    · replace h := h.1 q9
      rw [if_pos q9] at ey2
      subst ey2
      refine zi_if_ne (tgt := 19) dX11_put_13 (by decide) (fun _ => ?_) (fun z9 => absurd z9 (by decide))
      refine zi_aload_n dX11_put_19 rfl rfl ?_
      refine zi_iload_n dX11_put_20 rfl rfl ?_
      refine zi_iload_n dX11_put_21 rfl rfl ?_
      refine zi_iload_n dX11_put_22 rfl rfl ?_
      refine zt_Vi (As := [.int s, .int form, .int i]) dX11_put_23 lk_X11_358 sk72 rfl ⟨⟨by decide, by decide⟩, rfl, rfl⟩ rfl ⟨Nat.le_of_ble_eq_true rfl, rfl, rfl⟩ h (fun y3 S1 L1 h => ?_)
      refine zi_istore dX11_put_26 (by decide) rfl ?_
      refine zi_iload dX11_put_28 rfl ?_
      refine zi_if_le (tgt := 40) dX11_put_30 (by decide) (fun q9 => ?_) (fun q9 => ?_)
      · replace h := h.1 q9
        refine zi_aload_n dX11_put_40 rfl rfl ?_
        refine zi_iload_n dX11_put_41 rfl rfl ?_
        refine zi_iload_n dX11_put_42 rfl rfl ?_
        refine zi_iload dX11_put_43 rfl ?_
        refine zt_Vv (As := [.int s, .int i, .int v]) dX11_put_45 lk_X11_361 sk72 rfl ⟨⟨by decide, by decide⟩, rfl, rfl⟩ rfl ⟨Nat.le_of_ble_eq_true rfl, rfl, rfl⟩ h (fun S2 L2 h => ?_)
        refine zi_iconst (v := 1) dX11_put_48 (by decide) ?_
        exact zt_iret dX11_put_49 rfl h
      · replace h := h.2 q9
        refine zi_aload_n dX11_put_33 rfl rfl ?_
        refine zi_iload dX11_put_34 rfl ?_
        refine zt_Vi (As := [.int y3]) dX11_put_36 lk_X11_204 sk72 rfl ⟨⟨by decide, by decide⟩, rfl, rfl⟩ rfl ⟨Nat.le_of_ble_eq_true rfl, rfl, rfl⟩ h (fun y4 S2 L2 h => ?_)
        exact zt_iret dX11_put_39 rfl h
    · replace h := h.2 q9
      rw [if_neg q9] at ey2
      subst ey2
      refine zi_if_ne (tgt := 19) dX11_put_13 (by decide) (fun z9 => absurd rfl z9) (fun _ => ?_)
      refine zi_bipush (v := -2) dX11_put_16 (by decide) ?_
      exact zt_iret dX11_put_18 rfl h
  · replace h := h.2 q9
    rw [if_neg q9] at ey1
    subst ey1
    refine zi_if_eq (tgt := 16) dX11_put_4 (by decide) (fun _ => ?_) (fun z9 => absurd rfl z9)
    refine zi_bipush (v := -2) dX11_put_16 (by decide) ?_
    exact zt_iret dX11_put_18 rfl h
theorem e_X11_put {s : Int32} {form : Int32} {i : Int32} {v : Int32} {S : zS} {L : zL} {P : Int32 → zS → zL → Prop} (h : ∀ X, zU mX11_put X S L 0 [some (.ref 72), some (.int s), some (.int form), some (.int i), some (.int v), none] [] (zpi P)) : zCi mX11_put S L [.ref 72, .int s, .int form, .int i, .int v] P := zCi_of pn_X11_put (Nat.le_of_ble_eq_true rfl) (fun X => zt_pad (j := 1) rfl (h X))
set_option maxHeartbeats 2000000 in
theorem b_X11_get_0 {s : Int32} {form : Int32} {i : Int32} {X : Nat × (Nat → Int32)} {S : zS} {L : zL} {P : Int32 → zS → zL → Prop} (h : ((((0 : Int32) ≤ s ∧ s ≤ (3 : Int32)) → ((((0 : Int32) ≤ form ∧ form ≤ (2 : Int32)) → zCi mX11_lacks S L [.ref 72, .int s, .int form, .int i] (fun y3 S1 L1 => ((y3 ≤ 0 → vp_in (((60 : Int32) * s) + i) 240 ∧ P (S1 111 (((60 : Int32) * s) + i).toNatClampNeg) S1 L1) ∧ (¬ y3 ≤ 0 → ∀ S2 : zS, S2 = zc S1 72 (upd (S1 72) 55 y3) → P (-2147483648 : Int32) S2 L1)))) ∧ (¬ ((0 : Int32) ≤ form ∧ form ≤ (2 : Int32)) → P (-2147483648 : Int32) S L))) ∧ (¬ ((0 : Int32) ≤ s ∧ s ≤ (3 : Int32)) → P (-2147483648 : Int32) S L))) : zU mX11_get X S L 0 [some (.ref 72), some (.int s), some (.int form), some (.int i), none] [] (zpi P) := by
  refine zi_iload_n dX11_get_0 rfl rfl ?_
  refine zt_Si (As := [.int s]) dX11_get_1 lk_X11_201 ⟨⟨by decide, by decide⟩, rfl, rfl⟩ rfl ⟨Nat.le_of_ble_eq_true rfl, rfl, rfl⟩ (isSheet_s (P := fun y S9 L9 => y = (if ((0 : Int32) ≤ s ∧ s ≤ (3 : Int32)) then (1 : Int32) else 0) ∧ S = S9 ∧ L = L9) ⟨rfl, rfl, rfl⟩) (fun y1 S9 L9 q9 => ?_)
  obtain ⟨ey1, rfl, rfl⟩ := q9
  by_cases q9 : ((0 : Int32) ≤ s ∧ s ≤ (3 : Int32))
  · replace h := h.1 q9
    rw [if_pos q9] at ey1
    subst ey1
    refine zi_if_eq (tgt := 16) dX11_get_4 (by decide) (fun z9 => absurd z9 (by decide)) (fun _ => ?_)
    refine zi_iload_n dX11_get_7 rfl rfl ?_
    refine zi_iconst (v := 0) dX11_get_8 (by decide) ?_
    refine zi_iconst (v := 2) dX11_get_9 (by decide) ?_
    refine zt_Si (As := [.int form, .int (0 : Int32), .int (2 : Int32)]) dX11_get_10 lk_X11_140 ⟨⟨by decide, by decide⟩, rfl, rfl⟩ rfl ⟨Nat.le_of_ble_eq_true rfl, rfl, rfl⟩ (in_s (P := fun y S9 L9 => y = (if ((0 : Int32) ≤ form ∧ form ≤ (2 : Int32)) then (1 : Int32) else 0) ∧ S = S9 ∧ L = L9) ⟨rfl, rfl, rfl⟩) (fun y2 S9 L9 q9 => ?_)
    obtain ⟨ey2, rfl, rfl⟩ := q9
    by_cases q9 : ((0 : Int32) ≤ form ∧ form ≤ (2 : Int32))
    · replace h := h.1 q9
      rw [if_pos q9] at ey2
      subst ey2
      refine zi_if_ne (tgt := 20) dX11_get_13 (by decide) (fun _ => ?_) (fun z9 => absurd z9 (by decide))
      refine zi_aload_n dX11_get_20 rfl rfl ?_
      refine zi_iload_n dX11_get_21 rfl rfl ?_
      refine zi_iload_n dX11_get_22 rfl rfl ?_
      refine zi_iload_n dX11_get_23 rfl rfl ?_
      refine zt_Vi (As := [.int s, .int form, .int i]) dX11_get_24 lk_X11_358 sk72 rfl ⟨⟨by decide, by decide⟩, rfl, rfl⟩ rfl ⟨Nat.le_of_ble_eq_true rfl, rfl, rfl⟩ h (fun y3 S1 L1 h => ?_)
      refine zi_istore dX11_get_27 (by decide) rfl ?_
      refine zi_iload dX11_get_29 rfl ?_
      refine zi_if_le (tgt := 44) dX11_get_31 (by decide) (fun q9 => ?_) (fun q9 => ?_)
      · replace h := h.1 q9
        refine zi_aload_n dX11_get_44 rfl rfl ?_
        refine zi_getr fl_X11_125 sk72 rfl dX11_get_45 ?_
        refine zi_bipush (v := 60) dX11_get_48 (by decide) ?_
        refine zi_iload_n dX11_get_50 rfl rfl ?_
        refine zi_imul dX11_get_51 ?_
        refine zi_iload_n dX11_get_52 rfl rfl ?_
        refine zi_iadd dX11_get_53 ?_
        refine zi_iald sk111 h.1 dX11_get_54 ?_
        replace h := h.2
        exact zt_iret dX11_get_55 rfl h
      · replace h := h.2 q9
        refine zi_aload_n dX11_get_34 rfl rfl ?_
        refine zi_iload dX11_get_35 rfl ?_
        refine zi_puti fp_X11_355 sk72 rfl dX11_get_37 ?_
        refine zt_nmS (fun S2 eS2 => ?_)
        replace h := h S2 eS2
        refine zi_ldcw (v := -2147483648) dX11_get_40 (zme 7 78 (by decide +kernel) rfl) ?_
        exact zt_iret dX11_get_43 rfl h
    · replace h := h.2 q9
      rw [if_neg q9] at ey2
      subst ey2
      refine zi_if_ne (tgt := 20) dX11_get_13 (by decide) (fun z9 => absurd rfl z9) (fun _ => ?_)
      refine zi_ldcw (v := -2147483648) dX11_get_16 (zme 7 78 (by decide +kernel) rfl) ?_
      exact zt_iret dX11_get_19 rfl h
  · replace h := h.2 q9
    rw [if_neg q9] at ey1
    subst ey1
    refine zi_if_eq (tgt := 16) dX11_get_4 (by decide) (fun _ => ?_) (fun z9 => absurd rfl z9)
    refine zi_ldcw (v := -2147483648) dX11_get_16 (zme 7 78 (by decide +kernel) rfl) ?_
    exact zt_iret dX11_get_19 rfl h
theorem e_X11_get {s : Int32} {form : Int32} {i : Int32} {S : zS} {L : zL} {P : Int32 → zS → zL → Prop} (h : ∀ X, zU mX11_get X S L 0 [some (.ref 72), some (.int s), some (.int form), some (.int i), none] [] (zpi P)) : zCi mX11_get S L [.ref 72, .int s, .int form, .int i] P := zCi_of pn_X11_get (Nat.le_of_ble_eq_true rfl) (fun X => zt_pad (j := 1) rfl (h X))
set_option maxHeartbeats 2000000 in
theorem b_X11_copy_0 {s : Int32} {i : Int32} {t : Int32} {j : Int32} {n : Int32} {X : Nat × (Nat → Int32)} {S : zS} {L : zL} {P : Int32 → zS → zL → Prop} (h : ((((0 : Int32) ≤ s ∧ s ≤ (3 : Int32)) → ((((0 : Int32) ≤ t ∧ t ≤ (3 : Int32)) → vp_in s 4 ∧ (((S 108 s.toNatClampNeg) = 0 → zCi mX11_meets S L [.ref 72, .int (1 : Int32)] (fun y3 S1 L1 => P y3 S1 L1)) ∧ (¬ (S 108 s.toNatClampNeg) = 0 → vp_in t 4 ∧ ((¬ (S 108 t.toNatClampNeg) = 0 → vp_in s 4 ∧ vp_in t 4 ∧ (((S 109 s.toNatClampNeg) = (S 109 t.toNatClampNeg) → ((i < 0 → zCi mX11_meets S L [.ref 72, .int (2 : Int32)] (fun y3 S1 L1 => P y3 S1 L1)) ∧ (¬ i < 0 → ((j < 0 → zCi mX11_meets S L [.ref 72, .int (2 : Int32)] (fun y3 S1 L1 => P y3 S1 L1)) ∧ (¬ j < 0 → ((n < 0 → zCi mX11_meets S L [.ref 72, .int (2 : Int32)] (fun y3 S1 L1 => P y3 S1 L1)) ∧ (¬ n < 0 → vp_in s 4 ∧ ((0 < (lg_cmp (i.toInt64 + n.toInt64) ((S 110 s.toNatClampNeg).toInt64)) → zCi mX11_meets S L [.ref 72, .int (2 : Int32)] (fun y3 S1 L1 => P y3 S1 L1)) ∧ (¬ 0 < (lg_cmp (i.toInt64 + n.toInt64) ((S 110 s.toNatClampNeg).toInt64)) → vp_in t 4 ∧ (((lg_cmp (j.toInt64 + n.toInt64) ((S 110 t.toNatClampNeg).toInt64)) ≤ 0 → zU mX11_copy X S L 120 [some (.ref 72), some (.int s), some (.int i), some (.int t), some (.int j), some (.int n), some (.int (0 : Int32))] [] (zpi P)) ∧ (¬ (lg_cmp (j.toInt64 + n.toInt64) ((S 110 t.toNatClampNeg).toInt64)) ≤ 0 → zCi mX11_meets S L [.ref 72, .int (2 : Int32)] (fun y3 S1 L1 => P y3 S1 L1)))))))))))) ∧ (¬ (S 109 s.toNatClampNeg) = (S 109 t.toNatClampNeg) → zCi mX11_meets S L [.ref 72, .int (4 : Int32)] (fun y3 S1 L1 => P y3 S1 L1)))) ∧ ((S 108 t.toNatClampNeg) = 0 → zCi mX11_meets S L [.ref 72, .int (1 : Int32)] (fun y3 S1 L1 => P y3 S1 L1)))))) ∧ (¬ ((0 : Int32) ≤ t ∧ t ≤ (3 : Int32)) → P (-2 : Int32) S L))) ∧ (¬ ((0 : Int32) ≤ s ∧ s ≤ (3 : Int32)) → P (-2 : Int32) S L))) : zU mX11_copy X S L 0 [some (.ref 72), some (.int s), some (.int i), some (.int t), some (.int j), some (.int n), none] [] (zpi P) := by
  refine zi_iload_n dX11_copy_0 rfl rfl ?_
  refine zt_Si (As := [.int s]) dX11_copy_1 lk_X11_201 ⟨⟨by decide, by decide⟩, rfl, rfl⟩ rfl ⟨Nat.le_of_ble_eq_true rfl, rfl, rfl⟩ (isSheet_s (P := fun y S9 L9 => y = (if ((0 : Int32) ≤ s ∧ s ≤ (3 : Int32)) then (1 : Int32) else 0) ∧ S = S9 ∧ L = L9) ⟨rfl, rfl, rfl⟩) (fun y1 S9 L9 q9 => ?_)
  obtain ⟨ey1, rfl, rfl⟩ := q9
  by_cases q9 : ((0 : Int32) ≤ s ∧ s ≤ (3 : Int32))
  · replace h := h.1 q9
    rw [if_pos q9] at ey1
    subst ey1
    refine zi_if_eq (tgt := 14) dX11_copy_4 (by decide) (fun z9 => absurd z9 (by decide)) (fun _ => ?_)
    refine zi_iload_n dX11_copy_7 rfl rfl ?_
    refine zt_Si (As := [.int t]) dX11_copy_8 lk_X11_201 ⟨⟨by decide, by decide⟩, rfl, rfl⟩ rfl ⟨Nat.le_of_ble_eq_true rfl, rfl, rfl⟩ (isSheet_s (P := fun y S9 L9 => y = (if ((0 : Int32) ≤ t ∧ t ≤ (3 : Int32)) then (1 : Int32) else 0) ∧ S = S9 ∧ L = L9) ⟨rfl, rfl, rfl⟩) (fun y2 S9 L9 q9 => ?_)
    obtain ⟨ey2, rfl, rfl⟩ := q9
    by_cases q9 : ((0 : Int32) ≤ t ∧ t ≤ (3 : Int32))
    · replace h := h.1 q9
      rw [if_pos q9] at ey2
      subst ey2
      refine zi_if_ne (tgt := 17) dX11_copy_11 (by decide) (fun _ => ?_) (fun z9 => absurd z9 (by decide))
      refine zi_aload_n dX11_copy_17 rfl rfl ?_
      refine zi_getr fl_X11_115 sk72 rfl dX11_copy_18 ?_
      refine zi_iload_n dX11_copy_21 rfl rfl ?_
      refine zi_zald sk108 h.1 dX11_copy_22 ?_
      replace h := h.2
      refine zi_if_eq (tgt := 35) dX11_copy_23 (by decide) (fun q9 => ?_) (fun q9 => ?_)
      · replace h := h.1 q9
        refine zi_aload_n dX11_copy_35 rfl rfl ?_
        refine zi_iconst (v := 1) dX11_copy_36 (by decide) ?_
        refine zt_Vi (As := [.int (1 : Int32)]) dX11_copy_37 lk_X11_204 sk72 rfl ⟨⟨by decide, by decide⟩, rfl, rfl⟩ rfl ⟨Nat.le_of_ble_eq_true rfl, rfl, rfl⟩ h (fun y3 S1 L1 h => ?_)
        exact zt_iret dX11_copy_40 rfl h
      · replace h := h.2 q9
        refine zi_aload_n dX11_copy_26 rfl rfl ?_
        refine zi_getr fl_X11_115 sk72 rfl dX11_copy_27 ?_
        refine zi_iload_n dX11_copy_30 rfl rfl ?_
        refine zi_zald sk108 h.1 dX11_copy_31 ?_
        replace h := h.2
        refine zi_if_ne (tgt := 41) dX11_copy_32 (by decide) (fun q9 => ?_) (fun q9 => ?_)
        · replace h := h.1 q9
          refine zi_aload_n dX11_copy_41 rfl rfl ?_
          refine zi_getr fl_X11_119 sk72 rfl dX11_copy_42 ?_
          refine zi_iload_n dX11_copy_45 rfl rfl ?_
          refine zi_iald sk109 h.1 dX11_copy_46 ?_
          replace h := h.2
          refine zi_aload_n dX11_copy_47 rfl rfl ?_
          refine zi_getr fl_X11_119 sk72 rfl dX11_copy_48 ?_
          refine zi_iload_n dX11_copy_51 rfl rfl ?_
          refine zi_iald sk109 h.1 dX11_copy_52 ?_
          replace h := h.2
          refine zi_icmp_eq (tgt := 62) dX11_copy_53 (by decide) (fun q9 => ?_) (fun q9 => ?_)
          · replace h := h.1 q9
            refine zi_iload_n dX11_copy_62 rfl rfl ?_
            refine zi_if_lt (tgt := 111) dX11_copy_63 (by decide) (fun q9 => ?_) (fun q9 => ?_)
            · replace h := h.1 q9
              refine zi_aload_n dX11_copy_111 rfl rfl ?_
              refine zi_iconst (v := 2) dX11_copy_112 (by decide) ?_
              refine zt_Vi (As := [.int (2 : Int32)]) dX11_copy_113 lk_X11_204 sk72 rfl ⟨⟨by decide, by decide⟩, rfl, rfl⟩ rfl ⟨Nat.le_of_ble_eq_true rfl, rfl, rfl⟩ h (fun y3 S1 L1 h => ?_)
              exact zt_iret dX11_copy_116 rfl h
            · replace h := h.2 q9
              refine zi_iload dX11_copy_66 rfl ?_
              refine zi_if_lt (tgt := 111) dX11_copy_68 (by decide) (fun q9 => ?_) (fun q9 => ?_)
              · replace h := h.1 q9
                refine zi_aload_n dX11_copy_111 rfl rfl ?_
                refine zi_iconst (v := 2) dX11_copy_112 (by decide) ?_
                refine zt_Vi (As := [.int (2 : Int32)]) dX11_copy_113 lk_X11_204 sk72 rfl ⟨⟨by decide, by decide⟩, rfl, rfl⟩ rfl ⟨Nat.le_of_ble_eq_true rfl, rfl, rfl⟩ h (fun y3 S1 L1 h => ?_)
                exact zt_iret dX11_copy_116 rfl h
              · replace h := h.2 q9
                refine zi_iload dX11_copy_71 rfl ?_
                refine zi_if_lt (tgt := 111) dX11_copy_73 (by decide) (fun q9 => ?_) (fun q9 => ?_)
                · replace h := h.1 q9
                  refine zi_aload_n dX11_copy_111 rfl rfl ?_
                  refine zi_iconst (v := 2) dX11_copy_112 (by decide) ?_
                  refine zt_Vi (As := [.int (2 : Int32)]) dX11_copy_113 lk_X11_204 sk72 rfl ⟨⟨by decide, by decide⟩, rfl, rfl⟩ rfl ⟨Nat.le_of_ble_eq_true rfl, rfl, rfl⟩ h (fun y3 S1 L1 h => ?_)
                  exact zt_iret dX11_copy_116 rfl h
                · replace h := h.2 q9
                  refine zi_iload_n dX11_copy_76 rfl rfl ?_
                  refine zi_i2l dX11_copy_77 ?_
                  refine zi_iload dX11_copy_78 rfl ?_
                  refine zi_i2l dX11_copy_80 ?_
                  refine zi_ladd dX11_copy_81 ?_
                  refine zi_aload_n dX11_copy_82 rfl rfl ?_
                  refine zi_getr fl_X11_122 sk72 rfl dX11_copy_83 ?_
                  refine zi_iload_n dX11_copy_86 rfl rfl ?_
                  refine zi_iald sk110 h.1 dX11_copy_87 ?_
                  replace h := h.2
                  refine zi_i2l dX11_copy_88 ?_
                  refine zi_lcmp dX11_copy_89 ?_
                  refine zi_if_gt (tgt := 111) dX11_copy_90 (by decide) (fun q9 => ?_) (fun q9 => ?_)
                  · replace h := h.1 q9
                    refine zi_aload_n dX11_copy_111 rfl rfl ?_
                    refine zi_iconst (v := 2) dX11_copy_112 (by decide) ?_
                    refine zt_Vi (As := [.int (2 : Int32)]) dX11_copy_113 lk_X11_204 sk72 rfl ⟨⟨by decide, by decide⟩, rfl, rfl⟩ rfl ⟨Nat.le_of_ble_eq_true rfl, rfl, rfl⟩ h (fun y3 S1 L1 h => ?_)
                    exact zt_iret dX11_copy_116 rfl h
                  · replace h := h.2 q9
                    refine zi_iload dX11_copy_93 rfl ?_
                    refine zi_i2l dX11_copy_95 ?_
                    refine zi_iload dX11_copy_96 rfl ?_
                    refine zi_i2l dX11_copy_98 ?_
                    refine zi_ladd dX11_copy_99 ?_
                    refine zi_aload_n dX11_copy_100 rfl rfl ?_
                    refine zi_getr fl_X11_122 sk72 rfl dX11_copy_101 ?_
                    refine zi_iload_n dX11_copy_104 rfl rfl ?_
                    refine zi_iald sk110 h.1 dX11_copy_105 ?_
                    replace h := h.2
                    refine zi_i2l dX11_copy_106 ?_
                    refine zi_lcmp dX11_copy_107 ?_
                    refine zi_if_le (tgt := 117) dX11_copy_108 (by decide) (fun q9 => ?_) (fun q9 => ?_)
                    · replace h := h.1 q9
                      refine zi_iconst (v := 0) dX11_copy_117 (by decide) ?_
                      refine zi_istore dX11_copy_118 (by decide) rfl ?_
                      refine zt_drop (lv' := [some (.ref 72), some (.int s), some (.int i), some (.int t), some (.int j), some (.int n), some (.int (0 : Int32))]) [true, true, true, true, true, true, true] rfl ?_
                      exact h
                    · replace h := h.2 q9
                      refine zi_aload_n dX11_copy_111 rfl rfl ?_
                      refine zi_iconst (v := 2) dX11_copy_112 (by decide) ?_
                      refine zt_Vi (As := [.int (2 : Int32)]) dX11_copy_113 lk_X11_204 sk72 rfl ⟨⟨by decide, by decide⟩, rfl, rfl⟩ rfl ⟨Nat.le_of_ble_eq_true rfl, rfl, rfl⟩ h (fun y3 S1 L1 h => ?_)
                      exact zt_iret dX11_copy_116 rfl h
          · replace h := h.2 q9
            refine zi_aload_n dX11_copy_56 rfl rfl ?_
            refine zi_iconst (v := 4) dX11_copy_57 (by decide) ?_
            refine zt_Vi (As := [.int (4 : Int32)]) dX11_copy_58 lk_X11_204 sk72 rfl ⟨⟨by decide, by decide⟩, rfl, rfl⟩ rfl ⟨Nat.le_of_ble_eq_true rfl, rfl, rfl⟩ h (fun y3 S1 L1 h => ?_)
            exact zt_iret dX11_copy_61 rfl h
        · replace h := h.2 q9
          refine zi_aload_n dX11_copy_35 rfl rfl ?_
          refine zi_iconst (v := 1) dX11_copy_36 (by decide) ?_
          refine zt_Vi (As := [.int (1 : Int32)]) dX11_copy_37 lk_X11_204 sk72 rfl ⟨⟨by decide, by decide⟩, rfl, rfl⟩ rfl ⟨Nat.le_of_ble_eq_true rfl, rfl, rfl⟩ h (fun y3 S1 L1 h => ?_)
          exact zt_iret dX11_copy_40 rfl h
    · replace h := h.2 q9
      rw [if_neg q9] at ey2
      subst ey2
      refine zi_if_ne (tgt := 17) dX11_copy_11 (by decide) (fun z9 => absurd rfl z9) (fun _ => ?_)
      refine zi_bipush (v := -2) dX11_copy_14 (by decide) ?_
      exact zt_iret dX11_copy_16 rfl h
  · replace h := h.2 q9
    rw [if_neg q9] at ey1
    subst ey1
    refine zi_if_eq (tgt := 14) dX11_copy_4 (by decide) (fun _ => ?_) (fun z9 => absurd rfl z9)
    refine zi_bipush (v := -2) dX11_copy_14 (by decide) ?_
    exact zt_iret dX11_copy_16 rfl h
set_option maxHeartbeats 2000000 in
theorem b_X11_copy_120 {v1 : Int32} {v2 : Int32} {v3 : Int32} {v4 : Int32} {v5 : Int32} {v6 : Int32} {X : Nat × (Nat → Int32)} {S : zS} {L : zL} {P : Int32 → zS → zL → Prop} (h : ((v5 ≤ v6 → zU mX11_copy X S L 157 [some (.ref 72), none, none, some (.int v3), some (.int v4), some (.int v5), some (.int (0 : Int32))] [] (zpi P)) ∧ (¬ v5 ≤ v6 → vp_in ((((60 : Int32) * v1) + v2) + v6) 240 ∧ vp_in v6 60 ∧ ∀ S1 : zS, S1 = zc S 112 (upd (S 112) v6.toNatClampNeg (S 111 ((((60 : Int32) * v1) + v2) + v6).toNatClampNeg)) → ∀ x1 : Int32, x1 = v6 + (1 : Int32) → zU mX11_copy X S1 L 120 [some (.ref 72), some (.int v1), some (.int v2), some (.int v3), some (.int v4), some (.int v5), some (.int x1)] [] (zpi P)))) : zU mX11_copy X S L 120 [some (.ref 72), some (.int v1), some (.int v2), some (.int v3), some (.int v4), some (.int v5), some (.int v6)] [] (zpi P) := by
  refine zi_iload dX11_copy_120 rfl ?_
  refine zi_iload dX11_copy_122 rfl ?_
  refine zi_icmp_ge (tgt := 154) dX11_copy_124 (by decide) (fun q9 => ?_) (fun q9 => ?_)
  · replace h := h.1 q9
    refine zi_iconst (v := 0) dX11_copy_154 (by decide) ?_
    refine zi_istore dX11_copy_155 (by decide) rfl ?_
    refine zt_drop (lv' := [some (.ref 72), none, none, some (.int v3), some (.int v4), some (.int v5), some (.int (0 : Int32))]) [true, false, false, true, true, true, true] rfl ?_
    exact h
  · replace h := h.2 q9
    refine zi_aload_n dX11_copy_127 rfl rfl ?_
    refine zi_getr fl_X11_128 sk72 rfl dX11_copy_128 ?_
    refine zi_iload dX11_copy_131 rfl ?_
    refine zi_aload_n dX11_copy_133 rfl rfl ?_
    refine zi_getr fl_X11_125 sk72 rfl dX11_copy_134 ?_
    refine zi_bipush (v := 60) dX11_copy_137 (by decide) ?_
    refine zi_iload_n dX11_copy_139 rfl rfl ?_
    refine zi_imul dX11_copy_140 ?_
    refine zi_iload_n dX11_copy_141 rfl rfl ?_
    refine zi_iadd dX11_copy_142 ?_
    refine zi_iload dX11_copy_143 rfl ?_
    refine zi_iadd dX11_copy_145 ?_
    refine zi_iald sk111 h.1 dX11_copy_146 ?_
    replace h := h.2
    refine zi_iast sk112 h.1 dX11_copy_147 ?_
    replace h := h.2
    refine zt_nmS (fun S1 eS1 => ?_)
    replace h := h S1 eS1
    obtain ⟨x1, ex1⟩ : ∃ y : Int32, y = v6 + (1 : Int32) := ⟨_, rfl⟩
    replace h := h x1 ex1
    refine zi_iinc (v := x1) dX11_copy_148 rfl (by rw [ex1]; rfl) (by decide) rfl ?_
    refine zi_goto (tgt := 120) dX11_copy_151 (by decide) ?_
    refine zt_drop (lv' := [some (.ref 72), some (.int v1), some (.int v2), some (.int v3), some (.int v4), some (.int v5), some (.int x1)]) [true, true, true, true, true, true, true] rfl ?_
    exact h
set_option maxHeartbeats 2000000 in
theorem b_X11_copy_157 {v3 : Int32} {v4 : Int32} {v5 : Int32} {v6 : Int32} {X : Nat × (Nat → Int32)} {S : zS} {L : zL} {P : Int32 → zS → zL → Prop} (h : ((v5 ≤ v6 → P (1 : Int32) S L) ∧ (¬ v5 ≤ v6 → vp_in v6 60 ∧ vp_in ((((60 : Int32) * v3) + v4) + v6) 240 ∧ ∀ S1 : zS, S1 = zc S 111 (upd (S 111) ((((60 : Int32) * v3) + v4) + v6).toNatClampNeg (S 112 v6.toNatClampNeg)) → ∀ x1 : Int32, x1 = v6 + (1 : Int32) → zU mX11_copy X S1 L 157 [some (.ref 72), none, none, some (.int v3), some (.int v4), some (.int v5), some (.int x1)] [] (zpi P)))) : zU mX11_copy X S L 157 [some (.ref 72), none, none, some (.int v3), some (.int v4), some (.int v5), some (.int v6)] [] (zpi P) := by
  refine zi_iload dX11_copy_157 rfl ?_
  refine zi_iload dX11_copy_159 rfl ?_
  refine zi_icmp_ge (tgt := 192) dX11_copy_161 (by decide) (fun q9 => ?_) (fun q9 => ?_)
  · replace h := h.1 q9
    refine zi_iconst (v := 1) dX11_copy_192 (by decide) ?_
    exact zt_iret dX11_copy_193 rfl h
  · replace h := h.2 q9
    refine zi_aload_n dX11_copy_164 rfl rfl ?_
    refine zi_getr fl_X11_125 sk72 rfl dX11_copy_165 ?_
    refine zi_bipush (v := 60) dX11_copy_168 (by decide) ?_
    refine zi_iload_n dX11_copy_170 rfl rfl ?_
    refine zi_imul dX11_copy_171 ?_
    refine zi_iload dX11_copy_172 rfl ?_
    refine zi_iadd dX11_copy_174 ?_
    refine zi_iload dX11_copy_175 rfl ?_
    refine zi_iadd dX11_copy_177 ?_
    refine zi_aload_n dX11_copy_178 rfl rfl ?_
    refine zi_getr fl_X11_128 sk72 rfl dX11_copy_179 ?_
    refine zi_iload dX11_copy_182 rfl ?_
    refine zi_iald sk112 h.1 dX11_copy_184 ?_
    replace h := h.2
    refine zi_iast sk111 h.1 dX11_copy_185 ?_
    replace h := h.2
    refine zt_nmS (fun S1 eS1 => ?_)
    replace h := h S1 eS1
    obtain ⟨x1, ex1⟩ : ∃ y : Int32, y = v6 + (1 : Int32) := ⟨_, rfl⟩
    replace h := h x1 ex1
    refine zi_iinc (v := x1) dX11_copy_186 rfl (by rw [ex1]; rfl) (by decide) rfl ?_
    refine zi_goto (tgt := 157) dX11_copy_189 (by decide) ?_
    refine zt_drop (lv' := [some (.ref 72), none, none, some (.int v3), some (.int v4), some (.int v5), some (.int x1)]) [true, false, false, true, true, true, true] rfl ?_
    exact h
theorem e_X11_copy {s : Int32} {i : Int32} {t : Int32} {j : Int32} {n : Int32} {S : zS} {L : zL} {P : Int32 → zS → zL → Prop} (h : ∀ X, zU mX11_copy X S L 0 [some (.ref 72), some (.int s), some (.int i), some (.int t), some (.int j), some (.int n), none] [] (zpi P)) : zCi mX11_copy S L [.ref 72, .int s, .int i, .int t, .int j, .int n] P := zCi_of pn_X11_copy (Nat.le_of_ble_eq_true rfl) (fun X => zt_pad (j := 1) rfl (h X))
set_option maxHeartbeats 2000000 in
theorem b_X11_write_0 {p : Int32} {s : Int32} {X : Nat × (Nat → Int32)} {S : zS} {L : zL} {P : Int32 → zS → zL → Prop} (h : zCi mX11_isPerson S L [.ref 72, .int p] (fun y1 S1 L1 => ((y1 = 0 → P (-2 : Int32) S1 L1) ∧ (¬ y1 = 0 → ((((0 : Int32) ≤ s ∧ s ≤ (3 : Int32)) → vp_in s 4 ∧ ((¬ (S1 108 s.toNatClampNeg) = 0 → zCv mX11_runsTold S1 L1 [.ref 72] (fun S2 L2 => zU mX11_write X S2 L2 39 [some (.ref 72), some (.int p), some (.int s), some (.int (0 : Int32))] [] (zpi P))) ∧ ((S1 108 s.toNatClampNeg) = 0 → zCi mX11_meets S1 L1 [.ref 72, .int (1 : Int32)] (fun y3 S2 L2 => P y3 S2 L2)))) ∧ (¬ ((0 : Int32) ≤ s ∧ s ≤ (3 : Int32)) → P (-2 : Int32) S1 L1)))))) : zU mX11_write X S L 0 [some (.ref 72), some (.int p), some (.int s), none] [] (zpi P) := by
  refine zi_aload_n dX11_write_0 rfl rfl ?_
  refine zi_iload_n dX11_write_1 rfl rfl ?_
  refine zt_Vi (As := [.int p]) dX11_write_2 lk_X11_174 sk72 rfl ⟨⟨by decide, by decide⟩, rfl, rfl⟩ rfl ⟨Nat.le_of_ble_eq_true rfl, rfl, rfl⟩ h (fun y1 S1 L1 h => ?_)
  refine zi_if_eq (tgt := 15) dX11_write_5 (by decide) (fun q9 => ?_) (fun q9 => ?_)
  · replace h := h.1 q9
    refine zi_bipush (v := -2) dX11_write_15 (by decide) ?_
    exact zt_iret dX11_write_17 rfl h
  · replace h := h.2 q9
    refine zi_iload_n dX11_write_8 rfl rfl ?_
    refine zt_Si (As := [.int s]) dX11_write_9 lk_X11_201 ⟨⟨by decide, by decide⟩, rfl, rfl⟩ rfl ⟨Nat.le_of_ble_eq_true rfl, rfl, rfl⟩ (isSheet_s (P := fun y S9 L9 => y = (if ((0 : Int32) ≤ s ∧ s ≤ (3 : Int32)) then (1 : Int32) else 0) ∧ S1 = S9 ∧ L1 = L9) ⟨rfl, rfl, rfl⟩) (fun y2 S9 L9 q9 => ?_)
    obtain ⟨ey2, rfl, rfl⟩ := q9
    by_cases q9 : ((0 : Int32) ≤ s ∧ s ≤ (3 : Int32))
    · replace h := h.1 q9
      rw [if_pos q9] at ey2
      subst ey2
      refine zi_if_ne (tgt := 18) dX11_write_12 (by decide) (fun _ => ?_) (fun z9 => absurd z9 (by decide))
      refine zi_aload_n dX11_write_18 rfl rfl ?_
      refine zi_getr fl_X11_115 sk72 rfl dX11_write_19 ?_
      refine zi_iload_n dX11_write_22 rfl rfl ?_
      refine zi_zald sk108 h.1 dX11_write_23 ?_
      replace h := h.2
      refine zi_if_ne (tgt := 33) dX11_write_24 (by decide) (fun q9 => ?_) (fun q9 => ?_)
      · replace h := h.1 q9
        refine zi_aload_n dX11_write_33 rfl rfl ?_
        refine zt_Vv (As := []) dX11_write_34 lk_X11_272 sk72 rfl ⟨⟨by decide, by decide⟩, rfl, rfl⟩ rfl ⟨Nat.le_of_ble_eq_true rfl, rfl, rfl⟩ h (fun S2 L2 h => ?_)
        refine zi_iconst (v := 0) dX11_write_37 (by decide) ?_
        refine zi_istore_n dX11_write_38 rfl (by decide) rfl ?_
        refine zt_drop (lv' := [some (.ref 72), some (.int p), some (.int s), some (.int (0 : Int32))]) [true, true, true, true] rfl ?_
        exact h
      · replace h := h.2 q9
        refine zi_aload_n dX11_write_27 rfl rfl ?_
        refine zi_iconst (v := 1) dX11_write_28 (by decide) ?_
        refine zt_Vi (As := [.int (1 : Int32)]) dX11_write_29 lk_X11_204 sk72 rfl ⟨⟨by decide, by decide⟩, rfl, rfl⟩ rfl ⟨Nat.le_of_ble_eq_true rfl, rfl, rfl⟩ h (fun y3 S2 L2 h => ?_)
        exact zt_iret dX11_write_32 rfl h
    · replace h := h.2 q9
      rw [if_neg q9] at ey2
      subst ey2
      refine zi_if_ne (tgt := 18) dX11_write_12 (by decide) (fun z9 => absurd rfl z9) (fun _ => ?_)
      refine zi_bipush (v := -2) dX11_write_15 (by decide) ?_
      exact zt_iret dX11_write_17 rfl h
set_option maxHeartbeats 2000000 in
theorem b_X11_write_39 {v1 : Int32} {v2 : Int32} {v3 : Int32} {X : Nat × (Nat → Int32)} {S : zS} {L : zL} {P : Int32 → zS → zL → Prop} (h : vp_in v2 4 ∧ (((S 110 v2.toNatClampNeg) ≤ v3 → P v3 S L) ∧ (¬ (S 110 v2.toNatClampNeg) ≤ v3 → (((24 : Int32) ≤ v3 → P v3 S L) ∧ (¬ (24 : Int32) ≤ v3 → vp_in (((8 : Int32) * v3) + v1) 192 ∧ zCv mX11_keep S L [.ref 72, .int v2, .int v3, .int (S 95 (((8 : Int32) * v3) + v1).toNatClampNeg)] (fun S1 L1 => ∀ x1 : Int32, x1 = v3 + (1 : Int32) → zU mX11_write X S1 L1 39 [some (.ref 72), some (.int v1), some (.int v2), some (.int x1)] [] (zpi P))))))) : zU mX11_write X S L 39 [some (.ref 72), some (.int v1), some (.int v2), some (.int v3)] [] (zpi P) := by
  refine zi_iload_n dX11_write_39 rfl rfl ?_
  refine zi_aload_n dX11_write_40 rfl rfl ?_
  refine zi_getr fl_X11_122 sk72 rfl dX11_write_41 ?_
  refine zi_iload_n dX11_write_44 rfl rfl ?_
  refine zi_iald sk110 h.1 dX11_write_45 ?_
  replace h := h.2
  refine zi_icmp_ge (tgt := 78) dX11_write_46 (by decide) (fun q9 => ?_) (fun q9 => ?_)
  · replace h := h.1 q9
    refine zi_iload_n dX11_write_78 rfl rfl ?_
    exact zt_iret dX11_write_79 rfl h
  · replace h := h.2 q9
    refine zi_iload_n dX11_write_49 rfl rfl ?_
    refine zi_bipush (v := 24) dX11_write_50 (by decide) ?_
    refine zi_icmp_ge (tgt := 78) dX11_write_52 (by decide) (fun q9 => ?_) (fun q9 => ?_)
    · replace h := h.1 q9
      refine zi_iload_n dX11_write_78 rfl rfl ?_
      exact zt_iret dX11_write_79 rfl h
    · replace h := h.2 q9
      refine zi_aload_n dX11_write_55 rfl rfl ?_
      refine zi_iload_n dX11_write_56 rfl rfl ?_
      refine zi_iload_n dX11_write_57 rfl rfl ?_
      refine zi_aload_n dX11_write_58 rfl rfl ?_
      refine zi_getr fl_X11_76 sk72 rfl dX11_write_59 ?_
      refine zi_bipush (v := 8) dX11_write_62 (by decide) ?_
      refine zi_iload_n dX11_write_64 rfl rfl ?_
      refine zi_imul dX11_write_65 ?_
      refine zi_iload_n dX11_write_66 rfl rfl ?_
      refine zi_iadd dX11_write_67 ?_
      refine zi_iald sk95 h.1 dX11_write_68 ?_
      replace h := h.2
      refine zt_Vv (As := [.int v2, .int v3, .int (S 95 (((8 : Int32) * v3) + v1).toNatClampNeg)]) dX11_write_69 lk_X11_361 sk72 rfl ⟨⟨by decide, by decide⟩, rfl, rfl⟩ rfl ⟨Nat.le_of_ble_eq_true rfl, rfl, rfl⟩ h (fun S1 L1 h => ?_)
      obtain ⟨x1, ex1⟩ : ∃ y : Int32, y = v3 + (1 : Int32) := ⟨_, rfl⟩
      replace h := h x1 ex1
      refine zi_iinc (v := x1) dX11_write_72 rfl (by rw [ex1]; rfl) (by decide) rfl ?_
      refine zi_goto (tgt := 39) dX11_write_75 (by decide) ?_
      refine zt_drop (lv' := [some (.ref 72), some (.int v1), some (.int v2), some (.int x1)]) [true, true, true, true] rfl ?_
      exact h
theorem e_X11_write {p : Int32} {s : Int32} {S : zS} {L : zL} {P : Int32 → zS → zL → Prop} (h : ∀ X, zU mX11_write X S L 0 [some (.ref 72), some (.int p), some (.int s), none] [] (zpi P)) : zCi mX11_write S L [.ref 72, .int p, .int s] P := zCi_of pn_X11_write (Nat.le_of_ble_eq_true rfl) (fun X => zt_pad (j := 1) rfl (h X))
set_option maxHeartbeats 2000000 in
theorem b_X11_sumOf_0 {what : Int32} {X : Nat × (Nat → Int32)} {S : zS} {L : zL} {P : Int32 → zS → zL → Prop} (h : zCv mX11_runsTold S L [.ref 72] (fun S1 L1 => ((¬ what = 0 → ((¬ what = (1 : Int32) → zCi mX11_livesMany S1 L1 [.ref 72] (fun y2 S2 L2 => P y2 S2 L2)) ∧ (what = (1 : Int32) → P (S1 72 6) S1 L1))) ∧ (what = 0 → P (S1 72 2) S1 L1)))) : zU mX11_sumOf X S L 0 [some (.ref 72), some (.int what)] [] (zpi P) := by
  refine zi_aload_n dX11_sumOf_0 rfl rfl ?_
  refine zt_Vv (As := []) dX11_sumOf_1 lk_X11_272 sk72 rfl ⟨⟨by decide, by decide⟩, rfl, rfl⟩ rfl ⟨Nat.le_of_ble_eq_true rfl, rfl, rfl⟩ h (fun S1 L1 h => ?_)
  refine zi_iload_n dX11_sumOf_4 rfl rfl ?_
  refine zi_if_ne (tgt := 15) dX11_sumOf_5 (by decide) (fun q9 => ?_) (fun q9 => ?_)
  · replace h := h.1 q9
    refine zi_iload_n dX11_sumOf_15 rfl rfl ?_
    refine zi_iconst (v := 1) dX11_sumOf_16 (by decide) ?_
    refine zi_icmp_ne (tgt := 27) dX11_sumOf_17 (by decide) (fun q9 => ?_) (fun q9 => ?_)
    · replace h := h.1 q9
      refine zi_aload_n dX11_sumOf_27 rfl rfl ?_
      refine zt_Vi (As := []) dX11_sumOf_28 lk_X11_311 sk72 rfl ⟨⟨by decide, by decide⟩, rfl, rfl⟩ rfl ⟨Nat.le_of_ble_eq_true rfl, rfl, rfl⟩ h (fun y2 S2 L2 h => ?_)
      exact zt_iret dX11_sumOf_31 rfl h
    · replace h := h.2 q9
      refine zi_aload_n dX11_sumOf_20 rfl rfl ?_
      refine zi_geti fl_X11_155 sk72 rfl dX11_sumOf_21 ?_
      refine zi_goto (tgt := 31) dX11_sumOf_24 (by decide) ?_
      exact zt_iret dX11_sumOf_31 rfl h
  · replace h := h.2 q9
    refine zi_aload_n dX11_sumOf_8 rfl rfl ?_
    refine zi_geti fl_X11_152 sk72 rfl dX11_sumOf_9 ?_
    refine zi_goto (tgt := 31) dX11_sumOf_12 (by decide) ?_
    exact zt_iret dX11_sumOf_31 rfl h
theorem e_X11_sumOf {what : Int32} {S : zS} {L : zL} {P : Int32 → zS → zL → Prop} (h : ∀ X, zU mX11_sumOf X S L 0 [some (.ref 72), some (.int what)] [] (zpi P)) : zCi mX11_sumOf S L [.ref 72, .int what] P := zCi_of pn_X11_sumOf (Nat.le_of_ble_eq_true rfl) (fun X => zt_pad (j := 0) rfl (h X))
set_option maxHeartbeats 2000000 in
theorem b_X11_count_0 {what : Int32} {X : Nat × (Nat → Int32)} {S : zS} {L : zL} {P : Int32 → zS → zL → Prop} (h : ((what = 0 → zCi mX11_sumOf S L [.ref 72, .int what] (fun y1 S1 L1 => P y1 S1 L1)) ∧ (what = 1 → zCi mX11_sumOf S L [.ref 72, .int what] (fun y1 S1 L1 => P y1 S1 L1)) ∧ (what = 2 → vp_in (what - (2 : Int32)) 2 ∧ P (S 73 (what - (2 : Int32)).toNatClampNeg) S L) ∧ (what = 3 → vp_in (what - (2 : Int32)) 2 ∧ P (S 73 (what - (2 : Int32)).toNatClampNeg) S L) ∧ (what = 4 → P (S 72 12) S L) ∧ (what = 5 → P ((S 72 16) + (S 72 20)) S L) ∧ (what = 6 → zCi mX11_sumOf S L [.ref 72, .int what] (fun y1 S1 L1 => P y1 S1 L1)) ∧ (what = 7 → P (S 72 45) S L) ∧ (what = 8 → P (S 72 55) S L) ∧ (¬ what = 0 → ¬ what = 1 → ¬ what = 2 → ¬ what = 3 → ¬ what = 4 → ¬ what = 5 → ¬ what = 6 → ¬ what = 7 → ¬ what = 8 → P (-2 : Int32) S L))) : zU mX11_count X S L 0 [some (.ref 72), some (.int what)] [] (zpi P) := by
  refine zi_iload_n dX11_count_0 rfl rfl ?_
  by_cases q0 : what = 0
  · replace h := h.1 q0
    refine zi_tableIn (off := 51) (tgt := 52) dX11_count_1 (by rw [q0]; decide) (by rw [q0]; decide) (by rw [q0]; rfl) (by decide) ?_
    refine zi_aload_n dX11_count_52 rfl rfl ?_
    refine zi_iload_n dX11_count_53 rfl rfl ?_
    refine zt_Vi (As := [.int what]) dX11_count_54 lk_X11_366 sk72 rfl ⟨⟨by decide, by decide⟩, rfl, rfl⟩ rfl ⟨Nat.le_of_ble_eq_true rfl, rfl, rfl⟩ h (fun y1 S1 L1 h => ?_)
    exact zt_iret dX11_count_57 rfl h
  replace h := h.2
  by_cases q1 : what = 1
  · replace h := h.1 q1
    refine zi_tableIn (off := 51) (tgt := 52) dX11_count_1 (by rw [q1]; decide) (by rw [q1]; decide) (by rw [q1]; rfl) (by decide) ?_
    refine zi_aload_n dX11_count_52 rfl rfl ?_
    refine zi_iload_n dX11_count_53 rfl rfl ?_
    refine zt_Vi (As := [.int what]) dX11_count_54 lk_X11_366 sk72 rfl ⟨⟨by decide, by decide⟩, rfl, rfl⟩ rfl ⟨Nat.le_of_ble_eq_true rfl, rfl, rfl⟩ h (fun y1 S1 L1 h => ?_)
    exact zt_iret dX11_count_57 rfl h
  replace h := h.2
  by_cases q2 : what = 2
  · replace h := h.1 q2
    refine zi_tableIn (off := 57) (tgt := 58) dX11_count_1 (by rw [q2]; decide) (by rw [q2]; decide) (by rw [q2]; rfl) (by decide) ?_
    refine zi_aload_n dX11_count_58 rfl rfl ?_
    refine zi_getr fl_X11_7 sk72 rfl dX11_count_59 ?_
    refine zi_iload_n dX11_count_62 rfl rfl ?_
    refine zi_iconst (v := 2) dX11_count_63 (by decide) ?_
    refine zi_isub dX11_count_64 ?_
    refine zi_iald sk73 h.1 dX11_count_65 ?_
    replace h := h.2
    exact zt_iret dX11_count_66 rfl h
  replace h := h.2
  by_cases q3 : what = 3
  · replace h := h.1 q3
    refine zi_tableIn (off := 57) (tgt := 58) dX11_count_1 (by rw [q3]; decide) (by rw [q3]; decide) (by rw [q3]; rfl) (by decide) ?_
    refine zi_aload_n dX11_count_58 rfl rfl ?_
    refine zi_getr fl_X11_7 sk72 rfl dX11_count_59 ?_
    refine zi_iload_n dX11_count_62 rfl rfl ?_
    refine zi_iconst (v := 2) dX11_count_63 (by decide) ?_
    refine zi_isub dX11_count_64 ?_
    refine zi_iald sk73 h.1 dX11_count_65 ?_
    replace h := h.2
    exact zt_iret dX11_count_66 rfl h
  replace h := h.2
  by_cases q4 : what = 4
  · replace h := h.1 q4
    refine zi_tableIn (off := 66) (tgt := 67) dX11_count_1 (by rw [q4]; decide) (by rw [q4]; decide) (by rw [q4]; rfl) (by decide) ?_
    refine zi_aload_n dX11_count_67 rfl rfl ?_
    refine zi_geti fl_X11_192 sk72 rfl dX11_count_68 ?_
    exact zt_iret dX11_count_71 rfl h
  replace h := h.2
  by_cases q5 : what = 5
  · replace h := h.1 q5
    refine zi_tableIn (off := 71) (tgt := 72) dX11_count_1 (by rw [q5]; decide) (by rw [q5]; decide) (by rw [q5]; rfl) (by decide) ?_
    refine zi_aload_n dX11_count_72 rfl rfl ?_
    refine zi_geti fl_X11_195 sk72 rfl dX11_count_73 ?_
    refine zi_aload_n dX11_count_76 rfl rfl ?_
    refine zi_geti fl_X11_198 sk72 rfl dX11_count_77 ?_
    refine zi_iadd dX11_count_80 ?_
    exact zt_iret dX11_count_81 rfl h
  replace h := h.2
  by_cases q6 : what = 6
  · replace h := h.1 q6
    refine zi_tableIn (off := 51) (tgt := 52) dX11_count_1 (by rw [q6]; decide) (by rw [q6]; decide) (by rw [q6]; rfl) (by decide) ?_
    refine zi_aload_n dX11_count_52 rfl rfl ?_
    refine zi_iload_n dX11_count_53 rfl rfl ?_
    refine zt_Vi (As := [.int what]) dX11_count_54 lk_X11_366 sk72 rfl ⟨⟨by decide, by decide⟩, rfl, rfl⟩ rfl ⟨Nat.le_of_ble_eq_true rfl, rfl, rfl⟩ h (fun y1 S1 L1 h => ?_)
    exact zt_iret dX11_count_57 rfl h
  replace h := h.2
  by_cases q7 : what = 7
  · replace h := h.1 q7
    refine zi_tableIn (off := 81) (tgt := 82) dX11_count_1 (by rw [q7]; decide) (by rw [q7]; decide) (by rw [q7]; rfl) (by decide) ?_
    refine zi_aload_n dX11_count_82 rfl rfl ?_
    refine zi_geti fl_X11_323 sk72 rfl dX11_count_83 ?_
    exact zt_iret dX11_count_86 rfl h
  replace h := h.2
  by_cases q8 : what = 8
  · replace h := h.1 q8
    refine zi_tableIn (off := 86) (tgt := 87) dX11_count_1 (by rw [q8]; decide) (by rw [q8]; decide) (by rw [q8]; rfl) (by decide) ?_
    refine zi_aload_n dX11_count_87 rfl rfl ?_
    refine zi_geti fl_X11_355 sk72 rfl dX11_count_88 ?_
    exact zt_iret dX11_count_91 rfl h
  replace h := h.2
  replace h := h q0 q1 q2 q3 q4 q5 q6 q7 q8
  have q0t := lv_neT q0 (show (0 : Int32).toInt = 0 by decide)
  have q1t := lv_neT q1 (show (1 : Int32).toInt = 1 by decide)
  have q2t := lv_neT q2 (show (2 : Int32).toInt = 2 by decide)
  have q3t := lv_neT q3 (show (3 : Int32).toInt = 3 by decide)
  have q4t := lv_neT q4 (show (4 : Int32).toInt = 4 by decide)
  have q5t := lv_neT q5 (show (5 : Int32).toInt = 5 by decide)
  have q6t := lv_neT q6 (show (6 : Int32).toInt = 6 by decide)
  have q7t := lv_neT q7 (show (7 : Int32).toInt = 7 by decide)
  have q8t := lv_neT q8 (show (8 : Int32).toInt = 8 by decide)
  refine zi_tableOut (tgt := 92) dX11_count_1 (by omega) (by decide) ?_
  refine zi_bipush (v := -2) dX11_count_92 (by decide) ?_
  exact zt_iret dX11_count_94 rfl h
theorem e_X11_count {what : Int32} {S : zS} {L : zL} {P : Int32 → zS → zL → Prop} (h : ∀ X, zU mX11_count X S L 0 [some (.ref 72), some (.int what)] [] (zpi P)) : zCi mX11_count S L [.ref 72, .int what] P := zCi_of pn_X11_count (Nat.le_of_ble_eq_true rfl) (fun X => zt_pad (j := 0) rfl (h X))
