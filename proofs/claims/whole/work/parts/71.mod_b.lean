set_option maxHeartbeats 2000000 in
theorem b_X11_set_0 {what : Int32} {v : Int32} {X : Nat × (Nat → Int32)} {S : zS} {L : zL} {P : Int32 → zS → zL → Prop} (h : ((((0 : Int32) ≤ what ∧ what ≤ (1 : Int32)) → ((¬ what = 0 → zU mX11_set X S L 22 [some (.ref 72), some (.int what), some (.int v), none] [.int (30 : Int32), .int (0 : Int32), .int v] (zpi P)) ∧ (what = 0 → zU mX11_set X S L 22 [some (.ref 72), some (.int what), some (.int v), none] [.int (9 : Int32), .int (0 : Int32), .int v] (zpi P)))) ∧ (¬ ((0 : Int32) ≤ what ∧ what ≤ (1 : Int32)) → P (-2 : Int32) S L))) : zU mX11_set X S L 0 [some (.ref 72), some (.int what), some (.int v), none] [] (zpi P) := by
  refine zi_iload_n dX11_set_0 rfl rfl ?_
  refine zi_iconst (v := 0) dX11_set_1 (by decide) ?_
  refine zi_iconst (v := 1) dX11_set_2 (by decide) ?_
  refine zt_Si (As := [.int what, .int (0 : Int32), .int (1 : Int32)]) dX11_set_3 lk_X11_140 ⟨⟨by decide, by decide⟩, rfl, rfl⟩ rfl ⟨Nat.le_of_ble_eq_true rfl, rfl, rfl⟩ (in_s (P := fun y S9 L9 => y = (if ((0 : Int32) ≤ what ∧ what ≤ (1 : Int32)) then (1 : Int32) else 0) ∧ S = S9 ∧ L = L9) ⟨rfl, rfl, rfl⟩) (fun y1 S9 L9 q9 => ?_)
  obtain ⟨ey1, rfl, rfl⟩ := q9
  by_cases q9 : ((0 : Int32) ≤ what ∧ what ≤ (1 : Int32))
  · replace h := h.1 q9
    rw [if_pos q9] at ey1
    subst ey1
    refine zi_if_eq (tgt := 28) dX11_set_6 (by decide) (fun z9 => absurd z9 (by decide)) (fun _ => ?_)
    refine zi_iload_n dX11_set_9 rfl rfl ?_
    refine zi_iconst (v := 0) dX11_set_10 (by decide) ?_
    refine zi_iload_n dX11_set_11 rfl rfl ?_
    refine zi_if_ne (tgt := 20) dX11_set_12 (by decide) (fun q9 => ?_) (fun q9 => ?_)
    · replace h := h.1 q9
      refine zi_bipush (v := 30) dX11_set_20 (by decide) ?_
      refine zt_drop (lv' := [some (.ref 72), some (.int what), some (.int v), none]) [true, true, true, false] rfl ?_
      exact h
    · replace h := h.2 q9
      refine zi_bipush (v := 9) dX11_set_15 (by decide) ?_
      refine zi_goto (tgt := 22) dX11_set_17 (by decide) ?_
      refine zt_drop (lv' := [some (.ref 72), some (.int what), some (.int v), none]) [true, true, true, false] rfl ?_
      exact h
  · replace h := h.2 q9
    rw [if_neg q9] at ey1
    subst ey1
    refine zi_if_eq (tgt := 28) dX11_set_6 (by decide) (fun _ => ?_) (fun z9 => absurd rfl z9)
    refine zi_bipush (v := -2) dX11_set_28 (by decide) ?_
    exact zt_iret dX11_set_30 rfl h
set_option maxHeartbeats 2000000 in
theorem b_X11_set_22 {v1 : Int32} {v2 : Int32} {w2 : Int32} {w1 : Int32} {w0 : Int32} {X : Nat × (Nat → Int32)} {S : zS} {L : zL} {P : Int32 → zS → zL → Prop} (h : (((w1 ≤ w0 ∧ w0 ≤ w2) → ((¬ v1 = 0 → zU mX11_set X S L 46 [some (.ref 72), some (.int v1), some (.int v2), none] [.int (S 72 11)] (zpi P)) ∧ (v1 = 0 → zU mX11_set X S L 46 [some (.ref 72), some (.int v1), some (.int v2), none] [.int (S 72 10)] (zpi P)))) ∧ (¬ (w1 ≤ w0 ∧ w0 ≤ w2) → P (-2 : Int32) S L))) : zU mX11_set X S L 22 [some (.ref 72), some (.int v1), some (.int v2), none] [.int w2, .int w1, .int w0] (zpi P) := by
  refine zt_Si (As := [.int w0, .int w1, .int w2]) dX11_set_22 lk_X11_140 ⟨⟨by decide, by decide⟩, rfl, rfl⟩ rfl ⟨Nat.le_of_ble_eq_true rfl, rfl, rfl⟩ (in_s (P := fun y S9 L9 => y = (if (w1 ≤ w0 ∧ w0 ≤ w2) then (1 : Int32) else 0) ∧ S = S9 ∧ L = L9) ⟨rfl, rfl, rfl⟩) (fun y1 S9 L9 q9 => ?_)
  obtain ⟨ey1, rfl, rfl⟩ := q9
  by_cases q9 : (w1 ≤ w0 ∧ w0 ≤ w2)
  · replace h := h.1 q9
    rw [if_pos q9] at ey1
    subst ey1
    refine zi_if_ne (tgt := 31) dX11_set_25 (by decide) (fun _ => ?_) (fun z9 => absurd z9 (by decide))
    refine zi_iload_n dX11_set_31 rfl rfl ?_
    refine zi_if_ne (tgt := 42) dX11_set_32 (by decide) (fun q9 => ?_) (fun q9 => ?_)
    · replace h := h.1 q9
      refine zi_aload_n dX11_set_42 rfl rfl ?_
      refine zi_geti fl_X11_135 sk72 rfl dX11_set_43 ?_
      refine zt_drop (lv' := [some (.ref 72), some (.int v1), some (.int v2), none]) [true, true, true, false] rfl ?_
      exact h
    · replace h := h.2 q9
      refine zi_aload_n dX11_set_35 rfl rfl ?_
      refine zi_geti fl_X11_131 sk72 rfl dX11_set_36 ?_
      refine zi_goto (tgt := 46) dX11_set_39 (by decide) ?_
      refine zt_drop (lv' := [some (.ref 72), some (.int v1), some (.int v2), none]) [true, true, true, false] rfl ?_
      exact h
  · replace h := h.2 q9
    rw [if_neg q9] at ey1
    subst ey1
    refine zi_if_ne (tgt := 31) dX11_set_25 (by decide) (fun z9 => absurd rfl z9) (fun _ => ?_)
    refine zi_bipush (v := -2) dX11_set_28 (by decide) ?_
    exact zt_iret dX11_set_30 rfl h
set_option maxHeartbeats 2000000 in
theorem b_X11_set_46 {v1 : Int32} {v2 : Int32} {w0 : Int32} {X : Nat × (Nat → Int32)} {S : zS} {L : zL} {P : Int32 → zS → zL → Prop} (h : ((¬ v1 = 0 → zU mX11_set X S L 60 [some (.ref 72), some (.int v1), some (.int v2), some (.int w0)] [.int (S 72 10), .ref 72] (zpi P)) ∧ (v1 = 0 → zU mX11_set X S L 60 [some (.ref 72), some (.int v1), some (.int v2), some (.int w0)] [.int v2, .ref 72] (zpi P)))) : zU mX11_set X S L 46 [some (.ref 72), some (.int v1), some (.int v2), none] [.int w0] (zpi P) := by
  refine zi_istore_n dX11_set_46 rfl (by decide) rfl ?_
  refine zi_aload_n dX11_set_47 rfl rfl ?_
  refine zi_iload_n dX11_set_48 rfl rfl ?_
  refine zi_if_ne (tgt := 56) dX11_set_49 (by decide) (fun q9 => ?_) (fun q9 => ?_)
  · replace h := h.1 q9
    refine zi_aload_n dX11_set_56 rfl rfl ?_
    refine zi_geti fl_X11_131 sk72 rfl dX11_set_57 ?_
    refine zt_drop (lv' := [some (.ref 72), some (.int v1), some (.int v2), some (.int w0)]) [true, true, true, true] rfl ?_
    exact h
  · replace h := h.2 q9
    refine zi_iload_n dX11_set_52 rfl rfl ?_
    refine zi_goto (tgt := 60) dX11_set_53 (by decide) ?_
    refine zt_drop (lv' := [some (.ref 72), some (.int v1), some (.int v2), some (.int w0)]) [true, true, true, true] rfl ?_
    exact h
set_option maxHeartbeats 2000000 in
theorem b_X11_set_60 {v1 : Int32} {v2 : Int32} {v3 : Int32} {w1 : Int32} {X : Nat × (Nat → Int32)} {S : zS} {L : zL} {P : Int32 → zS → zL → Prop} (h : ∀ S1 : zS, S1 = zc S 72 (upd (S 72) 10 w1) → ((¬ v1 = (1 : Int32) → ∀ S2 : zS, S2 = zc S1 72 (upd (S1 72) 11 (S1 72 11)) → P v3 S2 L) ∧ (v1 = (1 : Int32) → ∀ S2 : zS, S2 = zc S1 72 (upd (S1 72) 11 v2) → P v3 S2 L))) : zU mX11_set X S L 60 [some (.ref 72), some (.int v1), some (.int v2), some (.int v3)] [.int w1, .ref 72] (zpi P) := by
  refine zi_puti fp_X11_131 sk72 rfl dX11_set_60 ?_
  refine zt_nmS (fun S1 eS1 => ?_)
  replace h := h S1 eS1
  refine zi_aload_n dX11_set_63 rfl rfl ?_
  refine zi_iload_n dX11_set_64 rfl rfl ?_
  refine zi_iconst (v := 1) dX11_set_65 (by decide) ?_
  refine zi_icmp_ne (tgt := 73) dX11_set_66 (by decide) (fun q9 => ?_) (fun q9 => ?_)
  · replace h := h.1 q9
    refine zi_aload_n dX11_set_73 rfl rfl ?_
    refine zi_geti fl_X11_135 sk72 rfl dX11_set_74 ?_
    refine zi_puti fp_X11_135 sk72 rfl dX11_set_77 ?_
    refine zt_nmS (fun S2 eS2 => ?_)
    replace h := h S2 eS2
    refine zi_iload_n dX11_set_80 rfl rfl ?_
    exact zt_iret dX11_set_81 rfl h
  · replace h := h.2 q9
    refine zi_iload_n dX11_set_69 rfl rfl ?_
    refine zi_goto (tgt := 77) dX11_set_70 (by decide) ?_
    refine zi_puti fp_X11_135 sk72 rfl dX11_set_77 ?_
    refine zt_nmS (fun S2 eS2 => ?_)
    replace h := h S2 eS2
    refine zi_iload_n dX11_set_80 rfl rfl ?_
    exact zt_iret dX11_set_81 rfl h
theorem e_X11_set {what : Int32} {v : Int32} {S : zS} {L : zL} {P : Int32 → zS → zL → Prop} (h : ∀ X, zU mX11_set X S L 0 [some (.ref 72), some (.int what), some (.int v), none] [] (zpi P)) : zCi mX11_set S L [.ref 72, .int what, .int v] P := zCi_of pn_X11_set (Nat.le_of_ble_eq_true rfl) (fun X => zt_pad (j := 1) rfl (h X))
set_option maxHeartbeats 2000000 in
theorem b_X11_round_0 {m : Int32} {c : Int32} {p : Int32} {X : Nat × (Nat → Int32)} {S : zS} {L : zL} {P : Int32 → zS → zL → Prop} (h : ((((0 : Int32) ≤ m ∧ m ≤ (23 : Int32)) → ((((0 : Int32) ≤ c ∧ c ≤ (3 : Int32)) → ((((1 : Int32) ≤ p ∧ p ≤ (4 : Int32)) → ((¬ (S 72 12) = (8 : Int32) → vp_in (S 72 12) 9 ∧ ∀ S1 : zS, S1 = zc S 81 (upd (S 81) (S 72 12).toNatClampNeg m) → vp_in (S1 72 12) 9 ∧ ∀ S2 : zS, S2 = zc S1 82 (upd (S1 82) (S1 72 12).toNatClampNeg c) → vp_in (S2 72 12) 9 ∧ ∀ S3 : zS, S3 = zc S2 83 (upd (S2 83) (S2 72 12).toNatClampNeg p) → ∀ S4 : zS, S4 = zc S3 72 (upd (S3 72) 12 ((S3 72 12) + (1 : Int32))) → P (S4 72 12) S4 L) ∧ ((S 72 12) = (8 : Int32) → P (-4 : Int32) S L))) ∧ (¬ ((1 : Int32) ≤ p ∧ p ≤ (4 : Int32)) → P (-2 : Int32) S L))) ∧ (¬ ((0 : Int32) ≤ c ∧ c ≤ (3 : Int32)) → P (-2 : Int32) S L))) ∧ (¬ ((0 : Int32) ≤ m ∧ m ≤ (23 : Int32)) → P (-2 : Int32) S L))) : zU mX11_round X S L 0 [some (.ref 72), some (.int m), some (.int c), some (.int p)] [] (zpi P) := by
  refine zi_iload_n dX11_round_0 rfl rfl ?_
  refine zt_Si (As := [.int m]) dX11_round_1 lk_X11_186 ⟨⟨by decide, by decide⟩, rfl, rfl⟩ rfl ⟨Nat.le_of_ble_eq_true rfl, rfl, rfl⟩ (isMonth_s (P := fun y S9 L9 => y = (if ((0 : Int32) ≤ m ∧ m ≤ (23 : Int32)) then (1 : Int32) else 0) ∧ S = S9 ∧ L = L9) ⟨rfl, rfl, rfl⟩) (fun y1 S9 L9 q9 => ?_)
  obtain ⟨ey1, rfl, rfl⟩ := q9
  by_cases q9 : ((0 : Int32) ≤ m ∧ m ≤ (23 : Int32))
  · replace h := h.1 q9
    rw [if_pos q9] at ey1
    subst ey1
    refine zi_if_eq (tgt := 23) dX11_round_4 (by decide) (fun z9 => absurd z9 (by decide)) (fun _ => ?_)
    refine zi_iload_n dX11_round_7 rfl rfl ?_
    refine zt_Si (As := [.int c]) dX11_round_8 lk_X11_189 ⟨⟨by decide, by decide⟩, rfl, rfl⟩ rfl ⟨Nat.le_of_ble_eq_true rfl, rfl, rfl⟩ (isCounty_s (P := fun y S9 L9 => y = (if ((0 : Int32) ≤ c ∧ c ≤ (3 : Int32)) then (1 : Int32) else 0) ∧ S = S9 ∧ L = L9) ⟨rfl, rfl, rfl⟩) (fun y2 S9 L9 q9 => ?_)
    obtain ⟨ey2, rfl, rfl⟩ := q9
    by_cases q9 : ((0 : Int32) ≤ c ∧ c ≤ (3 : Int32))
    · replace h := h.1 q9
      rw [if_pos q9] at ey2
      subst ey2
      refine zi_if_eq (tgt := 23) dX11_round_11 (by decide) (fun z9 => absurd z9 (by decide)) (fun _ => ?_)
      refine zi_iload_n dX11_round_14 rfl rfl ?_
      refine zi_iconst (v := 1) dX11_round_15 (by decide) ?_
      refine zi_iconst (v := 4) dX11_round_16 (by decide) ?_
      refine zt_Si (As := [.int p, .int (1 : Int32), .int (4 : Int32)]) dX11_round_17 lk_X11_140 ⟨⟨by decide, by decide⟩, rfl, rfl⟩ rfl ⟨Nat.le_of_ble_eq_true rfl, rfl, rfl⟩ (in_s (P := fun y S9 L9 => y = (if ((1 : Int32) ≤ p ∧ p ≤ (4 : Int32)) then (1 : Int32) else 0) ∧ S = S9 ∧ L = L9) ⟨rfl, rfl, rfl⟩) (fun y3 S9 L9 q9 => ?_)
      obtain ⟨ey3, rfl, rfl⟩ := q9
      by_cases q9 : ((1 : Int32) ≤ p ∧ p ≤ (4 : Int32))
      · replace h := h.1 q9
        rw [if_pos q9] at ey3
        subst ey3
        refine zi_if_ne (tgt := 26) dX11_round_20 (by decide) (fun _ => ?_) (fun z9 => absurd z9 (by decide))
        refine zi_aload_n dX11_round_26 rfl rfl ?_
        refine zi_geti fl_X11_192 sk72 rfl dX11_round_27 ?_
        refine zi_bipush (v := 8) dX11_round_30 (by decide) ?_
        refine zi_icmp_ne (tgt := 38) dX11_round_32 (by decide) (fun q9 => ?_) (fun q9 => ?_)
        · replace h := h.1 q9
          refine zi_aload_n dX11_round_38 rfl rfl ?_
          refine zi_getr fl_X11_34 sk72 rfl dX11_round_39 ?_
          refine zi_aload_n dX11_round_42 rfl rfl ?_
          refine zi_geti fl_X11_192 sk72 rfl dX11_round_43 ?_
          refine zi_iload_n dX11_round_46 rfl rfl ?_
          refine zi_iast sk81 h.1 dX11_round_47 ?_
          replace h := h.2
          refine zt_nmS (fun S1 eS1 => ?_)
          replace h := h S1 eS1
          refine zi_aload_n dX11_round_48 rfl rfl ?_
          refine zi_getr fl_X11_37 sk72 rfl dX11_round_49 ?_
          refine zi_aload_n dX11_round_52 rfl rfl ?_
          refine zi_geti fl_X11_192 sk72 rfl dX11_round_53 ?_
          refine zi_iload_n dX11_round_56 rfl rfl ?_
          refine zi_iast sk82 h.1 dX11_round_57 ?_
          replace h := h.2
          refine zt_nmS (fun S2 eS2 => ?_)
          replace h := h S2 eS2
          refine zi_aload_n dX11_round_58 rfl rfl ?_
          refine zi_getr fl_X11_40 sk72 rfl dX11_round_59 ?_
          refine zi_aload_n dX11_round_62 rfl rfl ?_
          refine zi_geti fl_X11_192 sk72 rfl dX11_round_63 ?_
          refine zi_iload_n dX11_round_66 rfl rfl ?_
          refine zi_iast sk83 h.1 dX11_round_67 ?_
          replace h := h.2
          refine zt_nmS (fun S3 eS3 => ?_)
          replace h := h S3 eS3
          refine zi_aload_n dX11_round_68 rfl rfl ?_
          refine zi_dup dX11_round_69 rfl ?_
          refine zi_geti fl_X11_192 sk72 rfl dX11_round_70 ?_
          refine zi_iconst (v := 1) dX11_round_73 (by decide) ?_
          refine zi_iadd dX11_round_74 ?_
          refine zi_puti fp_X11_192 sk72 rfl dX11_round_75 ?_
          refine zt_nmS (fun S4 eS4 => ?_)
          replace h := h S4 eS4
          refine zi_aload_n dX11_round_78 rfl rfl ?_
          refine zi_geti fl_X11_192 sk72 rfl dX11_round_79 ?_
          exact zt_iret dX11_round_82 rfl h
        · replace h := h.2 q9
          refine zi_bipush (v := -4) dX11_round_35 (by decide) ?_
          exact zt_iret dX11_round_37 rfl h
      · replace h := h.2 q9
        rw [if_neg q9] at ey3
        subst ey3
        refine zi_if_ne (tgt := 26) dX11_round_20 (by decide) (fun z9 => absurd rfl z9) (fun _ => ?_)
        refine zi_bipush (v := -2) dX11_round_23 (by decide) ?_
        exact zt_iret dX11_round_25 rfl h
    · replace h := h.2 q9
      rw [if_neg q9] at ey2
      subst ey2
      refine zi_if_eq (tgt := 23) dX11_round_11 (by decide) (fun _ => ?_) (fun z9 => absurd rfl z9)
      refine zi_bipush (v := -2) dX11_round_23 (by decide) ?_
      exact zt_iret dX11_round_25 rfl h
  · replace h := h.2 q9
    rw [if_neg q9] at ey1
    subst ey1
    refine zi_if_eq (tgt := 23) dX11_round_4 (by decide) (fun _ => ?_) (fun z9 => absurd rfl z9)
    refine zi_bipush (v := -2) dX11_round_23 (by decide) ?_
    exact zt_iret dX11_round_25 rfl h
theorem e_X11_round {m : Int32} {c : Int32} {p : Int32} {S : zS} {L : zL} {P : Int32 → zS → zL → Prop} (h : ∀ X, zU mX11_round X S L 0 [some (.ref 72), some (.int m), some (.int c), some (.int p)] [] (zpi P)) : zCi mX11_round S L [.ref 72, .int m, .int c, .int p] P := zCi_of pn_X11_round (Nat.le_of_ble_eq_true rfl) (fun X => zt_pad (j := 0) rfl (h X))
set_option maxHeartbeats 2000000 in
theorem b_X11_journey_0 {m : Int32} {p : Int32} {c : Int32} {X : Nat × (Nat → Int32)} {S : zS} {L : zL} {P : Int32 → zS → zL → Prop} (h : ((((0 : Int32) ≤ m ∧ m ≤ (23 : Int32)) → ((((0 : Int32) ≤ p ∧ p ≤ (7 : Int32)) → ((((0 : Int32) ≤ c ∧ c ≤ (3 : Int32)) → ((¬ (S 72 16) = (8 : Int32) → vp_in (S 72 16) 8 ∧ ∀ S1 : zS, S1 = zc S 84 (upd (S 84) (S 72 16).toNatClampNeg m) → vp_in (S1 72 16) 8 ∧ ∀ S2 : zS, S2 = zc S1 85 (upd (S1 85) (S1 72 16).toNatClampNeg p) → vp_in (S2 72 16) 8 ∧ ∀ S3 : zS, S3 = zc S2 86 (upd (S2 86) (S2 72 16).toNatClampNeg c) → ∀ S4 : zS, S4 = zc S3 72 (upd (S3 72) 16 ((S3 72 16) + (1 : Int32))) → P (S4 72 16) S4 L) ∧ ((S 72 16) = (8 : Int32) → P (-4 : Int32) S L))) ∧ (¬ ((0 : Int32) ≤ c ∧ c ≤ (3 : Int32)) → P (-2 : Int32) S L))) ∧ (¬ ((0 : Int32) ≤ p ∧ p ≤ (7 : Int32)) → P (-2 : Int32) S L))) ∧ (¬ ((0 : Int32) ≤ m ∧ m ≤ (23 : Int32)) → P (-2 : Int32) S L))) : zU mX11_journey X S L 0 [some (.ref 72), some (.int m), some (.int p), some (.int c)] [] (zpi P) := by
  refine zi_iload_n dX11_journey_0 rfl rfl ?_
  refine zt_Si (As := [.int m]) dX11_journey_1 lk_X11_186 ⟨⟨by decide, by decide⟩, rfl, rfl⟩ rfl ⟨Nat.le_of_ble_eq_true rfl, rfl, rfl⟩ (isMonth_s (P := fun y S9 L9 => y = (if ((0 : Int32) ≤ m ∧ m ≤ (23 : Int32)) then (1 : Int32) else 0) ∧ S = S9 ∧ L = L9) ⟨rfl, rfl, rfl⟩) (fun y1 S9 L9 q9 => ?_)
  obtain ⟨ey1, rfl, rfl⟩ := q9
  by_cases q9 : ((0 : Int32) ≤ m ∧ m ≤ (23 : Int32))
  · replace h := h.1 q9
    rw [if_pos q9] at ey1
    subst ey1
    refine zi_if_eq (tgt := 24) dX11_journey_4 (by decide) (fun z9 => absurd z9 (by decide)) (fun _ => ?_)
    refine zi_iload_n dX11_journey_7 rfl rfl ?_
    refine zi_iconst (v := 0) dX11_journey_8 (by decide) ?_
    refine zi_bipush (v := 7) dX11_journey_9 (by decide) ?_
    refine zt_Si (As := [.int p, .int (0 : Int32), .int (7 : Int32)]) dX11_journey_11 lk_X11_140 ⟨⟨by decide, by decide⟩, rfl, rfl⟩ rfl ⟨Nat.le_of_ble_eq_true rfl, rfl, rfl⟩ (in_s (P := fun y S9 L9 => y = (if ((0 : Int32) ≤ p ∧ p ≤ (7 : Int32)) then (1 : Int32) else 0) ∧ S = S9 ∧ L = L9) ⟨rfl, rfl, rfl⟩) (fun y2 S9 L9 q9 => ?_)
    obtain ⟨ey2, rfl, rfl⟩ := q9
    by_cases q9 : ((0 : Int32) ≤ p ∧ p ≤ (7 : Int32))
    · replace h := h.1 q9
      rw [if_pos q9] at ey2
      subst ey2
      refine zi_if_eq (tgt := 24) dX11_journey_14 (by decide) (fun z9 => absurd z9 (by decide)) (fun _ => ?_)
      refine zi_iload_n dX11_journey_17 rfl rfl ?_
      refine zt_Si (As := [.int c]) dX11_journey_18 lk_X11_189 ⟨⟨by decide, by decide⟩, rfl, rfl⟩ rfl ⟨Nat.le_of_ble_eq_true rfl, rfl, rfl⟩ (isCounty_s (P := fun y S9 L9 => y = (if ((0 : Int32) ≤ c ∧ c ≤ (3 : Int32)) then (1 : Int32) else 0) ∧ S = S9 ∧ L = L9) ⟨rfl, rfl, rfl⟩) (fun y3 S9 L9 q9 => ?_)
      obtain ⟨ey3, rfl, rfl⟩ := q9
      by_cases q9 : ((0 : Int32) ≤ c ∧ c ≤ (3 : Int32))
      · replace h := h.1 q9
        rw [if_pos q9] at ey3
        subst ey3
        refine zi_if_ne (tgt := 27) dX11_journey_21 (by decide) (fun _ => ?_) (fun z9 => absurd z9 (by decide))
        refine zi_aload_n dX11_journey_27 rfl rfl ?_
        refine zi_geti fl_X11_195 sk72 rfl dX11_journey_28 ?_
        refine zi_bipush (v := 8) dX11_journey_31 (by decide) ?_
        refine zi_icmp_ne (tgt := 39) dX11_journey_33 (by decide) (fun q9 => ?_) (fun q9 => ?_)
        · replace h := h.1 q9
          refine zi_aload_n dX11_journey_39 rfl rfl ?_
          refine zi_getr fl_X11_43 sk72 rfl dX11_journey_40 ?_
          refine zi_aload_n dX11_journey_43 rfl rfl ?_
          refine zi_geti fl_X11_195 sk72 rfl dX11_journey_44 ?_
          refine zi_iload_n dX11_journey_47 rfl rfl ?_
          refine zi_iast sk84 h.1 dX11_journey_48 ?_
          replace h := h.2
          refine zt_nmS (fun S1 eS1 => ?_)
          replace h := h S1 eS1
          refine zi_aload_n dX11_journey_49 rfl rfl ?_
          refine zi_getr fl_X11_46 sk72 rfl dX11_journey_50 ?_
          refine zi_aload_n dX11_journey_53 rfl rfl ?_
          refine zi_geti fl_X11_195 sk72 rfl dX11_journey_54 ?_
          refine zi_iload_n dX11_journey_57 rfl rfl ?_
          refine zi_iast sk85 h.1 dX11_journey_58 ?_
          replace h := h.2
          refine zt_nmS (fun S2 eS2 => ?_)
          replace h := h S2 eS2
          refine zi_aload_n dX11_journey_59 rfl rfl ?_
          refine zi_getr fl_X11_49 sk72 rfl dX11_journey_60 ?_
          refine zi_aload_n dX11_journey_63 rfl rfl ?_
          refine zi_geti fl_X11_195 sk72 rfl dX11_journey_64 ?_
          refine zi_iload_n dX11_journey_67 rfl rfl ?_
          refine zi_iast sk86 h.1 dX11_journey_68 ?_
          replace h := h.2
          refine zt_nmS (fun S3 eS3 => ?_)
          replace h := h S3 eS3
          refine zi_aload_n dX11_journey_69 rfl rfl ?_
          refine zi_dup dX11_journey_70 rfl ?_
          refine zi_geti fl_X11_195 sk72 rfl dX11_journey_71 ?_
          refine zi_iconst (v := 1) dX11_journey_74 (by decide) ?_
          refine zi_iadd dX11_journey_75 ?_
          refine zi_puti fp_X11_195 sk72 rfl dX11_journey_76 ?_
          refine zt_nmS (fun S4 eS4 => ?_)
          replace h := h S4 eS4
          refine zi_aload_n dX11_journey_79 rfl rfl ?_
          refine zi_geti fl_X11_195 sk72 rfl dX11_journey_80 ?_
          exact zt_iret dX11_journey_83 rfl h
        · replace h := h.2 q9
          refine zi_bipush (v := -4) dX11_journey_36 (by decide) ?_
          exact zt_iret dX11_journey_38 rfl h
      · replace h := h.2 q9
        rw [if_neg q9] at ey3
        subst ey3
        refine zi_if_ne (tgt := 27) dX11_journey_21 (by decide) (fun z9 => absurd rfl z9) (fun _ => ?_)
        refine zi_bipush (v := -2) dX11_journey_24 (by decide) ?_
        exact zt_iret dX11_journey_26 rfl h
    · replace h := h.2 q9
      rw [if_neg q9] at ey2
      subst ey2
      refine zi_if_eq (tgt := 24) dX11_journey_14 (by decide) (fun _ => ?_) (fun z9 => absurd rfl z9)
      refine zi_bipush (v := -2) dX11_journey_24 (by decide) ?_
      exact zt_iret dX11_journey_26 rfl h
  · replace h := h.2 q9
    rw [if_neg q9] at ey1
    subst ey1
    refine zi_if_eq (tgt := 24) dX11_journey_4 (by decide) (fun _ => ?_) (fun z9 => absurd rfl z9)
    refine zi_bipush (v := -2) dX11_journey_24 (by decide) ?_
    exact zt_iret dX11_journey_26 rfl h
theorem e_X11_journey {m : Int32} {p : Int32} {c : Int32} {S : zS} {L : zL} {P : Int32 → zS → zL → Prop} (h : ∀ X, zU mX11_journey X S L 0 [some (.ref 72), some (.int m), some (.int p), some (.int c)] [] (zpi P)) : zCi mX11_journey S L [.ref 72, .int m, .int p, .int c] P := zCi_of pn_X11_journey (Nat.le_of_ble_eq_true rfl) (fun X => zt_pad (j := 0) rfl (h X))
set_option maxHeartbeats 2000000 in
theorem b_X11_frost_0 {m : Int32} {X : Nat × (Nat → Int32)} {S : zS} {L : zL} {P : Int32 → zS → zL → Prop} (h : ((((0 : Int32) ≤ m ∧ m ≤ (23 : Int32)) → ((¬ (S 72 20) = (6 : Int32) → vp_in (S 72 20) 6 ∧ ∀ S1 : zS, S1 = zc S 87 (upd (S 87) (S 72 20).toNatClampNeg m) → ∀ S2 : zS, S2 = zc S1 72 (upd (S1 72) 20 ((S1 72 20) + (1 : Int32))) → P (S2 72 20) S2 L) ∧ ((S 72 20) = (6 : Int32) → P (-4 : Int32) S L))) ∧ (¬ ((0 : Int32) ≤ m ∧ m ≤ (23 : Int32)) → P (-2 : Int32) S L))) : zU mX11_frost X S L 0 [some (.ref 72), some (.int m)] [] (zpi P) := by
  refine zi_iload_n dX11_frost_0 rfl rfl ?_
  refine zt_Si (As := [.int m]) dX11_frost_1 lk_X11_186 ⟨⟨by decide, by decide⟩, rfl, rfl⟩ rfl ⟨Nat.le_of_ble_eq_true rfl, rfl, rfl⟩ (isMonth_s (P := fun y S9 L9 => y = (if ((0 : Int32) ≤ m ∧ m ≤ (23 : Int32)) then (1 : Int32) else 0) ∧ S = S9 ∧ L = L9) ⟨rfl, rfl, rfl⟩) (fun y1 S9 L9 q9 => ?_)
  obtain ⟨ey1, rfl, rfl⟩ := q9
  by_cases q9 : ((0 : Int32) ≤ m ∧ m ≤ (23 : Int32))
  · replace h := h.1 q9
    rw [if_pos q9] at ey1
    subst ey1
    refine zi_if_ne (tgt := 10) dX11_frost_4 (by decide) (fun _ => ?_) (fun z9 => absurd z9 (by decide))
    refine zi_aload_n dX11_frost_10 rfl rfl ?_
    refine zi_geti fl_X11_198 sk72 rfl dX11_frost_11 ?_
    refine zi_bipush (v := 6) dX11_frost_14 (by decide) ?_
    refine zi_icmp_ne (tgt := 22) dX11_frost_16 (by decide) (fun q9 => ?_) (fun q9 => ?_)
    · replace h := h.1 q9
      refine zi_aload_n dX11_frost_22 rfl rfl ?_
      refine zi_getr fl_X11_52 sk72 rfl dX11_frost_23 ?_
      refine zi_aload_n dX11_frost_26 rfl rfl ?_
      refine zi_geti fl_X11_198 sk72 rfl dX11_frost_27 ?_
      refine zi_iload_n dX11_frost_30 rfl rfl ?_
      refine zi_iast sk87 h.1 dX11_frost_31 ?_
      replace h := h.2
      refine zt_nmS (fun S1 eS1 => ?_)
      replace h := h S1 eS1
      refine zi_aload_n dX11_frost_32 rfl rfl ?_
      refine zi_dup dX11_frost_33 rfl ?_
      refine zi_geti fl_X11_198 sk72 rfl dX11_frost_34 ?_
      refine zi_iconst (v := 1) dX11_frost_37 (by decide) ?_
      refine zi_iadd dX11_frost_38 ?_
      refine zi_puti fp_X11_198 sk72 rfl dX11_frost_39 ?_
      refine zt_nmS (fun S2 eS2 => ?_)
      replace h := h S2 eS2
      refine zi_aload_n dX11_frost_42 rfl rfl ?_
      refine zi_geti fl_X11_198 sk72 rfl dX11_frost_43 ?_
      exact zt_iret dX11_frost_46 rfl h
    · replace h := h.2 q9
      refine zi_bipush (v := -4) dX11_frost_19 (by decide) ?_
      exact zt_iret dX11_frost_21 rfl h
  · replace h := h.2 q9
    rw [if_neg q9] at ey1
    subst ey1
    refine zi_if_ne (tgt := 10) dX11_frost_4 (by decide) (fun z9 => absurd rfl z9) (fun _ => ?_)
    refine zi_bipush (v := -2) dX11_frost_7 (by decide) ?_
    exact zt_iret dX11_frost_9 rfl h
theorem e_X11_frost {m : Int32} {S : zS} {L : zL} {P : Int32 → zS → zL → Prop} (h : ∀ X, zU mX11_frost X S L 0 [some (.ref 72), some (.int m)] [] (zpi P)) : zCi mX11_frost S L [.ref 72, .int m] P := zCi_of pn_X11_frost (Nat.le_of_ble_eq_true rfl) (fun X => zt_pad (j := 0) rfl (h X))
set_option maxHeartbeats 2000000 in
theorem b_X11_back_0 {what : Int32} {X : Nat × (Nat → Int32)} {S : zS} {L : zL} {P : Int32 → zS → zL → Prop} (h : ((((0 : Int32) ≤ what ∧ what ≤ (2 : Int32)) → ((¬ what = 0 → ((¬ what = (1 : Int32) → zU mX11_back X S L 39 [some (.ref 72), some (.int what), none] [.int (S 72 20)] (zpi P)) ∧ (what = (1 : Int32) → zU mX11_back X S L 39 [some (.ref 72), some (.int what), none] [.int (S 72 16)] (zpi P)))) ∧ (what = 0 → zU mX11_back X S L 39 [some (.ref 72), some (.int what), none] [.int (S 72 12)] (zpi P)))) ∧ (¬ ((0 : Int32) ≤ what ∧ what ≤ (2 : Int32)) → P (-2 : Int32) S L))) : zU mX11_back X S L 0 [some (.ref 72), some (.int what), none] [] (zpi P) := by
  refine zi_iload_n dX11_back_0 rfl rfl ?_
  refine zi_iconst (v := 0) dX11_back_1 (by decide) ?_
  refine zi_iconst (v := 2) dX11_back_2 (by decide) ?_
  refine zt_Si (As := [.int what, .int (0 : Int32), .int (2 : Int32)]) dX11_back_3 lk_X11_140 ⟨⟨by decide, by decide⟩, rfl, rfl⟩ rfl ⟨Nat.le_of_ble_eq_true rfl, rfl, rfl⟩ (in_s (P := fun y S9 L9 => y = (if ((0 : Int32) ≤ what ∧ what ≤ (2 : Int32)) then (1 : Int32) else 0) ∧ S = S9 ∧ L = L9) ⟨rfl, rfl, rfl⟩) (fun y1 S9 L9 q9 => ?_)
  obtain ⟨ey1, rfl, rfl⟩ := q9
  by_cases q9 : ((0 : Int32) ≤ what ∧ what ≤ (2 : Int32))
  · replace h := h.1 q9
    rw [if_pos q9] at ey1
    subst ey1
    refine zi_if_ne (tgt := 12) dX11_back_6 (by decide) (fun _ => ?_) (fun z9 => absurd z9 (by decide))
    refine zi_iload_n dX11_back_12 rfl rfl ?_
    refine zi_if_ne (tgt := 23) dX11_back_13 (by decide) (fun q9 => ?_) (fun q9 => ?_)
    · replace h := h.1 q9
      refine zi_iload_n dX11_back_23 rfl rfl ?_
      refine zi_iconst (v := 1) dX11_back_24 (by decide) ?_
      refine zi_icmp_ne (tgt := 35) dX11_back_25 (by decide) (fun q9 => ?_) (fun q9 => ?_)
      · replace h := h.1 q9
        refine zi_aload_n dX11_back_35 rfl rfl ?_
        refine zi_geti fl_X11_198 sk72 rfl dX11_back_36 ?_
        refine zt_drop (lv' := [some (.ref 72), some (.int what), none]) [true, true, false] rfl ?_
        exact h
      · replace h := h.2 q9
        refine zi_aload_n dX11_back_28 rfl rfl ?_
        refine zi_geti fl_X11_195 sk72 rfl dX11_back_29 ?_
        refine zi_goto (tgt := 39) dX11_back_32 (by decide) ?_
        refine zt_drop (lv' := [some (.ref 72), some (.int what), none]) [true, true, false] rfl ?_
        exact h
    · replace h := h.2 q9
      refine zi_aload_n dX11_back_16 rfl rfl ?_
      refine zi_geti fl_X11_192 sk72 rfl dX11_back_17 ?_
      refine zi_goto (tgt := 39) dX11_back_20 (by decide) ?_
      refine zt_drop (lv' := [some (.ref 72), some (.int what), none]) [true, true, false] rfl ?_
      exact h
  · replace h := h.2 q9
    rw [if_neg q9] at ey1
    subst ey1
    refine zi_if_ne (tgt := 12) dX11_back_6 (by decide) (fun z9 => absurd rfl z9) (fun _ => ?_)
    refine zi_bipush (v := -2) dX11_back_9 (by decide) ?_
    exact zt_iret dX11_back_11 rfl h
set_option maxHeartbeats 2000000 in
theorem b_X11_back_39 {v1 : Int32} {w0 : Int32} {X : Nat × (Nat → Int32)} {S : zS} {L : zL} {P : Int32 → zS → zL → Prop} (h : ((¬ w0 = 0 → ((¬ v1 = 0 → zU mX11_back X S L 61 [some (.ref 72), some (.int v1), some (.int w0)] [.int (0 : Int32), .int (S 72 12), .ref 72] (zpi P)) ∧ (v1 = 0 → zU mX11_back X S L 61 [some (.ref 72), some (.int v1), some (.int w0)] [.int (1 : Int32), .int (S 72 12), .ref 72] (zpi P)))) ∧ (w0 = 0 → P (-3 : Int32) S L))) : zU mX11_back X S L 39 [some (.ref 72), some (.int v1), none] [.int w0] (zpi P) := by
  refine zi_istore_n dX11_back_39 rfl (by decide) rfl ?_
  refine zi_iload_n dX11_back_40 rfl rfl ?_
  refine zi_if_ne (tgt := 47) dX11_back_41 (by decide) (fun q9 => ?_) (fun q9 => ?_)
  · replace h := h.1 q9
    refine zi_aload_n dX11_back_47 rfl rfl ?_
    refine zi_dup dX11_back_48 rfl ?_
    refine zi_geti fl_X11_192 sk72 rfl dX11_back_49 ?_
    refine zi_iload_n dX11_back_52 rfl rfl ?_
    refine zi_if_ne (tgt := 60) dX11_back_53 (by decide) (fun q9 => ?_) (fun q9 => ?_)
    · replace h := h.1 q9
      refine zi_iconst (v := 0) dX11_back_60 (by decide) ?_
      refine zt_drop (lv' := [some (.ref 72), some (.int v1), some (.int w0)]) [true, true, true] rfl ?_
      exact h
    · replace h := h.2 q9
      refine zi_iconst (v := 1) dX11_back_56 (by decide) ?_
      refine zi_goto (tgt := 61) dX11_back_57 (by decide) ?_
      refine zt_drop (lv' := [some (.ref 72), some (.int v1), some (.int w0)]) [true, true, true] rfl ?_
      exact h
  · replace h := h.2 q9
    refine zi_bipush (v := -3) dX11_back_44 (by decide) ?_
    exact zt_iret dX11_back_46 rfl h
set_option maxHeartbeats 2000000 in
theorem b_X11_back_61 {v1 : Int32} {v2 : Int32} {w2 : Int32} {w1 : Int32} {X : Nat × (Nat → Int32)} {S : zS} {L : zL} {P : Int32 → zS → zL → Prop} (h : ∀ S1 : zS, S1 = zc S 72 (upd (S 72) 12 (w1 - w2)) → ((¬ v1 = (1 : Int32) → zU mX11_back X S1 L 80 [some (.ref 72), some (.int v1), some (.int v2)] [.int (0 : Int32), .int (S1 72 16), .ref 72] (zpi P)) ∧ (v1 = (1 : Int32) → zU mX11_back X S1 L 80 [some (.ref 72), some (.int v1), some (.int v2)] [.int (1 : Int32), .int (S1 72 16), .ref 72] (zpi P)))) : zU mX11_back X S L 61 [some (.ref 72), some (.int v1), some (.int v2)] [.int w2, .int w1, .ref 72] (zpi P) := by
  refine zi_isub dX11_back_61 ?_
  refine zi_puti fp_X11_192 sk72 rfl dX11_back_62 ?_
  refine zt_nmS (fun S1 eS1 => ?_)
  replace h := h S1 eS1
  refine zi_aload_n dX11_back_65 rfl rfl ?_
  refine zi_dup dX11_back_66 rfl ?_
  refine zi_geti fl_X11_195 sk72 rfl dX11_back_67 ?_
  refine zi_iload_n dX11_back_70 rfl rfl ?_
  refine zi_iconst (v := 1) dX11_back_71 (by decide) ?_
  refine zi_icmp_ne (tgt := 79) dX11_back_72 (by decide) (fun q9 => ?_) (fun q9 => ?_)
  · replace h := h.1 q9
    refine zi_iconst (v := 0) dX11_back_79 (by decide) ?_
    refine zt_drop (lv' := [some (.ref 72), some (.int v1), some (.int v2)]) [true, true, true] rfl ?_
    exact h
  · replace h := h.2 q9
    refine zi_iconst (v := 1) dX11_back_75 (by decide) ?_
    refine zi_goto (tgt := 80) dX11_back_76 (by decide) ?_
    refine zt_drop (lv' := [some (.ref 72), some (.int v1), some (.int v2)]) [true, true, true] rfl ?_
    exact h
set_option maxHeartbeats 2000000 in
theorem b_X11_back_80 {v1 : Int32} {v2 : Int32} {w2 : Int32} {w1 : Int32} {X : Nat × (Nat → Int32)} {S : zS} {L : zL} {P : Int32 → zS → zL → Prop} (h : ∀ S1 : zS, S1 = zc S 72 (upd (S 72) 16 (w1 - w2)) → ((¬ v1 = (2 : Int32) → ∀ S2 : zS, S2 = zc S1 72 (upd (S1 72) 20 ((S1 72 20) - (0 : Int32))) → P (v2 - (1 : Int32)) S2 L) ∧ (v1 = (2 : Int32) → ∀ S2 : zS, S2 = zc S1 72 (upd (S1 72) 20 ((S1 72 20) - (1 : Int32))) → P (v2 - (1 : Int32)) S2 L))) : zU mX11_back X S L 80 [some (.ref 72), some (.int v1), some (.int v2)] [.int w2, .int w1, .ref 72] (zpi P) := by
  refine zi_isub dX11_back_80 ?_
  refine zi_puti fp_X11_195 sk72 rfl dX11_back_81 ?_
  refine zt_nmS (fun S1 eS1 => ?_)
  replace h := h S1 eS1
  refine zi_aload_n dX11_back_84 rfl rfl ?_
  refine zi_dup dX11_back_85 rfl ?_
  refine zi_geti fl_X11_198 sk72 rfl dX11_back_86 ?_
  refine zi_iload_n dX11_back_89 rfl rfl ?_
  refine zi_iconst (v := 2) dX11_back_90 (by decide) ?_
  refine zi_icmp_ne (tgt := 98) dX11_back_91 (by decide) (fun q9 => ?_) (fun q9 => ?_)
  · replace h := h.1 q9
    refine zi_iconst (v := 0) dX11_back_98 (by decide) ?_
    refine zi_isub dX11_back_99 ?_
    refine zi_puti fp_X11_198 sk72 rfl dX11_back_100 ?_
    refine zt_nmS (fun S2 eS2 => ?_)
    replace h := h S2 eS2
    refine zi_iload_n dX11_back_103 rfl rfl ?_
    refine zi_iconst (v := 1) dX11_back_104 (by decide) ?_
    refine zi_isub dX11_back_105 ?_
    exact zt_iret dX11_back_106 rfl h
  · replace h := h.2 q9
    refine zi_iconst (v := 1) dX11_back_94 (by decide) ?_
    refine zi_goto (tgt := 99) dX11_back_95 (by decide) ?_
    refine zi_isub dX11_back_99 ?_
    refine zi_puti fp_X11_198 sk72 rfl dX11_back_100 ?_
    refine zt_nmS (fun S2 eS2 => ?_)
    replace h := h S2 eS2
    refine zi_iload_n dX11_back_103 rfl rfl ?_
    refine zi_iconst (v := 1) dX11_back_104 (by decide) ?_
    refine zi_isub dX11_back_105 ?_
    exact zt_iret dX11_back_106 rfl h
theorem e_X11_back {what : Int32} {S : zS} {L : zL} {P : Int32 → zS → zL → Prop} (h : ∀ X, zU mX11_back X S L 0 [some (.ref 72), some (.int what), none] [] (zpi P)) : zCi mX11_back S L [.ref 72, .int what] P := zCi_of pn_X11_back (Nat.le_of_ble_eq_true rfl) (fun X => zt_pad (j := 1) rfl (h X))
set_option maxHeartbeats 2000000 in
theorem b_X11_read_0 {s : Int32} {X : Nat × (Nat → Int32)} {S : zS} {L : zL} {P : Int32 → zS → zL → Prop} (h : ((((0 : Int32) ≤ s ∧ s ≤ (3 : Int32)) → vp_in s 4 ∧ ((¬ (S 108 s.toNatClampNeg) = 0 → zU mX11_read X S L 27 [some (.ref 72), some (.int s), some (.int (0 : Int32))] [] (zpi P)) ∧ ((S 108 s.toNatClampNeg) = 0 → zCi mX11_meets S L [.ref 72, .int (1 : Int32)] (fun y2 S1 L1 => P y2 S1 L1)))) ∧ (¬ ((0 : Int32) ≤ s ∧ s ≤ (3 : Int32)) → P (-2 : Int32) S L))) : zU mX11_read X S L 0 [some (.ref 72), some (.int s), none] [] (zpi P) := by
  refine zi_iload_n dX11_read_0 rfl rfl ?_
  refine zt_Si (As := [.int s]) dX11_read_1 lk_X11_201 ⟨⟨by decide, by decide⟩, rfl, rfl⟩ rfl ⟨Nat.le_of_ble_eq_true rfl, rfl, rfl⟩ (isSheet_s (P := fun y S9 L9 => y = (if ((0 : Int32) ≤ s ∧ s ≤ (3 : Int32)) then (1 : Int32) else 0) ∧ S = S9 ∧ L = L9) ⟨rfl, rfl, rfl⟩) (fun y1 S9 L9 q9 => ?_)
  obtain ⟨ey1, rfl, rfl⟩ := q9
  by_cases q9 : ((0 : Int32) ≤ s ∧ s ≤ (3 : Int32))
  · replace h := h.1 q9
    rw [if_pos q9] at ey1
    subst ey1
    refine zi_if_ne (tgt := 10) dX11_read_4 (by decide) (fun _ => ?_) (fun z9 => absurd z9 (by decide))
    refine zi_aload_n dX11_read_10 rfl rfl ?_
    refine zi_getr fl_X11_115 sk72 rfl dX11_read_11 ?_
    refine zi_iload_n dX11_read_14 rfl rfl ?_
    refine zi_zald sk108 h.1 dX11_read_15 ?_
    replace h := h.2
    refine zi_if_ne (tgt := 25) dX11_read_16 (by decide) (fun q9 => ?_) (fun q9 => ?_)
    · replace h := h.1 q9
      refine zi_iconst (v := 0) dX11_read_25 (by decide) ?_
      refine zi_istore_n dX11_read_26 rfl (by decide) rfl ?_
      refine zt_drop (lv' := [some (.ref 72), some (.int s), some (.int (0 : Int32))]) [true, true, true] rfl ?_
      exact h
    · replace h := h.2 q9
      refine zi_aload_n dX11_read_19 rfl rfl ?_
      refine zi_iconst (v := 1) dX11_read_20 (by decide) ?_
      refine zt_Vi (As := [.int (1 : Int32)]) dX11_read_21 lk_X11_204 sk72 rfl ⟨⟨by decide, by decide⟩, rfl, rfl⟩ rfl ⟨Nat.le_of_ble_eq_true rfl, rfl, rfl⟩ h (fun y2 S1 L1 h => ?_)
      exact zt_iret dX11_read_24 rfl h
  · replace h := h.2 q9
    rw [if_neg q9] at ey1
    subst ey1
    refine zi_if_ne (tgt := 10) dX11_read_4 (by decide) (fun z9 => absurd rfl z9) (fun _ => ?_)
    refine zi_bipush (v := -2) dX11_read_7 (by decide) ?_
    exact zt_iret dX11_read_9 rfl h
set_option maxHeartbeats 2000000 in
theorem b_X11_read_27 {v1 : Int32} {v2 : Int32} {X : Nat × (Nat → Int32)} {S : zS} {L : zL} {P : Int32 → zS → zL → Prop} (h : vp_in v1 4 ∧ (((S 110 v1.toNatClampNeg) ≤ (((3 : Int32) * v2) + (2 : Int32)) → P v2 S L) ∧ (¬ (S 110 v1.toNatClampNeg) ≤ (((3 : Int32) * v2) + (2 : Int32)) → vp_in (((60 : Int32) * v1) + ((3 : Int32) * v2)) 240 ∧ vp_in ((((60 : Int32) * v1) + ((3 : Int32) * v2)) + (1 : Int32)) 240 ∧ vp_in ((((60 : Int32) * v1) + ((3 : Int32) * v2)) + (2 : Int32)) 240 ∧ zCi mX11_round S L [.ref 72, .int (S 111 (((60 : Int32) * v1) + ((3 : Int32) * v2)).toNatClampNeg), .int (S 111 ((((60 : Int32) * v1) + ((3 : Int32) * v2)) + (1 : Int32)).toNatClampNeg), .int (S 111 ((((60 : Int32) * v1) + ((3 : Int32) * v2)) + (2 : Int32)).toNatClampNeg)] (fun y1 S1 L1 => ((y1 ≤ 0 → P v2 S1 L1) ∧ (¬ y1 ≤ 0 → ∀ x1 : Int32, x1 = v2 + (1 : Int32) → zU mX11_read X S1 L1 27 [some (.ref 72), some (.int v1), some (.int x1)] [] (zpi P))))))) : zU mX11_read X S L 27 [some (.ref 72), some (.int v1), some (.int v2)] [] (zpi P) := by
  refine zi_iconst (v := 3) dX11_read_27 (by decide) ?_
  refine zi_iload_n dX11_read_28 rfl rfl ?_
  refine zi_imul dX11_read_29 ?_
  refine zi_iconst (v := 2) dX11_read_30 (by decide) ?_
  refine zi_iadd dX11_read_31 ?_
  refine zi_aload_n dX11_read_32 rfl rfl ?_
  refine zi_getr fl_X11_122 sk72 rfl dX11_read_33 ?_
  refine zi_iload_n dX11_read_36 rfl rfl ?_
  refine zi_iald sk110 h.1 dX11_read_37 ?_
  replace h := h.2
  refine zi_icmp_ge (tgt := 97) dX11_read_38 (by decide) (fun q9 => ?_) (fun q9 => ?_)
  · replace h := h.1 q9
    refine zi_iload_n dX11_read_97 rfl rfl ?_
    exact zt_iret dX11_read_98 rfl h
  · replace h := h.2 q9
    refine zi_aload_n dX11_read_41 rfl rfl ?_
    refine zi_aload_n dX11_read_42 rfl rfl ?_
    refine zi_getr fl_X11_125 sk72 rfl dX11_read_43 ?_
    refine zi_bipush (v := 60) dX11_read_46 (by decide) ?_
    refine zi_iload_n dX11_read_48 rfl rfl ?_
    refine zi_imul dX11_read_49 ?_
    refine zi_iconst (v := 3) dX11_read_50 (by decide) ?_
    refine zi_iload_n dX11_read_51 rfl rfl ?_
    refine zi_imul dX11_read_52 ?_
    refine zi_iadd dX11_read_53 ?_
    refine zi_iald sk111 h.1 dX11_read_54 ?_
    replace h := h.2
    refine zi_aload_n dX11_read_55 rfl rfl ?_
    refine zi_getr fl_X11_125 sk72 rfl dX11_read_56 ?_
    refine zi_bipush (v := 60) dX11_read_59 (by decide) ?_
    refine zi_iload_n dX11_read_61 rfl rfl ?_
    refine zi_imul dX11_read_62 ?_
    refine zi_iconst (v := 3) dX11_read_63 (by decide) ?_
    refine zi_iload_n dX11_read_64 rfl rfl ?_
    refine zi_imul dX11_read_65 ?_
    refine zi_iadd dX11_read_66 ?_
    refine zi_iconst (v := 1) dX11_read_67 (by decide) ?_
    refine zi_iadd dX11_read_68 ?_
    refine zi_iald sk111 h.1 dX11_read_69 ?_
    replace h := h.2
    refine zi_aload_n dX11_read_70 rfl rfl ?_
    refine zi_getr fl_X11_125 sk72 rfl dX11_read_71 ?_
    refine zi_bipush (v := 60) dX11_read_74 (by decide) ?_
    refine zi_iload_n dX11_read_76 rfl rfl ?_
    refine zi_imul dX11_read_77 ?_
    refine zi_iconst (v := 3) dX11_read_78 (by decide) ?_
    refine zi_iload_n dX11_read_79 rfl rfl ?_
    refine zi_imul dX11_read_80 ?_
    refine zi_iadd dX11_read_81 ?_
    refine zi_iconst (v := 2) dX11_read_82 (by decide) ?_
    refine zi_iadd dX11_read_83 ?_
    refine zi_iald sk111 h.1 dX11_read_84 ?_
    replace h := h.2
    refine zt_Vi (As := [.int (S 111 (((60 : Int32) * v1) + ((3 : Int32) * v2)).toNatClampNeg), .int (S 111 ((((60 : Int32) * v1) + ((3 : Int32) * v2)) + (1 : Int32)).toNatClampNeg), .int (S 111 ((((60 : Int32) * v1) + ((3 : Int32) * v2)) + (2 : Int32)).toNatClampNeg)]) dX11_read_85 lk_X11_207 sk72 rfl ⟨⟨by decide, by decide⟩, rfl, rfl⟩ rfl ⟨Nat.le_of_ble_eq_true rfl, rfl, rfl⟩ h (fun y1 S1 L1 h => ?_)
    refine zi_if_le (tgt := 97) dX11_read_88 (by decide) (fun q9 => ?_) (fun q9 => ?_)
    · replace h := h.1 q9
      refine zi_iload_n dX11_read_97 rfl rfl ?_
      exact zt_iret dX11_read_98 rfl h
    · replace h := h.2 q9
      obtain ⟨x1, ex1⟩ : ∃ y : Int32, y = v2 + (1 : Int32) := ⟨_, rfl⟩
      replace h := h x1 ex1
      refine zi_iinc (v := x1) dX11_read_91 rfl (by rw [ex1]; rfl) (by decide) rfl ?_
      refine zi_goto (tgt := 27) dX11_read_94 (by decide) ?_
      refine zt_drop (lv' := [some (.ref 72), some (.int v1), some (.int x1)]) [true, true, true] rfl ?_
      exact h
theorem e_X11_read {s : Int32} {S : zS} {L : zL} {P : Int32 → zS → zL → Prop} (h : ∀ X, zU mX11_read X S L 0 [some (.ref 72), some (.int s), none] [] (zpi P)) : zCi mX11_read S L [.ref 72, .int s] P := zCi_of pn_X11_read (Nat.le_of_ble_eq_true rfl) (fun X => zt_pad (j := 1) rfl (h X))
set_option maxHeartbeats 2000000 in
theorem b_X11_seen_0 {m : Int32} {p : Int32} {much : Int32} {X : Nat × (Nat → Int32)} {S : zS} {L : zL} {P : Int32 → zS → zL → Prop} (h : ((((0 : Int32) ≤ m ∧ m ≤ (23 : Int32)) → ((((0 : Int32) ≤ p ∧ p ≤ (7 : Int32)) → ((((0 : Int32) ≤ much ∧ much ≤ (99 : Int32)) → ((¬ (S 72 45) = (8 : Int32) → vp_in (S 72 45) 8 ∧ ∀ S1 : zS, S1 = zc S 104 (upd (S 104) (S 72 45).toNatClampNeg m) → vp_in (S1 72 45) 8 ∧ ∀ S2 : zS, S2 = zc S1 105 (upd (S1 105) (S1 72 45).toNatClampNeg p) → vp_in (S2 72 45) 8 ∧ ∀ S3 : zS, S3 = zc S2 106 (upd (S2 106) (S2 72 45).toNatClampNeg much) → ∀ S4 : zS, S4 = zc S3 72 (upd (S3 72) 45 ((S3 72 45) + (1 : Int32))) → P (S4 72 45) S4 L) ∧ ((S 72 45) = (8 : Int32) → P (-4 : Int32) S L))) ∧ (¬ ((0 : Int32) ≤ much ∧ much ≤ (99 : Int32)) → P (-2 : Int32) S L))) ∧ (¬ ((0 : Int32) ≤ p ∧ p ≤ (7 : Int32)) → P (-2 : Int32) S L))) ∧ (¬ ((0 : Int32) ≤ m ∧ m ≤ (23 : Int32)) → P (-2 : Int32) S L))) : zU mX11_seen X S L 0 [some (.ref 72), some (.int m), some (.int p), some (.int much)] [] (zpi P) := by
  refine zi_iload_n dX11_seen_0 rfl rfl ?_
  refine zt_Si (As := [.int m]) dX11_seen_1 lk_X11_186 ⟨⟨by decide, by decide⟩, rfl, rfl⟩ rfl ⟨Nat.le_of_ble_eq_true rfl, rfl, rfl⟩ (isMonth_s (P := fun y S9 L9 => y = (if ((0 : Int32) ≤ m ∧ m ≤ (23 : Int32)) then (1 : Int32) else 0) ∧ S = S9 ∧ L = L9) ⟨rfl, rfl, rfl⟩) (fun y1 S9 L9 q9 => ?_)
  obtain ⟨ey1, rfl, rfl⟩ := q9
  by_cases q9 : ((0 : Int32) ≤ m ∧ m ≤ (23 : Int32))
  · replace h := h.1 q9
    rw [if_pos q9] at ey1
    subst ey1
    refine zi_if_eq (tgt := 27) dX11_seen_4 (by decide) (fun z9 => absurd z9 (by decide)) (fun _ => ?_)
    refine zi_iload_n dX11_seen_7 rfl rfl ?_
    refine zi_iconst (v := 0) dX11_seen_8 (by decide) ?_
    refine zi_bipush (v := 7) dX11_seen_9 (by decide) ?_
    refine zt_Si (As := [.int p, .int (0 : Int32), .int (7 : Int32)]) dX11_seen_11 lk_X11_140 ⟨⟨by decide, by decide⟩, rfl, rfl⟩ rfl ⟨Nat.le_of_ble_eq_true rfl, rfl, rfl⟩ (in_s (P := fun y S9 L9 => y = (if ((0 : Int32) ≤ p ∧ p ≤ (7 : Int32)) then (1 : Int32) else 0) ∧ S = S9 ∧ L = L9) ⟨rfl, rfl, rfl⟩) (fun y2 S9 L9 q9 => ?_)
    obtain ⟨ey2, rfl, rfl⟩ := q9
    by_cases q9 : ((0 : Int32) ≤ p ∧ p ≤ (7 : Int32))
    · replace h := h.1 q9
      rw [if_pos q9] at ey2
      subst ey2
      refine zi_if_eq (tgt := 27) dX11_seen_14 (by decide) (fun z9 => absurd z9 (by decide)) (fun _ => ?_)
      refine zi_iload_n dX11_seen_17 rfl rfl ?_
      refine zi_iconst (v := 0) dX11_seen_18 (by decide) ?_
      refine zi_bipush (v := 99) dX11_seen_19 (by decide) ?_
      refine zt_Si (As := [.int much, .int (0 : Int32), .int (99 : Int32)]) dX11_seen_21 lk_X11_140 ⟨⟨by decide, by decide⟩, rfl, rfl⟩ rfl ⟨Nat.le_of_ble_eq_true rfl, rfl, rfl⟩ (in_s (P := fun y S9 L9 => y = (if ((0 : Int32) ≤ much ∧ much ≤ (99 : Int32)) then (1 : Int32) else 0) ∧ S = S9 ∧ L = L9) ⟨rfl, rfl, rfl⟩) (fun y3 S9 L9 q9 => ?_)
      obtain ⟨ey3, rfl, rfl⟩ := q9
      by_cases q9 : ((0 : Int32) ≤ much ∧ much ≤ (99 : Int32))
      · replace h := h.1 q9
        rw [if_pos q9] at ey3
        subst ey3
        refine zi_if_ne (tgt := 30) dX11_seen_24 (by decide) (fun _ => ?_) (fun z9 => absurd z9 (by decide))
        refine zi_aload_n dX11_seen_30 rfl rfl ?_
        refine zi_geti fl_X11_323 sk72 rfl dX11_seen_31 ?_
        refine zi_bipush (v := 8) dX11_seen_34 (by decide) ?_
        refine zi_icmp_ne (tgt := 42) dX11_seen_36 (by decide) (fun q9 => ?_) (fun q9 => ?_)
        · replace h := h.1 q9
          refine zi_aload_n dX11_seen_42 rfl rfl ?_
          refine zi_getr fl_X11_103 sk72 rfl dX11_seen_43 ?_
          refine zi_aload_n dX11_seen_46 rfl rfl ?_
          refine zi_geti fl_X11_323 sk72 rfl dX11_seen_47 ?_
          refine zi_iload_n dX11_seen_50 rfl rfl ?_
          refine zi_iast sk104 h.1 dX11_seen_51 ?_
          replace h := h.2
          refine zt_nmS (fun S1 eS1 => ?_)
          replace h := h S1 eS1
          refine zi_aload_n dX11_seen_52 rfl rfl ?_
          refine zi_getr fl_X11_106 sk72 rfl dX11_seen_53 ?_
          refine zi_aload_n dX11_seen_56 rfl rfl ?_
          refine zi_geti fl_X11_323 sk72 rfl dX11_seen_57 ?_
          refine zi_iload_n dX11_seen_60 rfl rfl ?_
          refine zi_iast sk105 h.1 dX11_seen_61 ?_
          replace h := h.2
          refine zt_nmS (fun S2 eS2 => ?_)
          replace h := h S2 eS2
          refine zi_aload_n dX11_seen_62 rfl rfl ?_
          refine zi_getr fl_X11_109 sk72 rfl dX11_seen_63 ?_
          refine zi_aload_n dX11_seen_66 rfl rfl ?_
          refine zi_geti fl_X11_323 sk72 rfl dX11_seen_67 ?_
          refine zi_iload_n dX11_seen_70 rfl rfl ?_
          refine zi_iast sk106 h.1 dX11_seen_71 ?_
          replace h := h.2
          refine zt_nmS (fun S3 eS3 => ?_)
          replace h := h S3 eS3
          refine zi_aload_n dX11_seen_72 rfl rfl ?_
          refine zi_dup dX11_seen_73 rfl ?_
          refine zi_geti fl_X11_323 sk72 rfl dX11_seen_74 ?_
          refine zi_iconst (v := 1) dX11_seen_77 (by decide) ?_
          refine zi_iadd dX11_seen_78 ?_
          refine zi_puti fp_X11_323 sk72 rfl dX11_seen_79 ?_
          refine zt_nmS (fun S4 eS4 => ?_)
          replace h := h S4 eS4
          refine zi_aload_n dX11_seen_82 rfl rfl ?_
          refine zi_geti fl_X11_323 sk72 rfl dX11_seen_83 ?_
          exact zt_iret dX11_seen_86 rfl h
        · replace h := h.2 q9
          refine zi_bipush (v := -4) dX11_seen_39 (by decide) ?_
          exact zt_iret dX11_seen_41 rfl h
      · replace h := h.2 q9
        rw [if_neg q9] at ey3
        subst ey3
        refine zi_if_ne (tgt := 30) dX11_seen_24 (by decide) (fun z9 => absurd rfl z9) (fun _ => ?_)
        refine zi_bipush (v := -2) dX11_seen_27 (by decide) ?_
        exact zt_iret dX11_seen_29 rfl h
    · replace h := h.2 q9
      rw [if_neg q9] at ey2
      subst ey2
      refine zi_if_eq (tgt := 27) dX11_seen_14 (by decide) (fun _ => ?_) (fun z9 => absurd rfl z9)
      refine zi_bipush (v := -2) dX11_seen_27 (by decide) ?_
      exact zt_iret dX11_seen_29 rfl h
  · replace h := h.2 q9
    rw [if_neg q9] at ey1
    subst ey1
    refine zi_if_eq (tgt := 27) dX11_seen_4 (by decide) (fun _ => ?_) (fun z9 => absurd rfl z9)
    refine zi_bipush (v := -2) dX11_seen_27 (by decide) ?_
    exact zt_iret dX11_seen_29 rfl h
theorem e_X11_seen {m : Int32} {p : Int32} {much : Int32} {S : zS} {L : zL} {P : Int32 → zS → zL → Prop} (h : ∀ X, zU mX11_seen X S L 0 [some (.ref 72), some (.int m), some (.int p), some (.int much)] [] (zpi P)) : zCi mX11_seen S L [.ref 72, .int m, .int p, .int much] P := zCi_of pn_X11_seen (Nat.le_of_ble_eq_true rfl) (fun X => zt_pad (j := 0) rfl (h X))
set_option maxHeartbeats 2000000 in
theorem b_X11_forget_0 {X : Nat × (Nat → Int32)} {S : zS} {L : zL} {P : Int32 → zS → zL → Prop} (h : ∀ x1 : Int32, x1 = (S 72 45) → ∀ S1 : zS, S1 = zc S 72 (upd (S 72) 45 (0 : Int32)) → P x1 S1 L) : zU mX11_forget X S L 0 [some (.ref 72), none] [] (zpi P) := by
  refine zi_aload_n dX11_forget_0 rfl rfl ?_
  refine zi_geti fl_X11_323 sk72 rfl dX11_forget_1 ?_
  refine zt_nmi (fun x1 ex1 => ?_)
  replace h := h x1 ex1
  refine zi_istore_n dX11_forget_4 rfl (by decide) rfl ?_
  refine zi_aload_n dX11_forget_5 rfl rfl ?_
  refine zi_iconst (v := 0) dX11_forget_6 (by decide) ?_
  refine zi_puti fp_X11_323 sk72 rfl dX11_forget_7 ?_
  refine zt_nmS (fun S1 eS1 => ?_)
  replace h := h S1 eS1
  refine zi_iload_n dX11_forget_10 rfl rfl ?_
  exact zt_iret dX11_forget_11 rfl h
theorem e_X11_forget {S : zS} {L : zL} {P : Int32 → zS → zL → Prop} (h : ∀ X, zU mX11_forget X S L 0 [some (.ref 72), none] [] (zpi P)) : zCi mX11_forget S L [.ref 72] P := zCi_of pn_X11_forget (Nat.le_of_ble_eq_true rfl) (fun X => zt_pad (j := 1) rfl (h X))
set_option maxHeartbeats 2000000 in
theorem b_X11_asTold_0 {X : Nat × (Nat → Int32)} {S : zS} {L : zL} {P : zS → zL → Prop} (h : zCv mX11_reads S L [.ref 72] (fun S1 L1 => ∀ S2 : zS, S2 = zc S1 72 (upd (S1 72) 22 (0 : Int32)) → ∀ S3 : zS, S3 = zc S2 72 (upd (S2 72) 23 (0 : Int32)) → ∀ S4 : zS, S4 = zc S3 72 (upd (S3 72) 24 (0 : Int32)) → zU mX11_asTold X S4 L1 21 [some (.ref 72), some (.int (0 : Int32))] [] (zpv P))) : zU mX11_asTold X S L 0 [some (.ref 72), none] [] (zpv P) := by
  refine zi_aload_n dX11_asTold_0 rfl rfl ?_
  refine zt_Vv (As := []) dX11_asTold_1 lk_X11_171 sk72 rfl ⟨⟨by decide, by decide⟩, rfl, rfl⟩ rfl ⟨Nat.le_of_ble_eq_true rfl, rfl, rfl⟩ h (fun S1 L1 h => ?_)
  refine zi_aload_n dX11_asTold_4 rfl rfl ?_
  refine zi_iconst (v := 0) dX11_asTold_5 (by decide) ?_
  refine zi_puti fp_X11_211 sk72 rfl dX11_asTold_6 ?_
  refine zt_nmS (fun S2 eS2 => ?_)
  replace h := h S2 eS2
  refine zi_aload_n dX11_asTold_9 rfl rfl ?_
  refine zi_iconst (v := 0) dX11_asTold_10 (by decide) ?_
  refine zi_puti fp_X11_214 sk72 rfl dX11_asTold_11 ?_
  refine zt_nmS (fun S3 eS3 => ?_)
  replace h := h S3 eS3
  refine zi_aload_n dX11_asTold_14 rfl rfl ?_
  refine zi_iconst (v := 0) dX11_asTold_15 (by decide) ?_
  refine zi_puti fp_X11_217 sk72 rfl dX11_asTold_16 ?_
  refine zt_nmS (fun S4 eS4 => ?_)
  replace h := h S4 eS4
  refine zi_iconst (v := 0) dX11_asTold_19 (by decide) ?_
  refine zi_istore_n dX11_asTold_20 rfl (by decide) rfl ?_
  refine zt_drop (lv' := [some (.ref 72), some (.int (0 : Int32))]) [true, true] rfl ?_
  exact h
set_option maxHeartbeats 2000000 in
theorem b_X11_asTold_21 {v1 : Int32} {X : Nat × (Nat → Int32)} {S : zS} {L : zL} {P : zS → zL → Prop} (h : (((S 72 20) ≤ v1 → P S L) ∧ (¬ (S 72 20) ≤ v1 → vp_in v1 6 ∧ ∀ S1 : zS, S1 = zc S 72 (upd (S 72) 24 ((S 72 24) ||| ((1 : Int32) <<< ((S 87 v1.toNatClampNeg) &&& 31)))) → ∀ x1 : Int32, x1 = v1 + (1 : Int32) → zU mX11_asTold X S1 L 21 [some (.ref 72), some (.int x1)] [] (zpv P)))) : zU mX11_asTold X S L 21 [some (.ref 72), some (.int v1)] [] (zpv P) := by
  refine zi_iload_n dX11_asTold_21 rfl rfl ?_
  refine zi_aload_n dX11_asTold_22 rfl rfl ?_
  refine zi_geti fl_X11_198 sk72 rfl dX11_asTold_23 ?_
  refine zi_icmp_ge (tgt := 52) dX11_asTold_26 (by decide) (fun q9 => ?_) (fun q9 => ?_)
  · replace h := h.1 q9
    exact zt_vret dX11_asTold_52 rfl h
  · replace h := h.2 q9
    refine zi_aload_n dX11_asTold_29 rfl rfl ?_
    refine zi_dup dX11_asTold_30 rfl ?_
    refine zi_geti fl_X11_217 sk72 rfl dX11_asTold_31 ?_
    refine zi_iconst (v := 1) dX11_asTold_34 (by decide) ?_
    refine zi_aload_n dX11_asTold_35 rfl rfl ?_
    refine zi_getr fl_X11_52 sk72 rfl dX11_asTold_36 ?_
    refine zi_iload_n dX11_asTold_39 rfl rfl ?_
    refine zi_iald sk87 h.1 dX11_asTold_40 ?_
    replace h := h.2
    refine zi_ishl dX11_asTold_41 ?_
    refine zi_ior dX11_asTold_42 ?_
    refine zi_puti fp_X11_217 sk72 rfl dX11_asTold_43 ?_
    refine zt_nmS (fun S1 eS1 => ?_)
    replace h := h S1 eS1
    obtain ⟨x1, ex1⟩ : ∃ y : Int32, y = v1 + (1 : Int32) := ⟨_, rfl⟩
    replace h := h x1 ex1
    refine zi_iinc (v := x1) dX11_asTold_46 rfl (by rw [ex1]; rfl) (by decide) rfl ?_
    refine zi_goto (tgt := 21) dX11_asTold_49 (by decide) ?_
    refine zt_drop (lv' := [some (.ref 72), some (.int x1)]) [true, true] rfl ?_
    exact h
theorem e_X11_asTold {S : zS} {L : zL} {P : zS → zL → Prop} (h : ∀ X, zU mX11_asTold X S L 0 [some (.ref 72), none] [] (zpv P)) : zCv mX11_asTold S L [.ref 72] P := zCv_of pn_X11_asTold (Nat.le_of_ble_eq_true rfl) (fun X => zt_pad (j := 1) rfl (h X))
