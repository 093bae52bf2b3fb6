set_option maxHeartbeats 2000000 in
theorem b_X11_worthAll_0 {X : Nat × (Nat → Int32)} {S : zS} {L : zL} {P : Int32 → zS → zL → Prop} (h : zU mX11_worthAll X S L 4 [some (.ref 72), some (.int (0 : Int32)), some (.int (0 : Int32))] [] (zpi P)) : zU mX11_worthAll X S L 0 [some (.ref 72), none, none] [] (zpi P) := by
  refine zi_iconst (v := 0) dX11_worthAll_0 (by decide) ?_
  refine zi_istore_n dX11_worthAll_1 rfl (by decide) rfl ?_
  refine zi_iconst (v := 0) dX11_worthAll_2 (by decide) ?_
  refine zi_istore_n dX11_worthAll_3 rfl (by decide) rfl ?_
  refine zt_drop (lv' := [some (.ref 72), some (.int (0 : Int32)), some (.int (0 : Int32))]) [true, true, true] rfl ?_
  exact h
set_option maxHeartbeats 2000000 in
theorem b_X11_worthAll_4 {v1 : Int32} {v2 : Int32} {X : Nat × (Nat → Int32)} {S : zS} {L : zL} {P : Int32 → zS → zL → Prop} (h : (((4 : Int32) ≤ v2 → P v1 S L) ∧ (¬ (4 : Int32) ≤ v2 → vp_in v2 4 ∧ ∀ x1 : Int32, x1 = (v1 + (S 94 v2.toNatClampNeg)) → ∀ x2 : Int32, x2 = v2 + (1 : Int32) → zU mX11_worthAll X S L 4 [some (.ref 72), some (.int x1), some (.int x2)] [] (zpi P)))) : zU mX11_worthAll X S L 4 [some (.ref 72), some (.int v1), some (.int v2)] [] (zpi P) := by
  refine zi_iload_n dX11_worthAll_4 rfl rfl ?_
  refine zi_iconst (v := 4) dX11_worthAll_5 (by decide) ?_
  refine zi_icmp_ge (tgt := 24) dX11_worthAll_6 (by decide) (fun q9 => ?_) (fun q9 => ?_)
  · replace h := h.1 q9
    refine zi_iload_n dX11_worthAll_24 rfl rfl ?_
    exact zt_iret dX11_worthAll_25 rfl h
  · replace h := h.2 q9
    refine zi_iload_n dX11_worthAll_9 rfl rfl ?_
    refine zi_aload_n dX11_worthAll_10 rfl rfl ?_
    refine zi_getr fl_X11_73 sk72 rfl dX11_worthAll_11 ?_
    refine zi_iload_n dX11_worthAll_14 rfl rfl ?_
    refine zi_iald sk94 h.1 dX11_worthAll_15 ?_
    replace h := h.2
    refine zi_iadd dX11_worthAll_16 ?_
    refine zt_nmi (fun x1 ex1 => ?_)
    replace h := h x1 ex1
    refine zi_istore_n dX11_worthAll_17 rfl (by decide) rfl ?_
    obtain ⟨x2, ex2⟩ : ∃ y : Int32, y = v2 + (1 : Int32) := ⟨_, rfl⟩
    replace h := h x2 ex2
    refine zi_iinc (v := x2) dX11_worthAll_18 rfl (by rw [ex2]; rfl) (by decide) rfl ?_
    refine zi_goto (tgt := 4) dX11_worthAll_21 (by decide) ?_
    refine zt_drop (lv' := [some (.ref 72), some (.int x1), some (.int x2)]) [true, true, true] rfl ?_
    exact h
theorem e_X11_worthAll {S : zS} {L : zL} {P : Int32 → zS → zL → Prop} (h : ∀ X, zU mX11_worthAll X S L 0 [some (.ref 72), none, none] [] (zpi P)) : zCi mX11_worthAll S L [.ref 72] P := zCi_of pn_X11_worthAll (Nat.le_of_ble_eq_true rfl) (fun X => zt_pad (j := 2) rfl (h X))
set_option maxHeartbeats 2000000 in
theorem b_X11_planOf_0 {pace : Int32} {what : Int32} {X : Nat × (Nat → Int32)} {S : zS} {L : zL} {P : Int32 → zS → zL → Prop} (h : zCv mX11_asTold S L [.ref 72] (fun S1 L1 => ∀ x1 : Int32, x1 = (S1 72 12) → ∀ S2 : zS, S2 = zc S1 72 (upd (S1 72) 12 ((S1 72 12) + (1 : Int32))) → vp_in x1 9 ∧ ∀ S3 : zS, S3 = zc S2 83 (upd (S2 83) x1.toNatClampNeg pace) → zU mX11_planOf X S3 L1 35 [some (.ref 72), none, some (.int what), some (.int x1), some (.int (-1 : Int32)), some (.int (-1 : Int32)), some (.int (0 : Int32)), none] [] (zpi P))) : zU mX11_planOf X S L 0 [some (.ref 72), some (.int pace), some (.int what), none, none, none, none, none] [] (zpi P) := by
  refine zi_aload_n dX11_planOf_0 rfl rfl ?_
  refine zt_Vv (As := []) dX11_planOf_1 lk_X11_266 sk72 rfl ⟨⟨by decide, by decide⟩, rfl, rfl⟩ rfl ⟨Nat.le_of_ble_eq_true rfl, rfl, rfl⟩ h (fun S1 L1 h => ?_)
  refine zi_aload_n dX11_planOf_4 rfl rfl ?_
  refine zi_geti fl_X11_192 sk72 rfl dX11_planOf_5 ?_
  refine zt_nmi (fun x1 ex1 => ?_)
  replace h := h x1 ex1
  refine zi_istore_n dX11_planOf_8 rfl (by decide) rfl ?_
  refine zi_iconst (v := -1) dX11_planOf_9 (by decide) ?_
  refine zi_istore dX11_planOf_10 (by decide) rfl ?_
  refine zi_iconst (v := -1) dX11_planOf_12 (by decide) ?_
  refine zi_istore dX11_planOf_13 (by decide) rfl ?_
  refine zi_aload_n dX11_planOf_15 rfl rfl ?_
  refine zi_dup dX11_planOf_16 rfl ?_
  refine zi_geti fl_X11_192 sk72 rfl dX11_planOf_17 ?_
  refine zi_iconst (v := 1) dX11_planOf_20 (by decide) ?_
  refine zi_iadd dX11_planOf_21 ?_
  refine zi_puti fp_X11_192 sk72 rfl dX11_planOf_22 ?_
  refine zt_nmS (fun S2 eS2 => ?_)
  replace h := h S2 eS2
  refine zi_aload_n dX11_planOf_25 rfl rfl ?_
  refine zi_getr fl_X11_40 sk72 rfl dX11_planOf_26 ?_
  refine zi_iload_n dX11_planOf_29 rfl rfl ?_
  refine zi_iload_n dX11_planOf_30 rfl rfl ?_
  refine zi_iast sk83 h.1 dX11_planOf_31 ?_
  replace h := h.2
  refine zt_nmS (fun S3 eS3 => ?_)
  replace h := h S3 eS3
  refine zi_iconst (v := 0) dX11_planOf_32 (by decide) ?_
  refine zi_istore dX11_planOf_33 (by decide) rfl ?_
  refine zt_drop (lv' := [some (.ref 72), none, some (.int what), some (.int x1), some (.int (-1 : Int32)), some (.int (-1 : Int32)), some (.int (0 : Int32)), none]) [true, false, true, true, true, true, true, false] rfl ?_
  exact h
set_option maxHeartbeats 2000000 in
theorem b_X11_planOf_35 {v2 : Int32} {v3 : Int32} {v4 : Int32} {v5 : Int32} {v6 : Int32} {X : Nat × (Nat → Int32)} {S : zS} {L : zL} {P : Int32 → zS → zL → Prop} (h : (((96 : Int32) ≤ v6 → ∀ S1 : zS, S1 = zc S 72 (upd (S 72) 12 v3) → ((¬ v2 = 0 → ((¬ v2 = (1 : Int32) → P v5 S1 L) ∧ (v2 = (1 : Int32) → P (v4 - v4 / (4 : Int32) * (4 : Int32)) S1 L))) ∧ (v2 = 0 → P (v4 / (4 : Int32)) S1 L))) ∧ (¬ (96 : Int32) ≤ v6 → vp_in v3 9 ∧ ∀ S1 : zS, S1 = zc S 81 (upd (S 81) v3.toNatClampNeg (v6 / (4 : Int32))) → vp_in v3 9 ∧ ∀ S2 : zS, S2 = zc S1 82 (upd (S1 82) v3.toNatClampNeg (v6 - v6 / (4 : Int32) * (4 : Int32))) → zCv mX11_runs S2 L [.ref 72] (fun S3 L1 => zCi mX11_worthAll S3 L1 [.ref 72] (fun y2 S4 L2 => ((y2 ≤ v5 → zU mX11_planOf X S4 L2 86 [some (.ref 72), none, some (.int v2), some (.int v3), none, some (.int v5), some (.int v6), some (.int y2)] [.int v4] (zpi P)) ∧ (¬ y2 ≤ v5 → zU mX11_planOf X S4 L2 86 [some (.ref 72), none, some (.int v2), some (.int v3), none, some (.int v5), some (.int v6), some (.int y2)] [.int v6] (zpi P)))))))) : zU mX11_planOf X S L 35 [some (.ref 72), none, some (.int v2), some (.int v3), some (.int v4), some (.int v5), some (.int v6), none] [] (zpi P) := by
  refine zi_iload dX11_planOf_35 rfl ?_
  refine zi_bipush (v := 96) dX11_planOf_37 (by decide) ?_
  refine zi_icmp_ge (tgt := 110) dX11_planOf_39 (by decide) (fun q9 => ?_) (fun q9 => ?_)
  · replace h := h.1 q9
    refine zi_aload_n dX11_planOf_110 rfl rfl ?_
    refine zi_iload_n dX11_planOf_111 rfl rfl ?_
    refine zi_puti fp_X11_192 sk72 rfl dX11_planOf_112 ?_
    refine zt_nmS (fun S1 eS1 => ?_)
    replace h := h S1 eS1
    refine zi_iload_n dX11_planOf_115 rfl rfl ?_
    refine zi_if_ne (tgt := 126) dX11_planOf_116 (by decide) (fun q9 => ?_) (fun q9 => ?_)
    · replace h := h.1 q9
      refine zi_iload_n dX11_planOf_126 rfl rfl ?_
      refine zi_iconst (v := 1) dX11_planOf_127 (by decide) ?_
      refine zi_icmp_ne (tgt := 138) dX11_planOf_128 (by decide) (fun q9 => ?_) (fun q9 => ?_)
      · replace h := h.1 q9
        refine zi_iload dX11_planOf_138 rfl ?_
        exact zt_iret dX11_planOf_140 rfl h
      · replace h := h.2 q9
        refine zi_iload dX11_planOf_131 rfl ?_
        refine zi_iconst (v := 4) dX11_planOf_133 (by decide) ?_
        refine zi_irem dX11_planOf_134 (by decide) ?_
        refine zi_goto (tgt := 140) dX11_planOf_135 (by decide) ?_
        exact zt_iret dX11_planOf_140 rfl h
    · replace h := h.2 q9
      refine zi_iload dX11_planOf_119 rfl ?_
      refine zi_iconst (v := 4) dX11_planOf_121 (by decide) ?_
      refine zi_idiv dX11_planOf_122 (by decide) ?_
      refine zi_goto (tgt := 140) dX11_planOf_123 (by decide) ?_
      exact zt_iret dX11_planOf_140 rfl h
  · replace h := h.2 q9
    refine zi_aload_n dX11_planOf_42 rfl rfl ?_
    refine zi_getr fl_X11_34 sk72 rfl dX11_planOf_43 ?_
    refine zi_iload_n dX11_planOf_46 rfl rfl ?_
    refine zi_iload dX11_planOf_47 rfl ?_
    refine zi_iconst (v := 4) dX11_planOf_49 (by decide) ?_
    refine zi_idiv dX11_planOf_50 (by decide) ?_
    refine zi_iast sk81 h.1 dX11_planOf_51 ?_
    replace h := h.2
    refine zt_nmS (fun S1 eS1 => ?_)
    replace h := h S1 eS1
    refine zi_aload_n dX11_planOf_52 rfl rfl ?_
    refine zi_getr fl_X11_37 sk72 rfl dX11_planOf_53 ?_
    refine zi_iload_n dX11_planOf_56 rfl rfl ?_
    refine zi_iload dX11_planOf_57 rfl ?_
    refine zi_iconst (v := 4) dX11_planOf_59 (by decide) ?_
    refine zi_irem dX11_planOf_60 (by decide) ?_
    refine zi_iast sk82 h.1 dX11_planOf_61 ?_
    replace h := h.2
    refine zt_nmS (fun S2 eS2 => ?_)
    replace h := h S2 eS2
    refine zi_aload_n dX11_planOf_62 rfl rfl ?_
    refine zt_Vv (As := []) dX11_planOf_63 lk_X11_269 sk72 rfl ⟨⟨by decide, by decide⟩, rfl, rfl⟩ rfl ⟨Nat.le_of_ble_eq_true rfl, rfl, rfl⟩ h (fun S3 L1 h => ?_)
    refine zi_aload_n dX11_planOf_66 rfl rfl ?_
    refine zt_Vi (As := []) dX11_planOf_67 lk_X11_296 sk72 rfl ⟨⟨by decide, by decide⟩, rfl, rfl⟩ rfl ⟨Nat.le_of_ble_eq_true rfl, rfl, rfl⟩ h (fun y2 S4 L2 h => ?_)
    refine zi_istore dX11_planOf_70 (by decide) rfl ?_
    refine zi_iload dX11_planOf_72 rfl ?_
    refine zi_iload dX11_planOf_74 rfl ?_
    refine zi_icmp_le (tgt := 84) dX11_planOf_76 (by decide) (fun q9 => ?_) (fun q9 => ?_)
    · replace h := h.1 q9
      refine zi_iload dX11_planOf_84 rfl ?_
      refine zt_drop (lv' := [some (.ref 72), none, some (.int v2), some (.int v3), none, some (.int v5), some (.int v6), some (.int y2)]) [true, false, true, true, false, true, true, true] rfl ?_
      exact h
    · replace h := h.2 q9
      refine zi_iload dX11_planOf_79 rfl ?_
      refine zi_goto (tgt := 86) dX11_planOf_81 (by decide) ?_
      refine zt_drop (lv' := [some (.ref 72), none, some (.int v2), some (.int v3), none, some (.int v5), some (.int v6), some (.int y2)]) [true, false, true, true, false, true, true, true] rfl ?_
      exact h
set_option maxHeartbeats 2000000 in
theorem b_X11_planOf_86 {v2 : Int32} {v3 : Int32} {v5 : Int32} {v6 : Int32} {v7 : Int32} {w0 : Int32} {X : Nat × (Nat → Int32)} {S : zS} {L : zL} {P : Int32 → zS → zL → Prop} (h : ((v7 ≤ v5 → ∀ x1 : Int32, x1 = v6 + (1 : Int32) → zU mX11_planOf X S L 35 [some (.ref 72), none, some (.int v2), some (.int v3), some (.int w0), some (.int v5), some (.int x1), none] [] (zpi P)) ∧ (¬ v7 ≤ v5 → ∀ x1 : Int32, x1 = v6 + (1 : Int32) → zU mX11_planOf X S L 35 [some (.ref 72), none, some (.int v2), some (.int v3), some (.int w0), some (.int v7), some (.int x1), none] [] (zpi P)))) : zU mX11_planOf X S L 86 [some (.ref 72), none, some (.int v2), some (.int v3), none, some (.int v5), some (.int v6), some (.int v7)] [.int w0] (zpi P) := by
  refine zi_istore dX11_planOf_86 (by decide) rfl ?_
  refine zi_iload dX11_planOf_88 rfl ?_
  refine zi_iload dX11_planOf_90 rfl ?_
  refine zi_icmp_le (tgt := 100) dX11_planOf_92 (by decide) (fun q9 => ?_) (fun q9 => ?_)
  · replace h := h.1 q9
    refine zi_iload dX11_planOf_100 rfl ?_
    refine zi_istore dX11_planOf_102 (by decide) rfl ?_
    obtain ⟨x1, ex1⟩ : ∃ y : Int32, y = v6 + (1 : Int32) := ⟨_, rfl⟩
    replace h := h x1 ex1
    refine zi_iinc (v := x1) dX11_planOf_104 rfl (by rw [ex1]; rfl) (by decide) rfl ?_
    refine zi_goto (tgt := 35) dX11_planOf_107 (by decide) ?_
    refine zt_drop (lv' := [some (.ref 72), none, some (.int v2), some (.int v3), some (.int w0), some (.int v5), some (.int x1), none]) [true, false, true, true, true, true, true, false] rfl ?_
    exact h
  · replace h := h.2 q9
    refine zi_iload dX11_planOf_95 rfl ?_
    refine zi_goto (tgt := 102) dX11_planOf_97 (by decide) ?_
    refine zi_istore dX11_planOf_102 (by decide) rfl ?_
    obtain ⟨x1, ex1⟩ : ∃ y : Int32, y = v6 + (1 : Int32) := ⟨_, rfl⟩
    replace h := h x1 ex1
    refine zi_iinc (v := x1) dX11_planOf_104 rfl (by rw [ex1]; rfl) (by decide) rfl ?_
    refine zi_goto (tgt := 35) dX11_planOf_107 (by decide) ?_
    refine zt_drop (lv' := [some (.ref 72), none, some (.int v2), some (.int v3), some (.int w0), some (.int v7), some (.int x1), none]) [true, false, true, true, true, true, true, false] rfl ?_
    exact h
theorem e_X11_planOf {pace : Int32} {what : Int32} {S : zS} {L : zL} {P : Int32 → zS → zL → Prop} (h : ∀ X, zU mX11_planOf X S L 0 [some (.ref 72), some (.int pace), some (.int what), none, none, none, none, none] [] (zpi P)) : zCi mX11_planOf S L [.ref 72, .int pace, .int what] P := zCi_of pn_X11_planOf (Nat.le_of_ble_eq_true rfl) (fun X => zt_pad (j := 5) rfl (h X))
set_option maxHeartbeats 2000000 in
theorem b_X11_plan_0 {pace : Int32} {what : Int32} {X : Nat × (Nat → Int32)} {S : zS} {L : zL} {P : Int32 → zS → zL → Prop} (h : ((((1 : Int32) ≤ pace ∧ pace ≤ (4 : Int32)) → ((((0 : Int32) ≤ what ∧ what ≤ (2 : Int32)) → zCi mX11_planOf S L [.ref 72, .int pace, .int what] (fun y3 S1 L1 => P y3 S1 L1)) ∧ (¬ ((0 : Int32) ≤ what ∧ what ≤ (2 : Int32)) → P (-2 : Int32) S L))) ∧ (¬ ((1 : Int32) ≤ pace ∧ pace ≤ (4 : Int32)) → P (-2 : Int32) S L))) : zU mX11_plan X S L 0 [some (.ref 72), some (.int pace), some (.int what)] [] (zpi P) := by
  refine zi_iload_n dX11_plan_0 rfl rfl ?_
  refine zi_iconst (v := 1) dX11_plan_1 (by decide) ?_
  refine zi_iconst (v := 4) dX11_plan_2 (by decide) ?_
  refine zt_Si (As := [.int pace, .int (1 : Int32), .int (4 : Int32)]) dX11_plan_3 lk_X11_140 ⟨⟨by decide, by decide⟩, rfl, rfl⟩ rfl ⟨Nat.le_of_ble_eq_true rfl, rfl, rfl⟩ (in_s (P := fun y S9 L9 => y = (if ((1 : Int32) ≤ pace ∧ pace ≤ (4 : Int32)) then (1 : Int32) else 0) ∧ S = S9 ∧ L = L9) ⟨rfl, rfl, rfl⟩) (fun y1 S9 L9 q9 => ?_)
  obtain ⟨ey1, rfl, rfl⟩ := q9
  by_cases q9 : ((1 : Int32) ≤ pace ∧ pace ≤ (4 : Int32))
  · replace h := h.1 q9
    rw [if_pos q9] at ey1
    subst ey1
    refine zi_if_eq (tgt := 27) dX11_plan_6 (by decide) (fun z9 => absurd z9 (by decide)) (fun _ => ?_)
    refine zi_iload_n dX11_plan_9 rfl rfl ?_
    refine zi_iconst (v := 0) dX11_plan_10 (by decide) ?_
    refine zi_iconst (v := 2) dX11_plan_11 (by decide) ?_
    refine zt_Si (As := [.int what, .int (0 : Int32), .int (2 : Int32)]) dX11_plan_12 lk_X11_140 ⟨⟨by decide, by decide⟩, rfl, rfl⟩ rfl ⟨Nat.le_of_ble_eq_true rfl, rfl, rfl⟩ (in_s (P := fun y S9 L9 => y = (if ((0 : Int32) ≤ what ∧ what ≤ (2 : Int32)) then (1 : Int32) else 0) ∧ S = S9 ∧ L = L9) ⟨rfl, rfl, rfl⟩) (fun y2 S9 L9 q9 => ?_)
    obtain ⟨ey2, rfl, rfl⟩ := q9
    by_cases q9 : ((0 : Int32) ≤ what ∧ what ≤ (2 : Int32))
    · replace h := h.1 q9
      rw [if_pos q9] at ey2
      subst ey2
      refine zi_if_eq (tgt := 27) dX11_plan_15 (by decide) (fun z9 => absurd z9 (by decide)) (fun _ => ?_)
      refine zi_aload_n dX11_plan_18 rfl rfl ?_
      refine zi_iload_n dX11_plan_19 rfl rfl ?_
      refine zi_iload_n dX11_plan_20 rfl rfl ?_
      refine zt_Vi (As := [.int pace, .int what]) dX11_plan_21 lk_X11_299 sk72 rfl ⟨⟨by decide, by decide⟩, rfl, rfl⟩ rfl ⟨Nat.le_of_ble_eq_true rfl, rfl, rfl⟩ h (fun y3 S1 L1 h => ?_)
      refine zi_goto (tgt := 29) dX11_plan_24 (by decide) ?_
      exact zt_iret dX11_plan_29 rfl h
    · replace h := h.2 q9
      rw [if_neg q9] at ey2
      subst ey2
      refine zi_if_eq (tgt := 27) dX11_plan_15 (by decide) (fun _ => ?_) (fun z9 => absurd rfl z9)
      refine zi_bipush (v := -2) dX11_plan_27 (by decide) ?_
      exact zt_iret dX11_plan_29 rfl h
  · replace h := h.2 q9
    rw [if_neg q9] at ey1
    subst ey1
    refine zi_if_eq (tgt := 27) dX11_plan_6 (by decide) (fun _ => ?_) (fun z9 => absurd rfl z9)
    refine zi_bipush (v := -2) dX11_plan_27 (by decide) ?_
    exact zt_iret dX11_plan_29 rfl h
theorem e_X11_plan {pace : Int32} {what : Int32} {S : zS} {L : zL} {P : Int32 → zS → zL → Prop} (h : ∀ X, zU mX11_plan X S L 0 [some (.ref 72), some (.int pace), some (.int what)] [] (zpi P)) : zCi mX11_plan S L [.ref 72, .int pace, .int what] P := zCi_of pn_X11_plan (Nat.le_of_ble_eq_true rfl) (fun X => zt_pad (j := 0) rfl (h X))
set_option maxHeartbeats 2000000 in
theorem b_X11_ofRow_0 {n : Int32} {i : Int32} {X : Nat × (Nat → Int32)} {S : zS} {L : zL} {P : Int32 → zS → zL → Prop} (h : ((¬ i = (-1 : Int32) → ((n ≤ i → P (-1 : Int32) S L) ∧ (¬ n ≤ i → vp_in i 2 ∧ P (S 103 i.toNatClampNeg) S L))) ∧ (i = (-1 : Int32) → P n S L))) : zU mX11_ofRow X S L 0 [some (.ref 72), some (.int n), some (.int i)] [] (zpi P) := by
  refine zi_iload_n dX11_ofRow_0 rfl rfl ?_
  refine zi_iconst (v := -1) dX11_ofRow_1 (by decide) ?_
  refine zi_icmp_ne (tgt := 9) dX11_ofRow_2 (by decide) (fun q9 => ?_) (fun q9 => ?_)
  · replace h := h.1 q9
    refine zi_iload_n dX11_ofRow_9 rfl rfl ?_
    refine zi_iload_n dX11_ofRow_10 rfl rfl ?_
    refine zi_icmp_ge (tgt := 23) dX11_ofRow_11 (by decide) (fun q9 => ?_) (fun q9 => ?_)
    · replace h := h.1 q9
      refine zi_iconst (v := -1) dX11_ofRow_23 (by decide) ?_
      exact zt_iret dX11_ofRow_24 rfl h
    · replace h := h.2 q9
      refine zi_aload_n dX11_ofRow_14 rfl rfl ?_
      refine zi_getr fl_X11_100 sk72 rfl dX11_ofRow_15 ?_
      refine zi_iload_n dX11_ofRow_18 rfl rfl ?_
      refine zi_iald sk103 h.1 dX11_ofRow_19 ?_
      replace h := h.2
      refine zi_goto (tgt := 24) dX11_ofRow_20 (by decide) ?_
      exact zt_iret dX11_ofRow_24 rfl h
  · replace h := h.2 q9
    refine zi_iload_n dX11_ofRow_5 rfl rfl ?_
    refine zi_goto (tgt := 24) dX11_ofRow_6 (by decide) ?_
    exact zt_iret dX11_ofRow_24 rfl h
theorem e_X11_ofRow {n : Int32} {i : Int32} {S : zS} {L : zL} {P : Int32 → zS → zL → Prop} (h : ∀ X, zU mX11_ofRow X S L 0 [some (.ref 72), some (.int n), some (.int i)] [] (zpi P)) : zCi mX11_ofRow S L [.ref 72, .int n, .int i] P := zCi_of pn_X11_ofRow (Nat.le_of_ble_eq_true rfl) (fun X => zt_pad (j := 0) rfl (h X))
set_option maxHeartbeats 2000000 in
theorem b_X11_isLight_0 {p : Int32} {most : Int32} {nt : Int32} {X : Nat × (Nat → Int32)} {S : zS} {L : zL} {P : Int32 → zS → zL → Prop} (h : ∀ S1 : zS, S1 = zc S 72 (upd (S 72) 22 nt) → zCv mX11_runs S1 L [.ref 72] (fun S2 L1 => zU mX11_isLight X S2 L1 15 [some (.ref 72), some (.int p), some (.int most), none, some (.int (1 : Int32)), some (.int (0 : Int32))] [] (zpi P))) : zU mX11_isLight X S L 0 [some (.ref 72), some (.int p), some (.int most), some (.int nt), none, none] [] (zpi P) := by
  refine zi_aload_n dX11_isLight_0 rfl rfl ?_
  refine zi_iload_n dX11_isLight_1 rfl rfl ?_
  refine zi_puti fp_X11_211 sk72 rfl dX11_isLight_2 ?_
  refine zt_nmS (fun S1 eS1 => ?_)
  replace h := h S1 eS1
  refine zi_aload_n dX11_isLight_5 rfl rfl ?_
  refine zt_Vv (As := []) dX11_isLight_6 lk_X11_269 sk72 rfl ⟨⟨by decide, by decide⟩, rfl, rfl⟩ rfl ⟨Nat.le_of_ble_eq_true rfl, rfl, rfl⟩ h (fun S2 L1 h => ?_)
  refine zi_iconst (v := 1) dX11_isLight_9 (by decide) ?_
  refine zi_istore dX11_isLight_10 (by decide) rfl ?_
  refine zi_iconst (v := 0) dX11_isLight_12 (by decide) ?_
  refine zi_istore dX11_isLight_13 (by decide) rfl ?_
  refine zt_drop (lv' := [some (.ref 72), some (.int p), some (.int most), none, some (.int (1 : Int32)), some (.int (0 : Int32))]) [true, true, true, false, true, true] rfl ?_
  exact h
set_option maxHeartbeats 2000000 in
theorem b_X11_isLight_15 {v1 : Int32} {v2 : Int32} {v4 : Int32} {v5 : Int32} {X : Nat × (Nat → Int32)} {S : zS} {L : zL} {P : Int32 → zS → zL → Prop} (h : (((24 : Int32) ≤ v5 → (narrow .boolean (.int v4) = .int v4 ∧ P v4 S L)) ∧ (¬ (24 : Int32) ≤ v5 → ((v4 = 0 → ∀ x1 : Int32, x1 = v5 + (1 : Int32) → zU mX11_isLight X S L 15 [some (.ref 72), some (.int v1), some (.int v2), none, some (.int (0 : Int32)), some (.int x1)] [] (zpi P)) ∧ (¬ v4 = 0 → vp_in (((8 : Int32) * v5) + v1) 192 ∧ ((v2 < (S 95 (((8 : Int32) * v5) + v1).toNatClampNeg) → ∀ x1 : Int32, x1 = v5 + (1 : Int32) → zU mX11_isLight X S L 15 [some (.ref 72), some (.int v1), some (.int v2), none, some (.int (0 : Int32)), some (.int x1)] [] (zpi P)) ∧ (¬ v2 < (S 95 (((8 : Int32) * v5) + v1).toNatClampNeg) → ∀ x1 : Int32, x1 = v5 + (1 : Int32) → zU mX11_isLight X S L 15 [some (.ref 72), some (.int v1), some (.int v2), none, some (.int (1 : Int32)), some (.int x1)] [] (zpi P)))))))) : zU mX11_isLight X S L 15 [some (.ref 72), some (.int v1), some (.int v2), none, some (.int v4), some (.int v5)] [] (zpi P) := by
  refine zi_iload dX11_isLight_15 rfl ?_
  refine zi_bipush (v := 24) dX11_isLight_17 (by decide) ?_
  refine zi_icmp_ge (tgt := 56) dX11_isLight_19 (by decide) (fun q9 => ?_) (fun q9 => ?_)
  · replace h := h.1 q9
    refine zi_iload dX11_isLight_56 rfl ?_
    exact zt_zret (ty := .boolean) dX11_isLight_58 rfl h.1 h.2
  · replace h := h.2 q9
    refine zi_iload dX11_isLight_22 rfl ?_
    refine zi_if_eq (tgt := 47) dX11_isLight_24 (by decide) (fun q9 => ?_) (fun q9 => ?_)
    · replace h := h.1 q9
      refine zi_iconst (v := 0) dX11_isLight_47 (by decide) ?_
      refine zi_istore dX11_isLight_48 (by decide) rfl ?_
      obtain ⟨x1, ex1⟩ : ∃ y : Int32, y = v5 + (1 : Int32) := ⟨_, rfl⟩
      replace h := h x1 ex1
      refine zi_iinc (v := x1) dX11_isLight_50 rfl (by rw [ex1]; rfl) (by decide) rfl ?_
      refine zi_goto (tgt := 15) dX11_isLight_53 (by decide) ?_
      refine zt_drop (lv' := [some (.ref 72), some (.int v1), some (.int v2), none, some (.int (0 : Int32)), some (.int x1)]) [true, true, true, false, true, true] rfl ?_
      exact h
    · replace h := h.2 q9
      refine zi_aload_n dX11_isLight_27 rfl rfl ?_
      refine zi_getr fl_X11_76 sk72 rfl dX11_isLight_28 ?_
      refine zi_bipush (v := 8) dX11_isLight_31 (by decide) ?_
      refine zi_iload dX11_isLight_33 rfl ?_
      refine zi_imul dX11_isLight_35 ?_
      refine zi_iload_n dX11_isLight_36 rfl rfl ?_
      refine zi_iadd dX11_isLight_37 ?_
      refine zi_iald sk95 h.1 dX11_isLight_38 ?_
      replace h := h.2
      refine zi_iload_n dX11_isLight_39 rfl rfl ?_
      refine zi_icmp_gt (tgt := 47) dX11_isLight_40 (by decide) (fun q9 => ?_) (fun q9 => ?_)
      · replace h := h.1 q9
        refine zi_iconst (v := 0) dX11_isLight_47 (by decide) ?_
        refine zi_istore dX11_isLight_48 (by decide) rfl ?_
        obtain ⟨x1, ex1⟩ : ∃ y : Int32, y = v5 + (1 : Int32) := ⟨_, rfl⟩
        replace h := h x1 ex1
        refine zi_iinc (v := x1) dX11_isLight_50 rfl (by rw [ex1]; rfl) (by decide) rfl ?_
        refine zi_goto (tgt := 15) dX11_isLight_53 (by decide) ?_
        refine zt_drop (lv' := [some (.ref 72), some (.int v1), some (.int v2), none, some (.int (0 : Int32)), some (.int x1)]) [true, true, true, false, true, true] rfl ?_
        exact h
      · replace h := h.2 q9
        refine zi_iconst (v := 1) dX11_isLight_43 (by decide) ?_
        refine zi_goto (tgt := 48) dX11_isLight_44 (by decide) ?_
        refine zi_istore dX11_isLight_48 (by decide) rfl ?_
        obtain ⟨x1, ex1⟩ : ∃ y : Int32, y = v5 + (1 : Int32) := ⟨_, rfl⟩
        replace h := h x1 ex1
        refine zi_iinc (v := x1) dX11_isLight_50 rfl (by rw [ex1]; rfl) (by decide) rfl ?_
        refine zi_goto (tgt := 15) dX11_isLight_53 (by decide) ?_
        refine zt_drop (lv' := [some (.ref 72), some (.int v1), some (.int v2), none, some (.int (1 : Int32)), some (.int x1)]) [true, true, true, false, true, true] rfl ?_
        exact h
theorem e_X11_isLight {p : Int32} {most : Int32} {nt : Int32} {S : zS} {L : zL} {P : Int32 → zS → zL → Prop} (h : ∀ X, zU mX11_isLight X S L 0 [some (.ref 72), some (.int p), some (.int most), some (.int nt), none, none] [] (zpi P)) : zCi mX11_isLight S L [.ref 72, .int p, .int most, .int nt] P := zCi_of pn_X11_isLight (Nat.le_of_ble_eq_true rfl) (fun X => zt_pad (j := 2) rfl (h X))
set_option maxHeartbeats 2000000 in
theorem b_X11_lightBy_0 {p : Int32} {most : Int32} {X : Nat × (Nat → Int32)} {S : zS} {L : zL} {P : Int32 → zS → zL → Prop} (h : zCv mX11_asTold S L [.ref 72] (fun S1 L1 => zCi mX11_isLight S1 L1 [.ref 72, .int p, .int most, .int (0 : Int32)] (fun y2 S2 L2 => ((y2 = 0 → zU mX11_lightBy X S2 L2 18 [some (.ref 72), some (.int p), some (.int most), some (.int (0 : Int32)), none] [] (zpi P)) ∧ (¬ y2 = 0 → P (0 : Int32) S2 L2))))) : zU mX11_lightBy X S L 0 [some (.ref 72), some (.int p), some (.int most), none, none] [] (zpi P) := by
  refine zi_aload_n dX11_lightBy_0 rfl rfl ?_
  refine zt_Vv (As := []) dX11_lightBy_1 lk_X11_266 sk72 rfl ⟨⟨by decide, by decide⟩, rfl, rfl⟩ rfl ⟨Nat.le_of_ble_eq_true rfl, rfl, rfl⟩ h (fun S1 L1 h => ?_)
  refine zi_aload_n dX11_lightBy_4 rfl rfl ?_
  refine zi_iload_n dX11_lightBy_5 rfl rfl ?_
  refine zi_iload_n dX11_lightBy_6 rfl rfl ?_
  refine zi_iconst (v := 0) dX11_lightBy_7 (by decide) ?_
  refine zt_Vi (As := [.int p, .int most, .int (0 : Int32)]) dX11_lightBy_8 lk_X11_302 sk72 rfl ⟨⟨by decide, by decide⟩, rfl, rfl⟩ rfl ⟨Nat.le_of_ble_eq_true rfl, rfl, rfl⟩ h (fun y2 S2 L2 h => ?_)
  refine zi_if_eq (tgt := 16) dX11_lightBy_11 (by decide) (fun q9 => ?_) (fun q9 => ?_)
  · replace h := h.1 q9
    refine zi_iconst (v := 0) dX11_lightBy_16 (by decide) ?_
    refine zi_istore_n dX11_lightBy_17 rfl (by decide) rfl ?_
    refine zt_drop (lv' := [some (.ref 72), some (.int p), some (.int most), some (.int (0 : Int32)), none]) [true, true, true, true, false] rfl ?_
    exact h
  · replace h := h.2 q9
    refine zi_iconst (v := 0) dX11_lightBy_14 (by decide) ?_
    exact zt_iret dX11_lightBy_15 rfl h
set_option maxHeartbeats 2000000 in
theorem b_X11_lightBy_18 {v1 : Int32} {v2 : Int32} {v3 : Int32} {X : Nat × (Nat → Int32)} {S : zS} {L : zL} {P : Int32 → zS → zL → Prop} (h : (((S 72 6) ≤ v3 → zU mX11_lightBy X S L 55 [some (.ref 72), some (.int v1), some (.int v2), some (.int (0 : Int32)), none] [] (zpi P)) ∧ (¬ (S 72 6) ≤ v3 → vp_in (0 : Int32) 2 ∧ ∀ S1 : zS, S1 = zc S 103 (upd (S 103) (0 : Int32).toNatClampNeg v3) → zCi mX11_isLight S1 L [.ref 72, .int v1, .int v2, .int ((1 : Int32) <<< (v3 &&& 31))] (fun y1 S2 L1 => ((y1 = 0 → ∀ x1 : Int32, x1 = v3 + (1 : Int32) → zU mX11_lightBy X S2 L1 18 [some (.ref 72), some (.int v1), some (.int v2), some (.int x1), none] [] (zpi P)) ∧ (¬ y1 = 0 → P (1 : Int32) S2 L1)))))) : zU mX11_lightBy X S L 18 [some (.ref 72), some (.int v1), some (.int v2), some (.int v3), none] [] (zpi P) := by
  refine zi_iload_n dX11_lightBy_18 rfl rfl ?_
  refine zi_aload_n dX11_lightBy_19 rfl rfl ?_
  refine zi_geti fl_X11_155 sk72 rfl dX11_lightBy_20 ?_
  refine zi_icmp_ge (tgt := 53) dX11_lightBy_23 (by decide) (fun q9 => ?_) (fun q9 => ?_)
  · replace h := h.1 q9
    refine zi_iconst (v := 0) dX11_lightBy_53 (by decide) ?_
    refine zi_istore_n dX11_lightBy_54 rfl (by decide) rfl ?_
    refine zt_drop (lv' := [some (.ref 72), some (.int v1), some (.int v2), some (.int (0 : Int32)), none]) [true, true, true, true, false] rfl ?_
    exact h
  · replace h := h.2 q9
    refine zi_aload_n dX11_lightBy_26 rfl rfl ?_
    refine zi_getr fl_X11_100 sk72 rfl dX11_lightBy_27 ?_
    refine zi_iconst (v := 0) dX11_lightBy_30 (by decide) ?_
    refine zi_iload_n dX11_lightBy_31 rfl rfl ?_
    refine zi_iast sk103 h.1 dX11_lightBy_32 ?_
    replace h := h.2
    refine zt_nmS (fun S1 eS1 => ?_)
    replace h := h S1 eS1
    refine zi_aload_n dX11_lightBy_33 rfl rfl ?_
    refine zi_iload_n dX11_lightBy_34 rfl rfl ?_
    refine zi_iload_n dX11_lightBy_35 rfl rfl ?_
    refine zi_iconst (v := 1) dX11_lightBy_36 (by decide) ?_
    refine zi_iload_n dX11_lightBy_37 rfl rfl ?_
    refine zi_ishl dX11_lightBy_38 ?_
    refine zt_Vi (As := [.int v1, .int v2, .int ((1 : Int32) <<< (v3 &&& 31))]) dX11_lightBy_39 lk_X11_302 sk72 rfl ⟨⟨by decide, by decide⟩, rfl, rfl⟩ rfl ⟨Nat.le_of_ble_eq_true rfl, rfl, rfl⟩ h (fun y1 S2 L1 h => ?_)
    refine zi_if_eq (tgt := 47) dX11_lightBy_42 (by decide) (fun q9 => ?_) (fun q9 => ?_)
    · replace h := h.1 q9
      obtain ⟨x1, ex1⟩ : ∃ y : Int32, y = v3 + (1 : Int32) := ⟨_, rfl⟩
      replace h := h x1 ex1
      refine zi_iinc (v := x1) dX11_lightBy_47 rfl (by rw [ex1]; rfl) (by decide) rfl ?_
      refine zi_goto (tgt := 18) dX11_lightBy_50 (by decide) ?_
      refine zt_drop (lv' := [some (.ref 72), some (.int v1), some (.int v2), some (.int x1), none]) [true, true, true, true, false] rfl ?_
      exact h
    · replace h := h.2 q9
      refine zi_iconst (v := 1) dX11_lightBy_45 (by decide) ?_
      exact zt_iret dX11_lightBy_46 rfl h
set_option maxHeartbeats 2000000 in
theorem b_X11_lightBy_55 {v1 : Int32} {v2 : Int32} {v3 : Int32} {X : Nat × (Nat → Int32)} {S : zS} {L : zL} {P : Int32 → zS → zL → Prop} (h : (((S 72 6) ≤ v3 → P (-1 : Int32) S L) ∧ (¬ (S 72 6) ≤ v3 → ∀ x1 : Int32, x1 = (v3 + (1 : Int32)) → zU mX11_lightBy X S L 68 [some (.ref 72), some (.int v1), some (.int v2), some (.int v3), some (.int x1)] [] (zpi P)))) : zU mX11_lightBy X S L 55 [some (.ref 72), some (.int v1), some (.int v2), some (.int v3), none] [] (zpi P) := by
  refine zi_iload_n dX11_lightBy_55 rfl rfl ?_
  refine zi_aload_n dX11_lightBy_56 rfl rfl ?_
  refine zi_geti fl_X11_155 sk72 rfl dX11_lightBy_57 ?_
  refine zi_icmp_ge (tgt := 123) dX11_lightBy_60 (by decide) (fun q9 => ?_) (fun q9 => ?_)
  · replace h := h.1 q9
    refine zi_iconst (v := -1) dX11_lightBy_123 (by decide) ?_
    exact zt_iret dX11_lightBy_124 rfl h
  · replace h := h.2 q9
    refine zi_iload_n dX11_lightBy_63 rfl rfl ?_
    refine zi_iconst (v := 1) dX11_lightBy_64 (by decide) ?_
    refine zi_iadd dX11_lightBy_65 ?_
    refine zt_nmi (fun x1 ex1 => ?_)
    replace h := h x1 ex1
    refine zi_istore dX11_lightBy_66 (by decide) rfl ?_
    refine zt_drop (lv' := [some (.ref 72), some (.int v1), some (.int v2), some (.int v3), some (.int x1)]) [true, true, true, true, true] rfl ?_
    exact h
set_option maxHeartbeats 2000000 in
theorem b_X11_lightBy_68 {v1 : Int32} {v2 : Int32} {v3 : Int32} {v4 : Int32} {X : Nat × (Nat → Int32)} {S : zS} {L : zL} {P : Int32 → zS → zL → Prop} (h : (((S 72 6) ≤ v4 → ∀ x1 : Int32, x1 = v3 + (1 : Int32) → zU mX11_lightBy X S L 55 [some (.ref 72), some (.int v1), some (.int v2), some (.int x1), none] [] (zpi P)) ∧ (¬ (S 72 6) ≤ v4 → vp_in (0 : Int32) 2 ∧ ∀ S1 : zS, S1 = zc S 103 (upd (S 103) (0 : Int32).toNatClampNeg v3) → vp_in (1 : Int32) 2 ∧ ∀ S2 : zS, S2 = zc S1 103 (upd (S1 103) (1 : Int32).toNatClampNeg v4) → zCi mX11_isLight S2 L [.ref 72, .int v1, .int v2, .int (((1 : Int32) <<< (v3 &&& 31)) ||| ((1 : Int32) <<< (v4 &&& 31)))] (fun y1 S3 L1 => ((y1 = 0 → ∀ x1 : Int32, x1 = v4 + (1 : Int32) → zU mX11_lightBy X S3 L1 68 [some (.ref 72), some (.int v1), some (.int v2), some (.int v3), some (.int x1)] [] (zpi P)) ∧ (¬ y1 = 0 → P (2 : Int32) S3 L1)))))) : zU mX11_lightBy X S L 68 [some (.ref 72), some (.int v1), some (.int v2), some (.int v3), some (.int v4)] [] (zpi P) := by
  refine zi_iload dX11_lightBy_68 rfl ?_
  refine zi_aload_n dX11_lightBy_70 rfl rfl ?_
  refine zi_geti fl_X11_155 sk72 rfl dX11_lightBy_71 ?_
  refine zi_icmp_ge (tgt := 117) dX11_lightBy_74 (by decide) (fun q9 => ?_) (fun q9 => ?_)
  · replace h := h.1 q9
    obtain ⟨x1, ex1⟩ : ∃ y : Int32, y = v3 + (1 : Int32) := ⟨_, rfl⟩
    replace h := h x1 ex1
    refine zi_iinc (v := x1) dX11_lightBy_117 rfl (by rw [ex1]; rfl) (by decide) rfl ?_
    refine zi_goto (tgt := 55) dX11_lightBy_120 (by decide) ?_
    refine zt_drop (lv' := [some (.ref 72), some (.int v1), some (.int v2), some (.int x1), none]) [true, true, true, true, false] rfl ?_
    exact h
  · replace h := h.2 q9
    refine zi_aload_n dX11_lightBy_77 rfl rfl ?_
    refine zi_getr fl_X11_100 sk72 rfl dX11_lightBy_78 ?_
    refine zi_iconst (v := 0) dX11_lightBy_81 (by decide) ?_
    refine zi_iload_n dX11_lightBy_82 rfl rfl ?_
    refine zi_iast sk103 h.1 dX11_lightBy_83 ?_
    replace h := h.2
    refine zt_nmS (fun S1 eS1 => ?_)
    replace h := h S1 eS1
    refine zi_aload_n dX11_lightBy_84 rfl rfl ?_
    refine zi_getr fl_X11_100 sk72 rfl dX11_lightBy_85 ?_
    refine zi_iconst (v := 1) dX11_lightBy_88 (by decide) ?_
    refine zi_iload dX11_lightBy_89 rfl ?_
    refine zi_iast sk103 h.1 dX11_lightBy_91 ?_
    replace h := h.2
    refine zt_nmS (fun S2 eS2 => ?_)
    replace h := h S2 eS2
    refine zi_aload_n dX11_lightBy_92 rfl rfl ?_
    refine zi_iload_n dX11_lightBy_93 rfl rfl ?_
    refine zi_iload_n dX11_lightBy_94 rfl rfl ?_
    refine zi_iconst (v := 1) dX11_lightBy_95 (by decide) ?_
    refine zi_iload_n dX11_lightBy_96 rfl rfl ?_
    refine zi_ishl dX11_lightBy_97 ?_
    refine zi_iconst (v := 1) dX11_lightBy_98 (by decide) ?_
    refine zi_iload dX11_lightBy_99 rfl ?_
    refine zi_ishl dX11_lightBy_101 ?_
    refine zi_ior dX11_lightBy_102 ?_
    refine zt_Vi (As := [.int v1, .int v2, .int (((1 : Int32) <<< (v3 &&& 31)) ||| ((1 : Int32) <<< (v4 &&& 31)))]) dX11_lightBy_103 lk_X11_302 sk72 rfl ⟨⟨by decide, by decide⟩, rfl, rfl⟩ rfl ⟨Nat.le_of_ble_eq_true rfl, rfl, rfl⟩ h (fun y1 S3 L1 h => ?_)
    refine zi_if_eq (tgt := 111) dX11_lightBy_106 (by decide) (fun q9 => ?_) (fun q9 => ?_)
    · replace h := h.1 q9
      obtain ⟨x1, ex1⟩ : ∃ y : Int32, y = v4 + (1 : Int32) := ⟨_, rfl⟩
      replace h := h x1 ex1
      refine zi_iinc (v := x1) dX11_lightBy_111 rfl (by rw [ex1]; rfl) (by decide) rfl ?_
      refine zi_goto (tgt := 68) dX11_lightBy_114 (by decide) ?_
      refine zt_drop (lv' := [some (.ref 72), some (.int v1), some (.int v2), some (.int v3), some (.int x1)]) [true, true, true, true, true] rfl ?_
      exact h
    · replace h := h.2 q9
      refine zi_iconst (v := 2) dX11_lightBy_109 (by decide) ?_
      exact zt_iret dX11_lightBy_110 rfl h
theorem e_X11_lightBy {p : Int32} {most : Int32} {S : zS} {L : zL} {P : Int32 → zS → zL → Prop} (h : ∀ X, zU mX11_lightBy X S L 0 [some (.ref 72), some (.int p), some (.int most), none, none] [] (zpi P)) : zCi mX11_lightBy S L [.ref 72, .int p, .int most] P := zCi_of pn_X11_lightBy (Nat.le_of_ble_eq_true rfl) (fun X => zt_pad (j := 2) rfl (h X))
set_option maxHeartbeats 2000000 in
theorem b_X11_light_0 {p : Int32} {most : Int32} {i : Int32} {X : Nat × (Nat → Int32)} {S : zS} {L : zL} {P : Int32 → zS → zL → Prop} (h : zCi mX11_isPerson S L [.ref 72, .int p] (fun y1 S1 L1 => ((y1 = 0 → P (-2 : Int32) S1 L1) ∧ (¬ y1 = 0 → ((((0 : Int32) ≤ most ∧ most ≤ (99 : Int32)) → ((((-1 : Int32) ≤ i ∧ i ≤ (1 : Int32)) → zCi mX11_lightBy S1 L1 [.ref 72, .int p, .int most] (fun y4 S2 L2 => zCi mX11_ofRow S2 L2 [.ref 72, .int y4, .int i] (fun y5 S3 L3 => P y5 S3 L3))) ∧ (¬ ((-1 : Int32) ≤ i ∧ i ≤ (1 : Int32)) → P (-2 : Int32) S1 L1))) ∧ (¬ ((0 : Int32) ≤ most ∧ most ≤ (99 : Int32)) → P (-2 : Int32) S1 L1)))))) : zU mX11_light X S L 0 [some (.ref 72), some (.int p), some (.int most), some (.int i)] [] (zpi P) := by
  refine zi_aload_n dX11_light_0 rfl rfl ?_
  refine zi_iload_n dX11_light_1 rfl rfl ?_
  refine zt_Vi (As := [.int p]) dX11_light_2 lk_X11_174 sk72 rfl ⟨⟨by decide, by decide⟩, rfl, rfl⟩ rfl ⟨Nat.le_of_ble_eq_true rfl, rfl, rfl⟩ h (fun y1 S1 L1 h => ?_)
  refine zi_if_eq (tgt := 41) dX11_light_5 (by decide) (fun q9 => ?_) (fun q9 => ?_)
  · replace h := h.1 q9
    refine zi_bipush (v := -2) dX11_light_41 (by decide) ?_
    exact zt_iret dX11_light_43 rfl h
  · replace h := h.2 q9
    refine zi_iload_n dX11_light_8 rfl rfl ?_
    refine zi_iconst (v := 0) dX11_light_9 (by decide) ?_
    refine zi_bipush (v := 99) dX11_light_10 (by decide) ?_
    refine zt_Si (As := [.int most, .int (0 : Int32), .int (99 : Int32)]) dX11_light_12 lk_X11_140 ⟨⟨by decide, by decide⟩, rfl, rfl⟩ rfl ⟨Nat.le_of_ble_eq_true rfl, rfl, rfl⟩ (in_s (P := fun y S9 L9 => y = (if ((0 : Int32) ≤ most ∧ most ≤ (99 : Int32)) then (1 : Int32) else 0) ∧ S1 = S9 ∧ L1 = L9) ⟨rfl, rfl, rfl⟩) (fun y2 S9 L9 q9 => ?_)
    obtain ⟨ey2, rfl, rfl⟩ := q9
    by_cases q9 : ((0 : Int32) ≤ most ∧ most ≤ (99 : Int32))
    · replace h := h.1 q9
      rw [if_pos q9] at ey2
      subst ey2
      refine zi_if_eq (tgt := 41) dX11_light_15 (by decide) (fun z9 => absurd z9 (by decide)) (fun _ => ?_)
      refine zi_iload_n dX11_light_18 rfl rfl ?_
      refine zi_iconst (v := -1) dX11_light_19 (by decide) ?_
      refine zi_iconst (v := 1) dX11_light_20 (by decide) ?_
      refine zt_Si (As := [.int i, .int (-1 : Int32), .int (1 : Int32)]) dX11_light_21 lk_X11_140 ⟨⟨by decide, by decide⟩, rfl, rfl⟩ rfl ⟨Nat.le_of_ble_eq_true rfl, rfl, rfl⟩ (in_s (P := fun y S9 L9 => y = (if ((-1 : Int32) ≤ i ∧ i ≤ (1 : Int32)) then (1 : Int32) else 0) ∧ S1 = S9 ∧ L1 = L9) ⟨rfl, rfl, rfl⟩) (fun y3 S9 L9 q9 => ?_)
      obtain ⟨ey3, rfl, rfl⟩ := q9
      by_cases q9 : ((-1 : Int32) ≤ i ∧ i ≤ (1 : Int32))
      · replace h := h.1 q9
        rw [if_pos q9] at ey3
        subst ey3
        refine zi_if_eq (tgt := 41) dX11_light_24 (by decide) (fun z9 => absurd z9 (by decide)) (fun _ => ?_)
        refine zi_aload_n dX11_light_27 rfl rfl ?_
        refine zi_aload_n dX11_light_28 rfl rfl ?_
        refine zi_iload_n dX11_light_29 rfl rfl ?_
        refine zi_iload_n dX11_light_30 rfl rfl ?_
        refine zt_Vi (As := [.int p, .int most]) dX11_light_31 lk_X11_305 sk72 rfl ⟨⟨by decide, by decide⟩, rfl, rfl⟩ rfl ⟨Nat.le_of_ble_eq_true rfl, rfl, rfl⟩ h (fun y4 S2 L2 h => ?_)
        refine zi_iload_n dX11_light_34 rfl rfl ?_
        refine zt_Vi (As := [.int y4, .int i]) dX11_light_35 lk_X11_308 sk72 rfl ⟨⟨by decide, by decide⟩, rfl, rfl⟩ rfl ⟨Nat.le_of_ble_eq_true rfl, rfl, rfl⟩ h (fun y5 S3 L3 h => ?_)
        refine zi_goto (tgt := 43) dX11_light_38 (by decide) ?_
        exact zt_iret dX11_light_43 rfl h
      · replace h := h.2 q9
        rw [if_neg q9] at ey3
        subst ey3
        refine zi_if_eq (tgt := 41) dX11_light_24 (by decide) (fun _ => ?_) (fun z9 => absurd rfl z9)
        refine zi_bipush (v := -2) dX11_light_41 (by decide) ?_
        exact zt_iret dX11_light_43 rfl h
    · replace h := h.2 q9
      rw [if_neg q9] at ey2
      subst ey2
      refine zi_if_eq (tgt := 41) dX11_light_15 (by decide) (fun _ => ?_) (fun z9 => absurd rfl z9)
      refine zi_bipush (v := -2) dX11_light_41 (by decide) ?_
      exact zt_iret dX11_light_43 rfl h
theorem e_X11_light {p : Int32} {most : Int32} {i : Int32} {S : zS} {L : zL} {P : Int32 → zS → zL → Prop} (h : ∀ X, zU mX11_light X S L 0 [some (.ref 72), some (.int p), some (.int most), some (.int i)] [] (zpi P)) : zCi mX11_light S L [.ref 72, .int p, .int most, .int i] P := zCi_of pn_X11_light (Nat.le_of_ble_eq_true rfl) (fun X => zt_pad (j := 0) rfl (h X))
set_option maxHeartbeats 2000000 in
theorem b_X11_livesMany_0 {np : Nat} {X : Nat × (Nat → Int32)} {S : zS} {L : zL} {P : Int32 → zS → zL → Prop} (h : zU mX11_livesMany X S L 4 [some (.ref 72), some (.int (0 : Int32)), some (.int (0 : Int32))] [] (zpi P)) : zU mX11_livesMany X S L 0 [some (.ref 72), none, none] [] (zpi P) := by
  refine zi_iconst (v := 0) dX11_livesMany_0 (by decide) ?_
  refine zi_istore_n dX11_livesMany_1 rfl (by decide) rfl ?_
  refine zi_iconst (v := 0) dX11_livesMany_2 (by decide) ?_
  refine zi_istore_n dX11_livesMany_3 rfl (by decide) rfl ?_
  refine zt_drop (lv' := [some (.ref 72), some (.int (0 : Int32)), some (.int (0 : Int32))]) [true, true, true] rfl ?_
  exact h
set_option maxHeartbeats 2000000 in
theorem b_X11_livesMany_4 {np : Nat} {v1 : Int32} {v2 : Int32} {X : Nat × (Nat → Int32)} {S : zS} {L : zL} {P : Int32 → zS → zL → Prop} (h : (((S 72 2) ≤ v2 → P v1 S L) ∧ (¬ (S 72 2) ≤ v2 → (S 72 2 = nI np ∧ np ≤ 8) ∧ (((pLv np (S 92) v2) → ∀ x1 : Int32, x1 = (v1 + (1 : Int32)) → ∀ x2 : Int32, x2 = v2 + (1 : Int32) → zU mX11_livesMany X S L 4 [some (.ref 72), some (.int x1), some (.int x2)] [] (zpi P)) ∧ (¬ (pLv np (S 92) v2) → ∀ x1 : Int32, x1 = (v1 + (0 : Int32)) → ∀ x2 : Int32, x2 = v2 + (1 : Int32) → zU mX11_livesMany X S L 4 [some (.ref 72), some (.int x1), some (.int x2)] [] (zpi P)))))) : zU mX11_livesMany X S L 4 [some (.ref 72), some (.int v1), some (.int v2)] [] (zpi P) := by
  refine zi_iload_n dX11_livesMany_4 rfl rfl ?_
  refine zi_aload_n dX11_livesMany_5 rfl rfl ?_
  refine zi_geti fl_X11_152 sk72 rfl dX11_livesMany_6 ?_
  refine zi_icmp_ge (tgt := 34) dX11_livesMany_9 (by decide) (fun q9 => ?_) (fun q9 => ?_)
  · replace h := h.1 q9
    refine zi_iload_n dX11_livesMany_34 rfl rfl ?_
    exact zt_iret dX11_livesMany_35 rfl h
  · replace h := h.2 q9
    refine zi_iload_n dX11_livesMany_12 rfl rfl ?_
    refine zi_aload_n dX11_livesMany_13 rfl rfl ?_
    refine zi_iload_n dX11_livesMany_14 rfl rfl ?_
    refine zt_Vi (As := [.int v2]) dX11_livesMany_15 lk_X11_227 sk72 rfl ⟨⟨by decide, by decide⟩, rfl, rfl⟩ rfl ⟨Nat.le_of_ble_eq_true rfl, rfl, rfl⟩ (mlives_s h.1.1 h.1.2 (P := fun y S9 L9 => y = (if (pLv np (S 92) v2) then (1 : Int32) else 0) ∧ S = S9 ∧ L = L9) ⟨rfl, rfl, rfl⟩) (fun y1 S9 L9 q9 => ?_)
    obtain ⟨ey1, rfl, rfl⟩ := q9
    replace h := h.2
    by_cases q9 : (pLv np (S 92) v2)
    · replace h := h.1 q9
      rw [if_pos q9] at ey1
      subst ey1
      refine zi_if_eq (tgt := 25) dX11_livesMany_18 (by decide) (fun z9 => absurd z9 (by decide)) (fun _ => ?_)
      refine zi_iconst (v := 1) dX11_livesMany_21 (by decide) ?_
      refine zi_goto (tgt := 26) dX11_livesMany_22 (by decide) ?_
      refine zi_iadd dX11_livesMany_26 ?_
      refine zt_nmi (fun x1 ex1 => ?_)
      replace h := h x1 ex1
      refine zi_istore_n dX11_livesMany_27 rfl (by decide) rfl ?_
      obtain ⟨x2, ex2⟩ : ∃ y : Int32, y = v2 + (1 : Int32) := ⟨_, rfl⟩
      replace h := h x2 ex2
      refine zi_iinc (v := x2) dX11_livesMany_28 rfl (by rw [ex2]; rfl) (by decide) rfl ?_
      refine zi_goto (tgt := 4) dX11_livesMany_31 (by decide) ?_
      refine zt_drop (lv' := [some (.ref 72), some (.int x1), some (.int x2)]) [true, true, true] rfl ?_
      exact h
    · replace h := h.2 q9
      rw [if_neg q9] at ey1
      subst ey1
      refine zi_if_eq (tgt := 25) dX11_livesMany_18 (by decide) (fun _ => ?_) (fun z9 => absurd rfl z9)
      refine zi_iconst (v := 0) dX11_livesMany_25 (by decide) ?_
      refine zi_iadd dX11_livesMany_26 ?_
      refine zt_nmi (fun x1 ex1 => ?_)
      replace h := h x1 ex1
      refine zi_istore_n dX11_livesMany_27 rfl (by decide) rfl ?_
      obtain ⟨x2, ex2⟩ : ∃ y : Int32, y = v2 + (1 : Int32) := ⟨_, rfl⟩
      replace h := h x2 ex2
      refine zi_iinc (v := x2) dX11_livesMany_28 rfl (by rw [ex2]; rfl) (by decide) rfl ?_
      refine zi_goto (tgt := 4) dX11_livesMany_31 (by decide) ?_
      refine zt_drop (lv' := [some (.ref 72), some (.int x1), some (.int x2)]) [true, true, true] rfl ?_
      exact h
theorem e_X11_livesMany {S : zS} {L : zL} {P : Int32 → zS → zL → Prop} (h : ∀ X, zU mX11_livesMany X S L 0 [some (.ref 72), none, none] [] (zpi P)) : zCi mX11_livesMany S L [.ref 72] P := zCi_of pn_X11_livesMany (Nat.le_of_ble_eq_true rfl) (fun X => zt_pad (j := 2) rfl (h X))
set_option maxHeartbeats 2000000 in
theorem b_X11_isSpared_0 {nt : Int32} {X : Nat × (Nat → Int32)} {S : zS} {L : zL} {P : Int32 → zS → zL → Prop} (h : ∀ S1 : zS, S1 = zc S 72 (upd (S 72) 23 nt) → zCv mX11_runs S1 L [.ref 72] (fun S2 L1 => zCi mX11_livesMany S2 L1 [.ref 72] (fun y2 S3 L2 => ((¬ y2 = (S3 72 2) → P (0 : Int32) S3 L2) ∧ (y2 = (S3 72 2) → P (1 : Int32) S3 L2))))) : zU mX11_isSpared X S L 0 [some (.ref 72), some (.int nt)] [] (zpi P) := by
  refine zi_aload_n dX11_isSpared_0 rfl rfl ?_
  refine zi_iload_n dX11_isSpared_1 rfl rfl ?_
  refine zi_puti fp_X11_214 sk72 rfl dX11_isSpared_2 ?_
  refine zt_nmS (fun S1 eS1 => ?_)
  replace h := h S1 eS1
  refine zi_aload_n dX11_isSpared_5 rfl rfl ?_
  refine zt_Vv (As := []) dX11_isSpared_6 lk_X11_269 sk72 rfl ⟨⟨by decide, by decide⟩, rfl, rfl⟩ rfl ⟨Nat.le_of_ble_eq_true rfl, rfl, rfl⟩ h (fun S2 L1 h => ?_)
  refine zi_aload_n dX11_isSpared_9 rfl rfl ?_
  refine zt_Vi (As := []) dX11_isSpared_10 lk_X11_311 sk72 rfl ⟨⟨by decide, by decide⟩, rfl, rfl⟩ rfl ⟨Nat.le_of_ble_eq_true rfl, rfl, rfl⟩ h (fun y2 S3 L2 h => ?_)
  refine zi_aload_n dX11_isSpared_13 rfl rfl ?_
  refine zi_geti fl_X11_152 sk72 rfl dX11_isSpared_14 ?_
  refine zi_icmp_ne (tgt := 24) dX11_isSpared_17 (by decide) (fun q9 => ?_) (fun q9 => ?_)
  · replace h := h.1 q9
    refine zi_iconst (v := 0) dX11_isSpared_24 (by decide) ?_
    exact zt_zret (ty := .boolean) dX11_isSpared_25 rfl rfl h
  · replace h := h.2 q9
    refine zi_iconst (v := 1) dX11_isSpared_20 (by decide) ?_
    refine zi_goto (tgt := 25) dX11_isSpared_21 (by decide) ?_
    exact zt_zret (ty := .boolean) dX11_isSpared_25 rfl rfl h
theorem e_X11_isSpared {nt : Int32} {S : zS} {L : zL} {P : Int32 → zS → zL → Prop} (h : ∀ X, zU mX11_isSpared X S L 0 [some (.ref 72), some (.int nt)] [] (zpi P)) : zCi mX11_isSpared S L [.ref 72, .int nt] P := zCi_of pn_X11_isSpared (Nat.le_of_ble_eq_true rfl) (fun X => zt_pad (j := 0) rfl (h X))
set_option maxHeartbeats 2000000 in
theorem b_X11_spareBy_0 {X : Nat × (Nat → Int32)} {S : zS} {L : zL} {P : Int32 → zS → zL → Prop} (h : zCv mX11_asTold S L [.ref 72] (fun S1 L1 => zCi mX11_isSpared S1 L1 [.ref 72, .int (0 : Int32)] (fun y2 S2 L2 => ((y2 = 0 → zU mX11_spareBy X S2 L2 16 [some (.ref 72), some (.int (0 : Int32)), none] [] (zpi P)) ∧ (¬ y2 = 0 → P (0 : Int32) S2 L2))))) : zU mX11_spareBy X S L 0 [some (.ref 72), none, none] [] (zpi P) := by
  refine zi_aload_n dX11_spareBy_0 rfl rfl ?_
  refine zt_Vv (As := []) dX11_spareBy_1 lk_X11_266 sk72 rfl ⟨⟨by decide, by decide⟩, rfl, rfl⟩ rfl ⟨Nat.le_of_ble_eq_true rfl, rfl, rfl⟩ h (fun S1 L1 h => ?_)
  refine zi_aload_n dX11_spareBy_4 rfl rfl ?_
  refine zi_iconst (v := 0) dX11_spareBy_5 (by decide) ?_
  refine zt_Vi (As := [.int (0 : Int32)]) dX11_spareBy_6 lk_X11_314 sk72 rfl ⟨⟨by decide, by decide⟩, rfl, rfl⟩ rfl ⟨Nat.le_of_ble_eq_true rfl, rfl, rfl⟩ h (fun y2 S2 L2 h => ?_)
  refine zi_if_eq (tgt := 14) dX11_spareBy_9 (by decide) (fun q9 => ?_) (fun q9 => ?_)
  · replace h := h.1 q9
    refine zi_iconst (v := 0) dX11_spareBy_14 (by decide) ?_
    refine zi_istore_n dX11_spareBy_15 rfl (by decide) rfl ?_
    refine zt_drop (lv' := [some (.ref 72), some (.int (0 : Int32)), none]) [true, true, false] rfl ?_
    exact h
  · replace h := h.2 q9
    refine zi_iconst (v := 0) dX11_spareBy_12 (by decide) ?_
    exact zt_iret dX11_spareBy_13 rfl h
set_option maxHeartbeats 2000000 in
theorem b_X11_spareBy_16 {v1 : Int32} {X : Nat × (Nat → Int32)} {S : zS} {L : zL} {P : Int32 → zS → zL → Prop} (h : (((S 72 12) ≤ v1 → zU mX11_spareBy X S L 51 [some (.ref 72), some (.int (0 : Int32)), none] [] (zpi P)) ∧ (¬ (S 72 12) ≤ v1 → vp_in (0 : Int32) 2 ∧ ∀ S1 : zS, S1 = zc S 103 (upd (S 103) (0 : Int32).toNatClampNeg v1) → zCi mX11_isSpared S1 L [.ref 72, .int ((1 : Int32) <<< (v1 &&& 31))] (fun y1 S2 L1 => ((y1 = 0 → ∀ x1 : Int32, x1 = v1 + (1 : Int32) → zU mX11_spareBy X S2 L1 16 [some (.ref 72), some (.int x1), none] [] (zpi P)) ∧ (¬ y1 = 0 → P (1 : Int32) S2 L1)))))) : zU mX11_spareBy X S L 16 [some (.ref 72), some (.int v1), none] [] (zpi P) := by
  refine zi_iload_n dX11_spareBy_16 rfl rfl ?_
  refine zi_aload_n dX11_spareBy_17 rfl rfl ?_
  refine zi_geti fl_X11_192 sk72 rfl dX11_spareBy_18 ?_
  refine zi_icmp_ge (tgt := 49) dX11_spareBy_21 (by decide) (fun q9 => ?_) (fun q9 => ?_)
  · replace h := h.1 q9
    refine zi_iconst (v := 0) dX11_spareBy_49 (by decide) ?_
    refine zi_istore_n dX11_spareBy_50 rfl (by decide) rfl ?_
    refine zt_drop (lv' := [some (.ref 72), some (.int (0 : Int32)), none]) [true, true, false] rfl ?_
    exact h
  · replace h := h.2 q9
    refine zi_aload_n dX11_spareBy_24 rfl rfl ?_
    refine zi_getr fl_X11_100 sk72 rfl dX11_spareBy_25 ?_
    refine zi_iconst (v := 0) dX11_spareBy_28 (by decide) ?_
    refine zi_iload_n dX11_spareBy_29 rfl rfl ?_
    refine zi_iast sk103 h.1 dX11_spareBy_30 ?_
    replace h := h.2
    refine zt_nmS (fun S1 eS1 => ?_)
    replace h := h S1 eS1
    refine zi_aload_n dX11_spareBy_31 rfl rfl ?_
    refine zi_iconst (v := 1) dX11_spareBy_32 (by decide) ?_
    refine zi_iload_n dX11_spareBy_33 rfl rfl ?_
    refine zi_ishl dX11_spareBy_34 ?_
    refine zt_Vi (As := [.int ((1 : Int32) <<< (v1 &&& 31))]) dX11_spareBy_35 lk_X11_314 sk72 rfl ⟨⟨by decide, by decide⟩, rfl, rfl⟩ rfl ⟨Nat.le_of_ble_eq_true rfl, rfl, rfl⟩ h (fun y1 S2 L1 h => ?_)
    refine zi_if_eq (tgt := 43) dX11_spareBy_38 (by decide) (fun q9 => ?_) (fun q9 => ?_)
    · replace h := h.1 q9
      obtain ⟨x1, ex1⟩ : ∃ y : Int32, y = v1 + (1 : Int32) := ⟨_, rfl⟩
      replace h := h x1 ex1
      refine zi_iinc (v := x1) dX11_spareBy_43 rfl (by rw [ex1]; rfl) (by decide) rfl ?_
      refine zi_goto (tgt := 16) dX11_spareBy_46 (by decide) ?_
      refine zt_drop (lv' := [some (.ref 72), some (.int x1), none]) [true, true, false] rfl ?_
      exact h
    · replace h := h.2 q9
      refine zi_iconst (v := 1) dX11_spareBy_41 (by decide) ?_
      exact zt_iret dX11_spareBy_42 rfl h
set_option maxHeartbeats 2000000 in
theorem b_X11_spareBy_51 {v1 : Int32} {X : Nat × (Nat → Int32)} {S : zS} {L : zL} {P : Int32 → zS → zL → Prop} (h : (((S 72 12) ≤ v1 → P (-1 : Int32) S L) ∧ (¬ (S 72 12) ≤ v1 → ∀ x1 : Int32, x1 = (v1 + (1 : Int32)) → zU mX11_spareBy X S L 63 [some (.ref 72), some (.int v1), some (.int x1)] [] (zpi P)))) : zU mX11_spareBy X S L 51 [some (.ref 72), some (.int v1), none] [] (zpi P) := by
  refine zi_iload_n dX11_spareBy_51 rfl rfl ?_
  refine zi_aload_n dX11_spareBy_52 rfl rfl ?_
  refine zi_geti fl_X11_192 sk72 rfl dX11_spareBy_53 ?_
  refine zi_icmp_ge (tgt := 113) dX11_spareBy_56 (by decide) (fun q9 => ?_) (fun q9 => ?_)
  · replace h := h.1 q9
    refine zi_iconst (v := -1) dX11_spareBy_113 (by decide) ?_
    exact zt_iret dX11_spareBy_114 rfl h
  · replace h := h.2 q9
    refine zi_iload_n dX11_spareBy_59 rfl rfl ?_
    refine zi_iconst (v := 1) dX11_spareBy_60 (by decide) ?_
    refine zi_iadd dX11_spareBy_61 ?_
    refine zt_nmi (fun x1 ex1 => ?_)
    replace h := h x1 ex1
    refine zi_istore_n dX11_spareBy_62 rfl (by decide) rfl ?_
    refine zt_drop (lv' := [some (.ref 72), some (.int v1), some (.int x1)]) [true, true, true] rfl ?_
    exact h
set_option maxHeartbeats 2000000 in
theorem b_X11_spareBy_63 {v1 : Int32} {v2 : Int32} {X : Nat × (Nat → Int32)} {S : zS} {L : zL} {P : Int32 → zS → zL → Prop} (h : (((S 72 12) ≤ v2 → ∀ x1 : Int32, x1 = v1 + (1 : Int32) → zU mX11_spareBy X S L 51 [some (.ref 72), some (.int x1), none] [] (zpi P)) ∧ (¬ (S 72 12) ≤ v2 → vp_in (0 : Int32) 2 ∧ ∀ S1 : zS, S1 = zc S 103 (upd (S 103) (0 : Int32).toNatClampNeg v1) → vp_in (1 : Int32) 2 ∧ ∀ S2 : zS, S2 = zc S1 103 (upd (S1 103) (1 : Int32).toNatClampNeg v2) → zCi mX11_isSpared S2 L [.ref 72, .int (((1 : Int32) <<< (v1 &&& 31)) ||| ((1 : Int32) <<< (v2 &&& 31)))] (fun y1 S3 L1 => ((y1 = 0 → ∀ x1 : Int32, x1 = v2 + (1 : Int32) → zU mX11_spareBy X S3 L1 63 [some (.ref 72), some (.int v1), some (.int x1)] [] (zpi P)) ∧ (¬ y1 = 0 → P (2 : Int32) S3 L1)))))) : zU mX11_spareBy X S L 63 [some (.ref 72), some (.int v1), some (.int v2)] [] (zpi P) := by
  refine zi_iload_n dX11_spareBy_63 rfl rfl ?_
  refine zi_aload_n dX11_spareBy_64 rfl rfl ?_
  refine zi_geti fl_X11_192 sk72 rfl dX11_spareBy_65 ?_
  refine zi_icmp_ge (tgt := 107) dX11_spareBy_68 (by decide) (fun q9 => ?_) (fun q9 => ?_)
  · replace h := h.1 q9
    obtain ⟨x1, ex1⟩ : ∃ y : Int32, y = v1 + (1 : Int32) := ⟨_, rfl⟩
    replace h := h x1 ex1
    refine zi_iinc (v := x1) dX11_spareBy_107 rfl (by rw [ex1]; rfl) (by decide) rfl ?_
    refine zi_goto (tgt := 51) dX11_spareBy_110 (by decide) ?_
    refine zt_drop (lv' := [some (.ref 72), some (.int x1), none]) [true, true, false] rfl ?_
    exact h
  · replace h := h.2 q9
    refine zi_aload_n dX11_spareBy_71 rfl rfl ?_
    refine zi_getr fl_X11_100 sk72 rfl dX11_spareBy_72 ?_
    refine zi_iconst (v := 0) dX11_spareBy_75 (by decide) ?_
    refine zi_iload_n dX11_spareBy_76 rfl rfl ?_
    refine zi_iast sk103 h.1 dX11_spareBy_77 ?_
    replace h := h.2
    refine zt_nmS (fun S1 eS1 => ?_)
    replace h := h S1 eS1
    refine zi_aload_n dX11_spareBy_78 rfl rfl ?_
    refine zi_getr fl_X11_100 sk72 rfl dX11_spareBy_79 ?_
    refine zi_iconst (v := 1) dX11_spareBy_82 (by decide) ?_
    refine zi_iload_n dX11_spareBy_83 rfl rfl ?_
    refine zi_iast sk103 h.1 dX11_spareBy_84 ?_
    replace h := h.2
    refine zt_nmS (fun S2 eS2 => ?_)
    replace h := h S2 eS2
    refine zi_aload_n dX11_spareBy_85 rfl rfl ?_
    refine zi_iconst (v := 1) dX11_spareBy_86 (by decide) ?_
    refine zi_iload_n dX11_spareBy_87 rfl rfl ?_
    refine zi_ishl dX11_spareBy_88 ?_
    refine zi_iconst (v := 1) dX11_spareBy_89 (by decide) ?_
    refine zi_iload_n dX11_spareBy_90 rfl rfl ?_
    refine zi_ishl dX11_spareBy_91 ?_
    refine zi_ior dX11_spareBy_92 ?_
    refine zt_Vi (As := [.int (((1 : Int32) <<< (v1 &&& 31)) ||| ((1 : Int32) <<< (v2 &&& 31)))]) dX11_spareBy_93 lk_X11_314 sk72 rfl ⟨⟨by decide, by decide⟩, rfl, rfl⟩ rfl ⟨Nat.le_of_ble_eq_true rfl, rfl, rfl⟩ h (fun y1 S3 L1 h => ?_)
    refine zi_if_eq (tgt := 101) dX11_spareBy_96 (by decide) (fun q9 => ?_) (fun q9 => ?_)
    · replace h := h.1 q9
      obtain ⟨x1, ex1⟩ : ∃ y : Int32, y = v2 + (1 : Int32) := ⟨_, rfl⟩
      replace h := h x1 ex1
      refine zi_iinc (v := x1) dX11_spareBy_101 rfl (by rw [ex1]; rfl) (by decide) rfl ?_
      refine zi_goto (tgt := 63) dX11_spareBy_104 (by decide) ?_
      refine zt_drop (lv' := [some (.ref 72), some (.int v1), some (.int x1)]) [true, true, true] rfl ?_
      exact h
    · replace h := h.2 q9
      refine zi_iconst (v := 2) dX11_spareBy_99 (by decide) ?_
      exact zt_iret dX11_spareBy_100 rfl h
theorem e_X11_spareBy {S : zS} {L : zL} {P : Int32 → zS → zL → Prop} (h : ∀ X, zU mX11_spareBy X S L 0 [some (.ref 72), none, none] [] (zpi P)) : zCi mX11_spareBy S L [.ref 72] P := zCi_of pn_X11_spareBy (Nat.le_of_ble_eq_true rfl) (fun X => zt_pad (j := 2) rfl (h X))
set_option maxHeartbeats 2000000 in
theorem b_X11_spare_0 {i : Int32} {X : Nat × (Nat → Int32)} {S : zS} {L : zL} {P : Int32 → zS → zL → Prop} (h : ((((-1 : Int32) ≤ i ∧ i ≤ (1 : Int32)) → zCi mX11_spareBy S L [.ref 72] (fun y2 S1 L1 => zCi mX11_ofRow S1 L1 [.ref 72, .int y2, .int i] (fun y3 S2 L2 => P y3 S2 L2))) ∧ (¬ ((-1 : Int32) ≤ i ∧ i ≤ (1 : Int32)) → P (-2 : Int32) S L))) : zU mX11_spare X S L 0 [some (.ref 72), some (.int i)] [] (zpi P) := by
  refine zi_iload_n dX11_spare_0 rfl rfl ?_
  refine zi_iconst (v := -1) dX11_spare_1 (by decide) ?_
  refine zi_iconst (v := 1) dX11_spare_2 (by decide) ?_
  refine zt_Si (As := [.int i, .int (-1 : Int32), .int (1 : Int32)]) dX11_spare_3 lk_X11_140 ⟨⟨by decide, by decide⟩, rfl, rfl⟩ rfl ⟨Nat.le_of_ble_eq_true rfl, rfl, rfl⟩ (in_s (P := fun y S9 L9 => y = (if ((-1 : Int32) ≤ i ∧ i ≤ (1 : Int32)) then (1 : Int32) else 0) ∧ S = S9 ∧ L = L9) ⟨rfl, rfl, rfl⟩) (fun y1 S9 L9 q9 => ?_)
  obtain ⟨ey1, rfl, rfl⟩ := q9
  by_cases q9 : ((-1 : Int32) ≤ i ∧ i ≤ (1 : Int32))
  · replace h := h.1 q9
    rw [if_pos q9] at ey1
    subst ey1
    refine zi_if_eq (tgt := 21) dX11_spare_6 (by decide) (fun z9 => absurd z9 (by decide)) (fun _ => ?_)
    refine zi_aload_n dX11_spare_9 rfl rfl ?_
    refine zi_aload_n dX11_spare_10 rfl rfl ?_
    refine zt_Vi (As := []) dX11_spare_11 lk_X11_317 sk72 rfl ⟨⟨by decide, by decide⟩, rfl, rfl⟩ rfl ⟨Nat.le_of_ble_eq_true rfl, rfl, rfl⟩ h (fun y2 S1 L1 h => ?_)
    refine zi_iload_n dX11_spare_14 rfl rfl ?_
    refine zt_Vi (As := [.int y2, .int i]) dX11_spare_15 lk_X11_308 sk72 rfl ⟨⟨by decide, by decide⟩, rfl, rfl⟩ rfl ⟨Nat.le_of_ble_eq_true rfl, rfl, rfl⟩ h (fun y3 S2 L2 h => ?_)
    refine zi_goto (tgt := 23) dX11_spare_18 (by decide) ?_
    exact zt_iret dX11_spare_23 rfl h
  · replace h := h.2 q9
    rw [if_neg q9] at ey1
    subst ey1
    refine zi_if_eq (tgt := 21) dX11_spare_6 (by decide) (fun _ => ?_) (fun z9 => absurd rfl z9)
    refine zi_bipush (v := -2) dX11_spare_21 (by decide) ?_
    exact zt_iret dX11_spare_23 rfl h
theorem e_X11_spare {i : Int32} {S : zS} {L : zL} {P : Int32 → zS → zL → Prop} (h : ∀ X, zU mX11_spare X S L 0 [some (.ref 72), some (.int i)] [] (zpi P)) : zCi mX11_spare S L [.ref 72, .int i] P := zCi_of pn_X11_spare (Nat.le_of_ble_eq_true rfl) (fun X => zt_pad (j := 0) rfl (h X))
set_option maxHeartbeats 2000000 in
theorem b_X11_homeOf_0 {p : Int32} {what : Int32} {X : Nat × (Nat → Int32)} {S : zS} {L : zL} {P : Int32 → zS → zL → Prop} (h : zCv mX11_asTold S L [.ref 72] (fun S1 L1 => vp_in p 9 ∧ ∀ x1 : Int32, x1 = (S1 76 p.toNatClampNeg) → zU mX11_homeOf X S1 L1 20 [some (.ref 72), some (.int p), some (.int what), some (.int x1), some (.int (-1 : Int32)), some (.int (-1 : Int32)), some (.int (0 : Int32))] [] (zpi P))) : zU mX11_homeOf X S L 0 [some (.ref 72), some (.int p), some (.int what), none, none, none, none] [] (zpi P) := by
  refine zi_aload_n dX11_homeOf_0 rfl rfl ?_
  refine zt_Vv (As := []) dX11_homeOf_1 lk_X11_266 sk72 rfl ⟨⟨by decide, by decide⟩, rfl, rfl⟩ rfl ⟨Nat.le_of_ble_eq_true rfl, rfl, rfl⟩ h (fun S1 L1 h => ?_)
  refine zi_aload_n dX11_homeOf_4 rfl rfl ?_
  refine zi_getr fl_X11_19 sk72 rfl dX11_homeOf_5 ?_
  refine zi_iload_n dX11_homeOf_8 rfl rfl ?_
  refine zi_iald sk76 h.1 dX11_homeOf_9 ?_
  replace h := h.2
  refine zt_nmi (fun x1 ex1 => ?_)
  replace h := h x1 ex1
  refine zi_istore_n dX11_homeOf_10 rfl (by decide) rfl ?_
  refine zi_iconst (v := -1) dX11_homeOf_11 (by decide) ?_
  refine zi_istore dX11_homeOf_12 (by decide) rfl ?_
  refine zi_iconst (v := -1) dX11_homeOf_14 (by decide) ?_
  refine zi_istore dX11_homeOf_15 (by decide) rfl ?_
  refine zi_iconst (v := 0) dX11_homeOf_17 (by decide) ?_
  refine zi_istore dX11_homeOf_18 (by decide) rfl ?_
  refine zt_drop (lv' := [some (.ref 72), some (.int p), some (.int what), some (.int x1), some (.int (-1 : Int32)), some (.int (-1 : Int32)), some (.int (0 : Int32))]) [true, true, true, true, true, true, true] rfl ?_
  exact h
set_option maxHeartbeats 2000000 in
theorem b_X11_homeOf_20 {v1 : Int32} {v2 : Int32} {v3 : Int32} {v4 : Int32} {v5 : Int32} {v6 : Int32} {X : Nat × (Nat → Int32)} {S : zS} {L : zL} {P : Int32 → zS → zL → Prop} (h : (((4 : Int32) ≤ v6 → vp_in v1 9 ∧ ∀ S1 : zS, S1 = zc S 76 (upd (S 76) v1.toNatClampNeg v3) → ((¬ v2 = 0 → P v5 S1 L) ∧ (v2 = 0 → P v4 S1 L))) ∧ (¬ (4 : Int32) ≤ v6 → vp_in v1 9 ∧ ∀ S1 : zS, S1 = zc S 76 (upd (S 76) v1.toNatClampNeg v6) → zCv mX11_runs S1 L [.ref 72] (fun S2 L1 => vp_in v1 8 ∧ (((S2 91 v1.toNatClampNeg) ≤ v5 → zU mX11_homeOf X S2 L1 56 [some (.ref 72), some (.int v1), some (.int v2), some (.int v3), none, some (.int v5), some (.int v6)] [.int v4] (zpi P)) ∧ (¬ (S2 91 v1.toNatClampNeg) ≤ v5 → zU mX11_homeOf X S2 L1 56 [some (.ref 72), some (.int v1), some (.int v2), some (.int v3), none, some (.int v5), some (.int v6)] [.int v6] (zpi P))))))) : zU mX11_homeOf X S L 20 [some (.ref 72), some (.int v1), some (.int v2), some (.int v3), some (.int v4), some (.int v5), some (.int v6)] [] (zpi P) := by
  refine zi_iload dX11_homeOf_20 rfl ?_
  refine zi_iconst (v := 4) dX11_homeOf_22 (by decide) ?_
  refine zi_icmp_ge (tgt := 88) dX11_homeOf_23 (by decide) (fun q9 => ?_) (fun q9 => ?_)
  · replace h := h.1 q9
    refine zi_aload_n dX11_homeOf_88 rfl rfl ?_
    refine zi_getr fl_X11_19 sk72 rfl dX11_homeOf_89 ?_
    refine zi_iload_n dX11_homeOf_92 rfl rfl ?_
    refine zi_iload_n dX11_homeOf_93 rfl rfl ?_
    refine zi_iast sk76 h.1 dX11_homeOf_94 ?_
    replace h := h.2
    refine zt_nmS (fun S1 eS1 => ?_)
    replace h := h S1 eS1
    refine zi_iload_n dX11_homeOf_95 rfl rfl ?_
    refine zi_if_ne (tgt := 104) dX11_homeOf_96 (by decide) (fun q9 => ?_) (fun q9 => ?_)
    · replace h := h.1 q9
      refine zi_iload dX11_homeOf_104 rfl ?_
      exact zt_iret dX11_homeOf_106 rfl h
    · replace h := h.2 q9
      refine zi_iload dX11_homeOf_99 rfl ?_
      refine zi_goto (tgt := 106) dX11_homeOf_101 (by decide) ?_
      exact zt_iret dX11_homeOf_106 rfl h
  · replace h := h.2 q9
    refine zi_aload_n dX11_homeOf_26 rfl rfl ?_
    refine zi_getr fl_X11_19 sk72 rfl dX11_homeOf_27 ?_
    refine zi_iload_n dX11_homeOf_30 rfl rfl ?_
    refine zi_iload dX11_homeOf_31 rfl ?_
    refine zi_iast sk76 h.1 dX11_homeOf_33 ?_
    replace h := h.2
    refine zt_nmS (fun S1 eS1 => ?_)
    replace h := h S1 eS1
    refine zi_aload_n dX11_homeOf_34 rfl rfl ?_
    refine zt_Vv (As := []) dX11_homeOf_35 lk_X11_269 sk72 rfl ⟨⟨by decide, by decide⟩, rfl, rfl⟩ rfl ⟨Nat.le_of_ble_eq_true rfl, rfl, rfl⟩ h (fun S2 L1 h => ?_)
    refine zi_aload_n dX11_homeOf_38 rfl rfl ?_
    refine zi_getr fl_X11_64 sk72 rfl dX11_homeOf_39 ?_
    refine zi_iload_n dX11_homeOf_42 rfl rfl ?_
    refine zi_iald sk91 h.1 dX11_homeOf_43 ?_
    replace h := h.2
    refine zi_iload dX11_homeOf_44 rfl ?_
    refine zi_icmp_le (tgt := 54) dX11_homeOf_46 (by decide) (fun q9 => ?_) (fun q9 => ?_)
    · replace h := h.1 q9
      refine zi_iload dX11_homeOf_54 rfl ?_
      refine zt_drop (lv' := [some (.ref 72), some (.int v1), some (.int v2), some (.int v3), none, some (.int v5), some (.int v6)]) [true, true, true, true, false, true, true] rfl ?_
      exact h
    · replace h := h.2 q9
      refine zi_iload dX11_homeOf_49 rfl ?_
      refine zi_goto (tgt := 56) dX11_homeOf_51 (by decide) ?_
      refine zt_drop (lv' := [some (.ref 72), some (.int v1), some (.int v2), some (.int v3), none, some (.int v5), some (.int v6)]) [true, true, true, true, false, true, true] rfl ?_
      exact h
set_option maxHeartbeats 2000000 in
theorem b_X11_homeOf_56 {v1 : Int32} {v2 : Int32} {v3 : Int32} {v5 : Int32} {v6 : Int32} {w0 : Int32} {X : Nat × (Nat → Int32)} {S : zS} {L : zL} {P : Int32 → zS → zL → Prop} (h : vp_in v1 8 ∧ (((S 91 v1.toNatClampNeg) ≤ v5 → ∀ x1 : Int32, x1 = v6 + (1 : Int32) → zU mX11_homeOf X S L 20 [some (.ref 72), some (.int v1), some (.int v2), some (.int v3), some (.int w0), some (.int v5), some (.int x1)] [] (zpi P)) ∧ (¬ (S 91 v1.toNatClampNeg) ≤ v5 → vp_in v1 8 ∧ ∀ x1 : Int32, x1 = (S 91 v1.toNatClampNeg) → ∀ x2 : Int32, x2 = v6 + (1 : Int32) → zU mX11_homeOf X S L 20 [some (.ref 72), some (.int v1), some (.int v2), some (.int v3), some (.int w0), some (.int x1), some (.int x2)] [] (zpi P)))) : zU mX11_homeOf X S L 56 [some (.ref 72), some (.int v1), some (.int v2), some (.int v3), none, some (.int v5), some (.int v6)] [.int w0] (zpi P) := by
  refine zi_istore dX11_homeOf_56 (by decide) rfl ?_
  refine zi_aload_n dX11_homeOf_58 rfl rfl ?_
  refine zi_getr fl_X11_64 sk72 rfl dX11_homeOf_59 ?_
  refine zi_iload_n dX11_homeOf_62 rfl rfl ?_
  refine zi_iald sk91 h.1 dX11_homeOf_63 ?_
  replace h := h.2
  refine zi_iload dX11_homeOf_64 rfl ?_
  refine zi_icmp_le (tgt := 78) dX11_homeOf_66 (by decide) (fun q9 => ?_) (fun q9 => ?_)
  · replace h := h.1 q9
    refine zi_iload dX11_homeOf_78 rfl ?_
    refine zi_istore dX11_homeOf_80 (by decide) rfl ?_
    obtain ⟨x1, ex1⟩ : ∃ y : Int32, y = v6 + (1 : Int32) := ⟨_, rfl⟩
    replace h := h x1 ex1
    refine zi_iinc (v := x1) dX11_homeOf_82 rfl (by rw [ex1]; rfl) (by decide) rfl ?_
    refine zi_goto (tgt := 20) dX11_homeOf_85 (by decide) ?_
    refine zt_drop (lv' := [some (.ref 72), some (.int v1), some (.int v2), some (.int v3), some (.int w0), some (.int v5), some (.int x1)]) [true, true, true, true, true, true, true] rfl ?_
    exact h
  · replace h := h.2 q9
    refine zi_aload_n dX11_homeOf_69 rfl rfl ?_
    refine zi_getr fl_X11_64 sk72 rfl dX11_homeOf_70 ?_
    refine zi_iload_n dX11_homeOf_73 rfl rfl ?_
    refine zi_iald sk91 h.1 dX11_homeOf_74 ?_
    replace h := h.2
    refine zi_goto (tgt := 80) dX11_homeOf_75 (by decide) ?_
    refine zt_nmi (fun x1 ex1 => ?_)
    replace h := h x1 ex1
    refine zi_istore dX11_homeOf_80 (by decide) rfl ?_
    obtain ⟨x2, ex2⟩ : ∃ y : Int32, y = v6 + (1 : Int32) := ⟨_, rfl⟩
    replace h := h x2 ex2
    refine zi_iinc (v := x2) dX11_homeOf_82 rfl (by rw [ex2]; rfl) (by decide) rfl ?_
    refine zi_goto (tgt := 20) dX11_homeOf_85 (by decide) ?_
    refine zt_drop (lv' := [some (.ref 72), some (.int v1), some (.int v2), some (.int v3), some (.int w0), some (.int x1), some (.int x2)]) [true, true, true, true, true, true, true] rfl ?_
    exact h
theorem e_X11_homeOf {p : Int32} {what : Int32} {S : zS} {L : zL} {P : Int32 → zS → zL → Prop} (h : ∀ X, zU mX11_homeOf X S L 0 [some (.ref 72), some (.int p), some (.int what), none, none, none, none] [] (zpi P)) : zCi mX11_homeOf S L [.ref 72, .int p, .int what] P := zCi_of pn_X11_homeOf (Nat.le_of_ble_eq_true rfl) (fun X => zt_pad (j := 4) rfl (h X))
set_option maxHeartbeats 2000000 in
theorem b_X11_home_0 {p : Int32} {what : Int32} {X : Nat × (Nat → Int32)} {S : zS} {L : zL} {P : Int32 → zS → zL → Prop} (h : zCi mX11_isPerson S L [.ref 72, .int p] (fun y1 S1 L1 => ((y1 = 0 → P (-2 : Int32) S1 L1) ∧ (¬ y1 = 0 → ((((0 : Int32) ≤ what ∧ what ≤ (1 : Int32)) → zCi mX11_homeOf S1 L1 [.ref 72, .int p, .int what] (fun y3 S2 L2 => P y3 S2 L2)) ∧ (¬ ((0 : Int32) ≤ what ∧ what ≤ (1 : Int32)) → P (-2 : Int32) S1 L1)))))) : zU mX11_home X S L 0 [some (.ref 72), some (.int p), some (.int what)] [] (zpi P) := by
  refine zi_aload_n dX11_home_0 rfl rfl ?_
  refine zi_iload_n dX11_home_1 rfl rfl ?_
  refine zt_Vi (As := [.int p]) dX11_home_2 lk_X11_174 sk72 rfl ⟨⟨by decide, by decide⟩, rfl, rfl⟩ rfl ⟨Nat.le_of_ble_eq_true rfl, rfl, rfl⟩ h (fun y1 S1 L1 h => ?_)
  refine zi_if_eq (tgt := 26) dX11_home_5 (by decide) (fun q9 => ?_) (fun q9 => ?_)
  · replace h := h.1 q9
    refine zi_bipush (v := -2) dX11_home_26 (by decide) ?_
    exact zt_iret dX11_home_28 rfl h
  · replace h := h.2 q9
    refine zi_iload_n dX11_home_8 rfl rfl ?_
    refine zi_iconst (v := 0) dX11_home_9 (by decide) ?_
    refine zi_iconst (v := 1) dX11_home_10 (by decide) ?_
    refine zt_Si (As := [.int what, .int (0 : Int32), .int (1 : Int32)]) dX11_home_11 lk_X11_140 ⟨⟨by decide, by decide⟩, rfl, rfl⟩ rfl ⟨Nat.le_of_ble_eq_true rfl, rfl, rfl⟩ (in_s (P := fun y S9 L9 => y = (if ((0 : Int32) ≤ what ∧ what ≤ (1 : Int32)) then (1 : Int32) else 0) ∧ S1 = S9 ∧ L1 = L9) ⟨rfl, rfl, rfl⟩) (fun y2 S9 L9 q9 => ?_)
    obtain ⟨ey2, rfl, rfl⟩ := q9
    by_cases q9 : ((0 : Int32) ≤ what ∧ what ≤ (1 : Int32))
    · replace h := h.1 q9
      rw [if_pos q9] at ey2
      subst ey2
      refine zi_if_eq (tgt := 26) dX11_home_14 (by decide) (fun z9 => absurd z9 (by decide)) (fun _ => ?_)
      refine zi_aload_n dX11_home_17 rfl rfl ?_
      refine zi_iload_n dX11_home_18 rfl rfl ?_
      refine zi_iload_n dX11_home_19 rfl rfl ?_
      refine zt_Vi (As := [.int p, .int what]) dX11_home_20 lk_X11_320 sk72 rfl ⟨⟨by decide, by decide⟩, rfl, rfl⟩ rfl ⟨Nat.le_of_ble_eq_true rfl, rfl, rfl⟩ h (fun y3 S2 L2 h => ?_)
      refine zi_goto (tgt := 28) dX11_home_23 (by decide) ?_
      exact zt_iret dX11_home_28 rfl h
    · replace h := h.2 q9
      rw [if_neg q9] at ey2
      subst ey2
      refine zi_if_eq (tgt := 26) dX11_home_14 (by decide) (fun _ => ?_) (fun z9 => absurd rfl z9)
      refine zi_bipush (v := -2) dX11_home_26 (by decide) ?_
      exact zt_iret dX11_home_28 rfl h
theorem e_X11_home {p : Int32} {what : Int32} {S : zS} {L : zL} {P : Int32 → zS → zL → Prop} (h : ∀ X, zU mX11_home X S L 0 [some (.ref 72), some (.int p), some (.int what)] [] (zpi P)) : zCi mX11_home S L [.ref 72, .int p, .int what] P := zCi_of pn_X11_home (Nat.le_of_ble_eq_true rfl) (fun X => zt_pad (j := 0) rfl (h X))
