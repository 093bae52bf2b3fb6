set_option maxHeartbeats 2000000 in
theorem b_X11_byteAt_0 {t : Int32} {k : Int32} {X : Nat × (Nat → Int32)} {S : zS} {L : zL} {P : Int32 → zS → zL → Prop} (h : vp_in t 2 ∧ (((S 73 t.toNatClampNeg) ≤ k → P (-1 : Int32) S L) ∧ (¬ (S 73 t.toNatClampNeg) ≤ k → vp_in (((39 : Int32) * t) + k) 78 ∧ P (S 74 (((39 : Int32) * t) + k).toNatClampNeg) S L))) : zU mX11_byteAt X S L 0 [some (.ref 72), some (.int t), some (.int k)] [] (zpi P) := by
  refine zi_iload_n dX11_byteAt_0 rfl rfl ?_
  refine zi_aload_n dX11_byteAt_1 rfl rfl ?_
  refine zi_getr fl_X11_7 sk72 rfl dX11_byteAt_2 ?_
  refine zi_iload_n dX11_byteAt_5 rfl rfl ?_
  refine zi_iald sk73 h.1 dX11_byteAt_6 ?_
  replace h := h.2
  refine zi_icmp_ge (tgt := 24) dX11_byteAt_7 (by decide) (fun q9 => ?_) (fun q9 => ?_)
  · replace h := h.1 q9
    refine zi_iconst (v := -1) dX11_byteAt_24 (by decide) ?_
    exact zt_iret dX11_byteAt_25 rfl h
  · replace h := h.2 q9
    refine zi_aload_n dX11_byteAt_10 rfl rfl ?_
    refine zi_getr fl_X11_13 sk72 rfl dX11_byteAt_11 ?_
    refine zi_bipush (v := 39) dX11_byteAt_14 (by decide) ?_
    refine zi_iload_n dX11_byteAt_16 rfl rfl ?_
    refine zi_imul dX11_byteAt_17 ?_
    refine zi_iload_n dX11_byteAt_18 rfl rfl ?_
    refine zi_iadd dX11_byteAt_19 ?_
    refine zi_iald sk74 h.1 dX11_byteAt_20 ?_
    replace h := h.2
    refine zi_goto (tgt := 25) dX11_byteAt_21 (by decide) ?_
    exact zt_iret dX11_byteAt_25 rfl h
theorem e_X11_byteAt {t : Int32} {k : Int32} {S : zS} {L : zL} {P : Int32 → zS → zL → Prop} (h : ∀ X, zU mX11_byteAt X S L 0 [some (.ref 72), some (.int t), some (.int k)] [] (zpi P)) : zCi mX11_byteAt S L [.ref 72, .int t, .int k] P := zCi_of pn_X11_byteAt (Nat.le_of_ble_eq_true rfl) (fun X => zt_pad (j := 0) rfl (h X))
set_option maxHeartbeats 2000000 in
theorem b_X11_readsPerson_0 {n : Int32} {at0 : Int32} {X : Nat × (Nat → Int32)} {S : zS} {L : zL} {P : Int32 → zS → zL → Prop} (h : zCi mX11_byteAt S L [.ref 72, .int (0 : Int32), .int at0] (fun y1 S1 L1 => ((¬ y1 = (102 : Int32) → ((¬ y1 = (99 : Int32) → ((¬ y1 = (104 : Int32) → zU mX11_readsPerson X S1 L1 38 [some (.ref 72), some (.int n), some (.int at0), none, none, none, none] [.int (-1 : Int32)] (zpi P)) ∧ (y1 = (104 : Int32) → zU mX11_readsPerson X S1 L1 38 [some (.ref 72), some (.int n), some (.int at0), none, none, none, none] [.int (2 : Int32)] (zpi P)))) ∧ (y1 = (99 : Int32) → zU mX11_readsPerson X S1 L1 38 [some (.ref 72), some (.int n), some (.int at0), none, none, none, none] [.int (1 : Int32)] (zpi P)))) ∧ (y1 = (102 : Int32) → zU mX11_readsPerson X S1 L1 38 [some (.ref 72), some (.int n), some (.int at0), none, none, none, none] [.int (0 : Int32)] (zpi P))))) : zU mX11_readsPerson X S L 0 [some (.ref 72), some (.int n), some (.int at0), none, none, none, none] [] (zpi P) := by
  refine zi_aload_n dX11_readsPerson_0 rfl rfl ?_
  refine zi_iconst (v := 0) dX11_readsPerson_1 (by decide) ?_
  refine zi_iload_n dX11_readsPerson_2 rfl rfl ?_
  refine zt_Vi (As := [.int (0 : Int32), .int at0]) dX11_readsPerson_3 lk_X11_148 sk72 rfl ⟨⟨by decide, by decide⟩, rfl, rfl⟩ rfl ⟨Nat.le_of_ble_eq_true rfl, rfl, rfl⟩ h (fun y1 S1 L1 h => ?_)
  refine zi_istore_n dX11_readsPerson_6 rfl (by decide) rfl ?_
  refine zi_iload_n dX11_readsPerson_7 rfl rfl ?_
  refine zi_bipush (v := 102) dX11_readsPerson_8 (by decide) ?_
  refine zi_icmp_ne (tgt := 17) dX11_readsPerson_10 (by decide) (fun q9 => ?_) (fun q9 => ?_)
  · replace h := h.1 q9
    refine zi_iload_n dX11_readsPerson_17 rfl rfl ?_
    refine zi_bipush (v := 99) dX11_readsPerson_18 (by decide) ?_
    refine zi_icmp_ne (tgt := 27) dX11_readsPerson_20 (by decide) (fun q9 => ?_) (fun q9 => ?_)
    · replace h := h.1 q9
      refine zi_iload_n dX11_readsPerson_27 rfl rfl ?_
      refine zi_bipush (v := 104) dX11_readsPerson_28 (by decide) ?_
      refine zi_icmp_ne (tgt := 37) dX11_readsPerson_30 (by decide) (fun q9 => ?_) (fun q9 => ?_)
      · replace h := h.1 q9
        refine zi_iconst (v := -1) dX11_readsPerson_37 (by decide) ?_
        refine zt_drop (lv' := [some (.ref 72), some (.int n), some (.int at0), none, none, none, none]) [true, true, true, false, false, false, false] rfl ?_
        exact h
      · replace h := h.2 q9
        refine zi_iconst (v := 2) dX11_readsPerson_33 (by decide) ?_
        refine zi_goto (tgt := 38) dX11_readsPerson_34 (by decide) ?_
        refine zt_drop (lv' := [some (.ref 72), some (.int n), some (.int at0), none, none, none, none]) [true, true, true, false, false, false, false] rfl ?_
        exact h
    · replace h := h.2 q9
      refine zi_iconst (v := 1) dX11_readsPerson_23 (by decide) ?_
      refine zi_goto (tgt := 38) dX11_readsPerson_24 (by decide) ?_
      refine zt_drop (lv' := [some (.ref 72), some (.int n), some (.int at0), none, none, none, none]) [true, true, true, false, false, false, false] rfl ?_
      exact h
  · replace h := h.2 q9
    refine zi_iconst (v := 0) dX11_readsPerson_13 (by decide) ?_
    refine zi_goto (tgt := 38) dX11_readsPerson_14 (by decide) ?_
    refine zt_drop (lv' := [some (.ref 72), some (.int n), some (.int at0), none, none, none, none]) [true, true, true, false, false, false, false] rfl ?_
    exact h
set_option maxHeartbeats 2000000 in
theorem b_X11_readsPerson_38 {v1 : Int32} {v2 : Int32} {w0 : Int32} {X : Nat × (Nat → Int32)} {S : zS} {L : zL} {P : Int32 → zS → zL → Prop} (h : zCi mX11_byteAt S L [.ref 72, .int (0 : Int32), .int (v2 + (1 : Int32))] (fun y1 S1 L1 => ∀ x1 : Int32, x1 = (y1 - (48 : Int32)) → zCi mX11_byteAt S1 L1 [.ref 72, .int (0 : Int32), .int (v2 + (2 : Int32))] (fun y2 S2 L2 => ∀ x2 : Int32, x2 = (y2 - (48 : Int32)) → ((¬ w0 = (-1 : Int32) → ((((0 : Int32) ≤ x1 ∧ x1 ≤ (3 : Int32)) → ((((0 : Int32) ≤ x2 ∧ x2 ≤ (9 : Int32)) → vp_in v1 9 ∧ ∀ S3 : zS, S3 = zc S2 75 (upd (S2 75) v1.toNatClampNeg w0) → vp_in v1 9 ∧ ∀ S4 : zS, S4 = zc S3 76 (upd (S3 76) v1.toNatClampNeg x1) → vp_in v1 9 ∧ ∀ S5 : zS, S5 = zc S4 77 (upd (S4 77) v1.toNatClampNeg x2) → P (3 : Int32) S5 L2) ∧ (¬ ((0 : Int32) ≤ x2 ∧ x2 ≤ (9 : Int32)) → P (2 : Int32) S2 L2))) ∧ (¬ ((0 : Int32) ≤ x1 ∧ x1 ≤ (3 : Int32)) → P (1 : Int32) S2 L2))) ∧ (w0 = (-1 : Int32) → P (0 : Int32) S2 L2))))) : zU mX11_readsPerson X S L 38 [some (.ref 72), some (.int v1), some (.int v2), none, none, none, none] [.int w0] (zpi P) := by
  refine zi_istore dX11_readsPerson_38 (by decide) rfl ?_
  refine zi_aload_n dX11_readsPerson_40 rfl rfl ?_
  refine zi_iconst (v := 0) dX11_readsPerson_41 (by decide) ?_
  refine zi_iload_n dX11_readsPerson_42 rfl rfl ?_
  refine zi_iconst (v := 1) dX11_readsPerson_43 (by decide) ?_
  refine zi_iadd dX11_readsPerson_44 ?_
  refine zt_Vi (As := [.int (0 : Int32), .int (v2 + (1 : Int32))]) dX11_readsPerson_45 lk_X11_148 sk72 rfl ⟨⟨by decide, by decide⟩, rfl, rfl⟩ rfl ⟨Nat.le_of_ble_eq_true rfl, rfl, rfl⟩ h (fun y1 S1 L1 h => ?_)
  refine zi_bipush (v := 48) dX11_readsPerson_48 (by decide) ?_
  refine zi_isub dX11_readsPerson_50 ?_
  refine zt_nmi (fun x1 ex1 => ?_)
  replace h := h x1 ex1
  refine zi_istore dX11_readsPerson_51 (by decide) rfl ?_
  refine zi_aload_n dX11_readsPerson_53 rfl rfl ?_
  refine zi_iconst (v := 0) dX11_readsPerson_54 (by decide) ?_
  refine zi_iload_n dX11_readsPerson_55 rfl rfl ?_
  refine zi_iconst (v := 2) dX11_readsPerson_56 (by decide) ?_
  refine zi_iadd dX11_readsPerson_57 ?_
  refine zt_Vi (As := [.int (0 : Int32), .int (v2 + (2 : Int32))]) dX11_readsPerson_58 lk_X11_148 sk72 rfl ⟨⟨by decide, by decide⟩, rfl, rfl⟩ rfl ⟨Nat.le_of_ble_eq_true rfl, rfl, rfl⟩ h (fun y2 S2 L2 h => ?_)
  refine zi_bipush (v := 48) dX11_readsPerson_61 (by decide) ?_
  refine zi_isub dX11_readsPerson_63 ?_
  refine zt_nmi (fun x2 ex2 => ?_)
  replace h := h x2 ex2
  refine zi_istore dX11_readsPerson_64 (by decide) rfl ?_
  refine zi_iload dX11_readsPerson_66 rfl ?_
  refine zi_iconst (v := -1) dX11_readsPerson_68 (by decide) ?_
  refine zi_icmp_ne (tgt := 74) dX11_readsPerson_69 (by decide) (fun q9 => ?_) (fun q9 => ?_)
  · replace h := h.1 q9
    refine zi_iload dX11_readsPerson_74 rfl ?_
    refine zi_iconst (v := 0) dX11_readsPerson_76 (by decide) ?_
    refine zi_iconst (v := 3) dX11_readsPerson_77 (by decide) ?_
    refine zt_Si (As := [.int x1, .int (0 : Int32), .int (3 : Int32)]) dX11_readsPerson_78 lk_X11_140 ⟨⟨by decide, by decide⟩, rfl, rfl⟩ rfl ⟨Nat.le_of_ble_eq_true rfl, rfl, rfl⟩ (in_s (P := fun y S9 L9 => y = (if ((0 : Int32) ≤ x1 ∧ x1 ≤ (3 : Int32)) then (1 : Int32) else 0) ∧ S2 = S9 ∧ L2 = L9) ⟨rfl, rfl, rfl⟩) (fun y3 S9 L9 q9 => ?_)
    obtain ⟨ey3, rfl, rfl⟩ := q9
    by_cases q9 : ((0 : Int32) ≤ x1 ∧ x1 ≤ (3 : Int32))
    · replace h := h.1 q9
      rw [if_pos q9] at ey3
      subst ey3
      refine zi_if_ne (tgt := 86) dX11_readsPerson_81 (by decide) (fun _ => ?_) (fun z9 => absurd z9 (by decide))
      refine zi_iload dX11_readsPerson_86 rfl ?_
      refine zi_iconst (v := 0) dX11_readsPerson_88 (by decide) ?_
      refine zi_bipush (v := 9) dX11_readsPerson_89 (by decide) ?_
      refine zt_Si (As := [.int x2, .int (0 : Int32), .int (9 : Int32)]) dX11_readsPerson_91 lk_X11_140 ⟨⟨by decide, by decide⟩, rfl, rfl⟩ rfl ⟨Nat.le_of_ble_eq_true rfl, rfl, rfl⟩ (in_s (P := fun y S9 L9 => y = (if ((0 : Int32) ≤ x2 ∧ x2 ≤ (9 : Int32)) then (1 : Int32) else 0) ∧ S2 = S9 ∧ L2 = L9) ⟨rfl, rfl, rfl⟩) (fun y4 S9 L9 q9 => ?_)
      obtain ⟨ey4, rfl, rfl⟩ := q9
      by_cases q9 : ((0 : Int32) ≤ x2 ∧ x2 ≤ (9 : Int32))
      · replace h := h.1 q9
        rw [if_pos q9] at ey4
        subst ey4
        refine zi_if_ne (tgt := 99) dX11_readsPerson_94 (by decide) (fun _ => ?_) (fun z9 => absurd z9 (by decide))
        refine zi_aload_n dX11_readsPerson_99 rfl rfl ?_
        refine zi_getr fl_X11_16 sk72 rfl dX11_readsPerson_100 ?_
        refine zi_iload_n dX11_readsPerson_103 rfl rfl ?_
        refine zi_iload dX11_readsPerson_104 rfl ?_
        refine zi_iast sk75 h.1 dX11_readsPerson_106 ?_
        replace h := h.2
        refine zt_nmS (fun S3 eS3 => ?_)
        replace h := h S3 eS3
        refine zi_aload_n dX11_readsPerson_107 rfl rfl ?_
        refine zi_getr fl_X11_19 sk72 rfl dX11_readsPerson_108 ?_
        refine zi_iload_n dX11_readsPerson_111 rfl rfl ?_
        refine zi_iload dX11_readsPerson_112 rfl ?_
        refine zi_iast sk76 h.1 dX11_readsPerson_114 ?_
        replace h := h.2
        refine zt_nmS (fun S4 eS4 => ?_)
        replace h := h S4 eS4
        refine zi_aload_n dX11_readsPerson_115 rfl rfl ?_
        refine zi_getr fl_X11_22 sk72 rfl dX11_readsPerson_116 ?_
        refine zi_iload_n dX11_readsPerson_119 rfl rfl ?_
        refine zi_iload dX11_readsPerson_120 rfl ?_
        refine zi_iast sk77 h.1 dX11_readsPerson_122 ?_
        replace h := h.2
        refine zt_nmS (fun S5 eS5 => ?_)
        replace h := h S5 eS5
        refine zi_iconst (v := 3) dX11_readsPerson_123 (by decide) ?_
        exact zt_iret dX11_readsPerson_124 rfl h
      · replace h := h.2 q9
        rw [if_neg q9] at ey4
        subst ey4
        refine zi_if_ne (tgt := 99) dX11_readsPerson_94 (by decide) (fun z9 => absurd rfl z9) (fun _ => ?_)
        refine zi_iconst (v := 2) dX11_readsPerson_97 (by decide) ?_
        exact zt_iret dX11_readsPerson_98 rfl h
    · replace h := h.2 q9
      rw [if_neg q9] at ey3
      subst ey3
      refine zi_if_ne (tgt := 86) dX11_readsPerson_81 (by decide) (fun z9 => absurd rfl z9) (fun _ => ?_)
      refine zi_iconst (v := 1) dX11_readsPerson_84 (by decide) ?_
      exact zt_iret dX11_readsPerson_85 rfl h
  · replace h := h.2 q9
    refine zi_iconst (v := 0) dX11_readsPerson_72 (by decide) ?_
    exact zt_iret dX11_readsPerson_73 rfl h
theorem e_X11_readsPerson {n : Int32} {at0 : Int32} {S : zS} {L : zL} {P : Int32 → zS → zL → Prop} (h : ∀ X, zU mX11_readsPerson X S L 0 [some (.ref 72), some (.int n), some (.int at0), none, none, none, none] [] (zpi P)) : zCi mX11_readsPerson S L [.ref 72, .int n, .int at0] P := zCi_of pn_X11_readsPerson (Nat.le_of_ble_eq_true rfl) (fun X => zt_pad (j := 4) rfl (h X))
set_option maxHeartbeats 2000000 in
theorem b_X11_readsDeed_0 {n : Int32} {at0 : Int32} {X : Nat × (Nat → Int32)} {S : zS} {L : zL} {P : Int32 → zS → zL → Prop} (h : zCi mX11_byteAt S L [.ref 72, .int (1 : Int32), .int at0] (fun y1 S1 L1 => ∀ x1 : Int32, x1 = (y1 - (97 : Int32)) → zCi mX11_byteAt S1 L1 [.ref 72, .int (1 : Int32), .int (at0 + (1 : Int32))] (fun y2 S2 L2 => ∀ x2 : Int32, x2 = (y2 - (48 : Int32)) → zCi mX11_byteAt S2 L2 [.ref 72, .int (1 : Int32), .int (at0 + (2 : Int32))] (fun y3 S3 L3 => ((¬ y3 = (108 : Int32) → ((¬ y3 = (101 : Int32) → ((¬ y3 = (116 : Int32) → ((¬ y3 = (109 : Int32) → zU mX11_readsDeed X S3 L3 78 [some (.ref 72), some (.int n), none, some (.int x1), some (.int x2), none, none] [.int (-1 : Int32)] (zpi P)) ∧ (y3 = (109 : Int32) → zU mX11_readsDeed X S3 L3 78 [some (.ref 72), some (.int n), none, some (.int x1), some (.int x2), none, none] [.int (3 : Int32)] (zpi P)))) ∧ (y3 = (116 : Int32) → zU mX11_readsDeed X S3 L3 78 [some (.ref 72), some (.int n), none, some (.int x1), some (.int x2), none, none] [.int (2 : Int32)] (zpi P)))) ∧ (y3 = (101 : Int32) → zU mX11_readsDeed X S3 L3 78 [some (.ref 72), some (.int n), none, some (.int x1), some (.int x2), none, none] [.int (1 : Int32)] (zpi P)))) ∧ (y3 = (108 : Int32) → zU mX11_readsDeed X S3 L3 78 [some (.ref 72), some (.int n), none, some (.int x1), some (.int x2), none, none] [.int (0 : Int32)] (zpi P))))))) : zU mX11_readsDeed X S L 0 [some (.ref 72), some (.int n), some (.int at0), none, none, none, none] [] (zpi P) := by
  refine zi_aload_n dX11_readsDeed_0 rfl rfl ?_
  refine zi_iconst (v := 1) dX11_readsDeed_1 (by decide) ?_
  refine zi_iload_n dX11_readsDeed_2 rfl rfl ?_
  refine zt_Vi (As := [.int (1 : Int32), .int at0]) dX11_readsDeed_3 lk_X11_148 sk72 rfl ⟨⟨by decide, by decide⟩, rfl, rfl⟩ rfl ⟨Nat.le_of_ble_eq_true rfl, rfl, rfl⟩ h (fun y1 S1 L1 h => ?_)
  refine zi_bipush (v := 97) dX11_readsDeed_6 (by decide) ?_
  refine zi_isub dX11_readsDeed_8 ?_
  refine zt_nmi (fun x1 ex1 => ?_)
  replace h := h x1 ex1
  refine zi_istore_n dX11_readsDeed_9 rfl (by decide) rfl ?_
  refine zi_aload_n dX11_readsDeed_10 rfl rfl ?_
  refine zi_iconst (v := 1) dX11_readsDeed_11 (by decide) ?_
  refine zi_iload_n dX11_readsDeed_12 rfl rfl ?_
  refine zi_iconst (v := 1) dX11_readsDeed_13 (by decide) ?_
  refine zi_iadd dX11_readsDeed_14 ?_
  refine zt_Vi (As := [.int (1 : Int32), .int (at0 + (1 : Int32))]) dX11_readsDeed_15 lk_X11_148 sk72 rfl ⟨⟨by decide, by decide⟩, rfl, rfl⟩ rfl ⟨Nat.le_of_ble_eq_true rfl, rfl, rfl⟩ h (fun y2 S2 L2 h => ?_)
  refine zi_bipush (v := 48) dX11_readsDeed_18 (by decide) ?_
  refine zi_isub dX11_readsDeed_20 ?_
  refine zt_nmi (fun x2 ex2 => ?_)
  replace h := h x2 ex2
  refine zi_istore dX11_readsDeed_21 (by decide) rfl ?_
  refine zi_aload_n dX11_readsDeed_23 rfl rfl ?_
  refine zi_iconst (v := 1) dX11_readsDeed_24 (by decide) ?_
  refine zi_iload_n dX11_readsDeed_25 rfl rfl ?_
  refine zi_iconst (v := 2) dX11_readsDeed_26 (by decide) ?_
  refine zi_iadd dX11_readsDeed_27 ?_
  refine zt_Vi (As := [.int (1 : Int32), .int (at0 + (2 : Int32))]) dX11_readsDeed_28 lk_X11_148 sk72 rfl ⟨⟨by decide, by decide⟩, rfl, rfl⟩ rfl ⟨Nat.le_of_ble_eq_true rfl, rfl, rfl⟩ h (fun y3 S3 L3 h => ?_)
  refine zi_istore dX11_readsDeed_31 (by decide) rfl ?_
  refine zi_iload dX11_readsDeed_33 rfl ?_
  refine zi_bipush (v := 108) dX11_readsDeed_35 (by decide) ?_
  refine zi_icmp_ne (tgt := 44) dX11_readsDeed_37 (by decide) (fun q9 => ?_) (fun q9 => ?_)
  · replace h := h.1 q9
    refine zi_iload dX11_readsDeed_44 rfl ?_
    refine zi_bipush (v := 101) dX11_readsDeed_46 (by decide) ?_
    refine zi_icmp_ne (tgt := 55) dX11_readsDeed_48 (by decide) (fun q9 => ?_) (fun q9 => ?_)
    · replace h := h.1 q9
      refine zi_iload dX11_readsDeed_55 rfl ?_
      refine zi_bipush (v := 116) dX11_readsDeed_57 (by decide) ?_
      refine zi_icmp_ne (tgt := 66) dX11_readsDeed_59 (by decide) (fun q9 => ?_) (fun q9 => ?_)
      · replace h := h.1 q9
        refine zi_iload dX11_readsDeed_66 rfl ?_
        refine zi_bipush (v := 109) dX11_readsDeed_68 (by decide) ?_
        refine zi_icmp_ne (tgt := 77) dX11_readsDeed_70 (by decide) (fun q9 => ?_) (fun q9 => ?_)
        · replace h := h.1 q9
          refine zi_iconst (v := -1) dX11_readsDeed_77 (by decide) ?_
          refine zt_drop (lv' := [some (.ref 72), some (.int n), none, some (.int x1), some (.int x2), none, none]) [true, true, false, true, true, false, false] rfl ?_
          exact h
        · replace h := h.2 q9
          refine zi_iconst (v := 3) dX11_readsDeed_73 (by decide) ?_
          refine zi_goto (tgt := 78) dX11_readsDeed_74 (by decide) ?_
          refine zt_drop (lv' := [some (.ref 72), some (.int n), none, some (.int x1), some (.int x2), none, none]) [true, true, false, true, true, false, false] rfl ?_
          exact h
      · replace h := h.2 q9
        refine zi_iconst (v := 2) dX11_readsDeed_62 (by decide) ?_
        refine zi_goto (tgt := 78) dX11_readsDeed_63 (by decide) ?_
        refine zt_drop (lv' := [some (.ref 72), some (.int n), none, some (.int x1), some (.int x2), none, none]) [true, true, false, true, true, false, false] rfl ?_
        exact h
    · replace h := h.2 q9
      refine zi_iconst (v := 1) dX11_readsDeed_51 (by decide) ?_
      refine zi_goto (tgt := 78) dX11_readsDeed_52 (by decide) ?_
      refine zt_drop (lv' := [some (.ref 72), some (.int n), none, some (.int x1), some (.int x2), none, none]) [true, true, false, true, true, false, false] rfl ?_
      exact h
  · replace h := h.2 q9
    refine zi_iconst (v := 0) dX11_readsDeed_40 (by decide) ?_
    refine zi_goto (tgt := 78) dX11_readsDeed_41 (by decide) ?_
    refine zt_drop (lv' := [some (.ref 72), some (.int n), none, some (.int x1), some (.int x2), none, none]) [true, true, false, true, true, false, false] rfl ?_
    exact h
set_option maxHeartbeats 2000000 in
theorem b_X11_readsDeed_78 {v1 : Int32} {v3 : Int32} {v4 : Int32} {w0 : Int32} {X : Nat × (Nat → Int32)} {S : zS} {L : zL} {P : Int32 → zS → zL → Prop} (h : ((((0 : Int32) ≤ v3 ∧ v3 ≤ (23 : Int32)) → ((((0 : Int32) ≤ v4 ∧ v4 ≤ (7 : Int32)) → ((¬ w0 = (-1 : Int32) → vp_in v1 11 ∧ ∀ S1 : zS, S1 = zc S 78 (upd (S 78) v1.toNatClampNeg v3) → vp_in v1 11 ∧ ∀ S2 : zS, S2 = zc S1 79 (upd (S1 79) v1.toNatClampNeg v4) → vp_in v1 11 ∧ ∀ S3 : zS, S3 = zc S2 80 (upd (S2 80) v1.toNatClampNeg w0) → P (3 : Int32) S3 L) ∧ (w0 = (-1 : Int32) → P (2 : Int32) S L))) ∧ (¬ ((0 : Int32) ≤ v4 ∧ v4 ≤ (7 : Int32)) → P (1 : Int32) S L))) ∧ (¬ ((0 : Int32) ≤ v3 ∧ v3 ≤ (23 : Int32)) → P (0 : Int32) S L))) : zU mX11_readsDeed X S L 78 [some (.ref 72), some (.int v1), none, some (.int v3), some (.int v4), none, none] [.int w0] (zpi P) := by
  refine zi_istore dX11_readsDeed_78 (by decide) rfl ?_
  refine zi_iload_n dX11_readsDeed_80 rfl rfl ?_
  refine zi_iconst (v := 0) dX11_readsDeed_81 (by decide) ?_
  refine zi_bipush (v := 23) dX11_readsDeed_82 (by decide) ?_
  refine zt_Si (As := [.int v3, .int (0 : Int32), .int (23 : Int32)]) dX11_readsDeed_84 lk_X11_140 ⟨⟨by decide, by decide⟩, rfl, rfl⟩ rfl ⟨Nat.le_of_ble_eq_true rfl, rfl, rfl⟩ (in_s (P := fun y S9 L9 => y = (if ((0 : Int32) ≤ v3 ∧ v3 ≤ (23 : Int32)) then (1 : Int32) else 0) ∧ S = S9 ∧ L = L9) ⟨rfl, rfl, rfl⟩) (fun y1 S9 L9 q9 => ?_)
  obtain ⟨ey1, rfl, rfl⟩ := q9
  by_cases q9 : ((0 : Int32) ≤ v3 ∧ v3 ≤ (23 : Int32))
  · replace h := h.1 q9
    rw [if_pos q9] at ey1
    subst ey1
    refine zi_if_ne (tgt := 92) dX11_readsDeed_87 (by decide) (fun _ => ?_) (fun z9 => absurd z9 (by decide))
    refine zi_iload dX11_readsDeed_92 rfl ?_
    refine zi_iconst (v := 0) dX11_readsDeed_94 (by decide) ?_
    refine zi_bipush (v := 7) dX11_readsDeed_95 (by decide) ?_
    refine zt_Si (As := [.int v4, .int (0 : Int32), .int (7 : Int32)]) dX11_readsDeed_97 lk_X11_140 ⟨⟨by decide, by decide⟩, rfl, rfl⟩ rfl ⟨Nat.le_of_ble_eq_true rfl, rfl, rfl⟩ (in_s (P := fun y S9 L9 => y = (if ((0 : Int32) ≤ v4 ∧ v4 ≤ (7 : Int32)) then (1 : Int32) else 0) ∧ S = S9 ∧ L = L9) ⟨rfl, rfl, rfl⟩) (fun y2 S9 L9 q9 => ?_)
    obtain ⟨ey2, rfl, rfl⟩ := q9
    by_cases q9 : ((0 : Int32) ≤ v4 ∧ v4 ≤ (7 : Int32))
    · replace h := h.1 q9
      rw [if_pos q9] at ey2
      subst ey2
      refine zi_if_ne (tgt := 105) dX11_readsDeed_100 (by decide) (fun _ => ?_) (fun z9 => absurd z9 (by decide))
      refine zi_iload dX11_readsDeed_105 rfl ?_
      refine zi_iconst (v := -1) dX11_readsDeed_107 (by decide) ?_
      refine zi_icmp_ne (tgt := 113) dX11_readsDeed_108 (by decide) (fun q9 => ?_) (fun q9 => ?_)
      · replace h := h.1 q9
        refine zi_aload_n dX11_readsDeed_113 rfl rfl ?_
        refine zi_getr fl_X11_25 sk72 rfl dX11_readsDeed_114 ?_
        refine zi_iload_n dX11_readsDeed_117 rfl rfl ?_
        refine zi_iload_n dX11_readsDeed_118 rfl rfl ?_
        refine zi_iast sk78 h.1 dX11_readsDeed_119 ?_
        replace h := h.2
        refine zt_nmS (fun S1 eS1 => ?_)
        replace h := h S1 eS1
        refine zi_aload_n dX11_readsDeed_120 rfl rfl ?_
        refine zi_getr fl_X11_28 sk72 rfl dX11_readsDeed_121 ?_
        refine zi_iload_n dX11_readsDeed_124 rfl rfl ?_
        refine zi_iload dX11_readsDeed_125 rfl ?_
        refine zi_iast sk79 h.1 dX11_readsDeed_127 ?_
        replace h := h.2
        refine zt_nmS (fun S2 eS2 => ?_)
        replace h := h S2 eS2
        refine zi_aload_n dX11_readsDeed_128 rfl rfl ?_
        refine zi_getr fl_X11_31 sk72 rfl dX11_readsDeed_129 ?_
        refine zi_iload_n dX11_readsDeed_132 rfl rfl ?_
        refine zi_iload dX11_readsDeed_133 rfl ?_
        refine zi_iast sk80 h.1 dX11_readsDeed_135 ?_
        replace h := h.2
        refine zt_nmS (fun S3 eS3 => ?_)
        replace h := h S3 eS3
        refine zi_iconst (v := 3) dX11_readsDeed_136 (by decide) ?_
        exact zt_iret dX11_readsDeed_137 rfl h
      · replace h := h.2 q9
        refine zi_iconst (v := 2) dX11_readsDeed_111 (by decide) ?_
        exact zt_iret dX11_readsDeed_112 rfl h
    · replace h := h.2 q9
      rw [if_neg q9] at ey2
      subst ey2
      refine zi_if_ne (tgt := 105) dX11_readsDeed_100 (by decide) (fun z9 => absurd rfl z9) (fun _ => ?_)
      refine zi_iconst (v := 1) dX11_readsDeed_103 (by decide) ?_
      exact zt_iret dX11_readsDeed_104 rfl h
  · replace h := h.2 q9
    rw [if_neg q9] at ey1
    subst ey1
    refine zi_if_ne (tgt := 92) dX11_readsDeed_87 (by decide) (fun z9 => absurd rfl z9) (fun _ => ?_)
    refine zi_iconst (v := 0) dX11_readsDeed_90 (by decide) ?_
    exact zt_iret dX11_readsDeed_91 rfl h
theorem e_X11_readsDeed {n : Int32} {at0 : Int32} {S : zS} {L : zL} {P : Int32 → zS → zL → Prop} (h : ∀ X, zU mX11_readsDeed X S L 0 [some (.ref 72), some (.int n), some (.int at0), none, none, none, none] [] (zpi P)) : zCi mX11_readsDeed S L [.ref 72, .int n, .int at0] P := zCi_of pn_X11_readsDeed (Nat.le_of_ble_eq_true rfl) (fun X => zt_pad (j := 4) rfl (h X))
set_option maxHeartbeats 2000000 in
theorem b_X11_readsParts_0 {t : Int32} {X : Nat × (Nat → Int32)} {S : zS} {L : zL} {P : Int32 → zS → zL → Prop} (h : ((¬ t = 0 → zU mX11_readsParts X S L 11 [some (.ref 72), some (.int t), none, none, none, none] [.int (10 : Int32)] (zpi P)) ∧ (t = 0 → zU mX11_readsParts X S L 11 [some (.ref 72), some (.int t), none, none, none, none] [.int (8 : Int32)] (zpi P)))) : zU mX11_readsParts X S L 0 [some (.ref 72), some (.int t), none, none, none, none] [] (zpi P) := by
  refine zi_iload_n dX11_readsParts_0 rfl rfl ?_
  refine zi_if_ne (tgt := 9) dX11_readsParts_1 (by decide) (fun q9 => ?_) (fun q9 => ?_)
  · replace h := h.1 q9
    refine zi_bipush (v := 10) dX11_readsParts_9 (by decide) ?_
    refine zt_drop (lv' := [some (.ref 72), some (.int t), none, none, none, none]) [true, true, false, false, false, false] rfl ?_
    exact h
  · replace h := h.2 q9
    refine zi_bipush (v := 8) dX11_readsParts_4 (by decide) ?_
    refine zi_goto (tgt := 11) dX11_readsParts_6 (by decide) ?_
    refine zt_drop (lv' := [some (.ref 72), some (.int t), none, none, none, none]) [true, true, false, false, false, false] rfl ?_
    exact h
set_option maxHeartbeats 2000000 in
theorem b_X11_readsParts_11 {v1 : Int32} {w0 : Int32} {X : Nat × (Nat → Int32)} {S : zS} {L : zL} {P : Int32 → zS → zL → Prop} (h : ((¬ v1 = 0 → zU mX11_readsParts X S L 30 [some (.ref 72), some (.int v1), some (.int w0), some (.int (0 : Int32)), some (.int (0 : Int32)), none] [.int (S 72 2), .ref 72] (zpi P)) ∧ (v1 = 0 → zU mX11_readsParts X S L 30 [some (.ref 72), some (.int v1), some (.int w0), some (.int (0 : Int32)), some (.int (0 : Int32)), none] [.int (0 : Int32), .ref 72] (zpi P)))) : zU mX11_readsParts X S L 11 [some (.ref 72), some (.int v1), none, none, none, none] [.int w0] (zpi P) := by
  refine zi_istore_n dX11_readsParts_11 rfl (by decide) rfl ?_
  refine zi_iconst (v := 0) dX11_readsParts_12 (by decide) ?_
  refine zi_istore_n dX11_readsParts_13 rfl (by decide) rfl ?_
  refine zi_iconst (v := 0) dX11_readsParts_14 (by decide) ?_
  refine zi_istore dX11_readsParts_15 (by decide) rfl ?_
  refine zi_aload_n dX11_readsParts_17 rfl rfl ?_
  refine zi_iload_n dX11_readsParts_18 rfl rfl ?_
  refine zi_if_ne (tgt := 26) dX11_readsParts_19 (by decide) (fun q9 => ?_) (fun q9 => ?_)
  · replace h := h.1 q9
    refine zi_aload_n dX11_readsParts_26 rfl rfl ?_
    refine zi_geti fl_X11_152 sk72 rfl dX11_readsParts_27 ?_
    refine zt_drop (lv' := [some (.ref 72), some (.int v1), some (.int w0), some (.int (0 : Int32)), some (.int (0 : Int32)), none]) [true, true, true, true, true, false] rfl ?_
    exact h
  · replace h := h.2 q9
    refine zi_iconst (v := 0) dX11_readsParts_22 (by decide) ?_
    refine zi_goto (tgt := 30) dX11_readsParts_23 (by decide) ?_
    refine zt_drop (lv' := [some (.ref 72), some (.int v1), some (.int w0), some (.int (0 : Int32)), some (.int (0 : Int32)), none]) [true, true, true, true, true, false] rfl ?_
    exact h
set_option maxHeartbeats 2000000 in
theorem b_X11_readsParts_30 {v1 : Int32} {v2 : Int32} {v3 : Int32} {v4 : Int32} {w1 : Int32} {X : Nat × (Nat → Int32)} {S : zS} {L : zL} {P : Int32 → zS → zL → Prop} (h : ∀ S1 : zS, S1 = zc S 72 (upd (S 72) 2 w1) → ((¬ v1 = (1 : Int32) → ∀ S2 : zS, S2 = zc S1 72 (upd (S1 72) 6 (S1 72 6)) → zU mX11_readsParts X S2 L 50 [some (.ref 72), some (.int v1), some (.int v2), some (.int v3), some (.int v4), none] [] (zpi P)) ∧ (v1 = (1 : Int32) → ∀ S2 : zS, S2 = zc S1 72 (upd (S1 72) 6 (0 : Int32)) → zU mX11_readsParts X S2 L 50 [some (.ref 72), some (.int v1), some (.int v2), some (.int v3), some (.int v4), none] [] (zpi P)))) : zU mX11_readsParts X S L 30 [some (.ref 72), some (.int v1), some (.int v2), some (.int v3), some (.int v4), none] [.int w1, .ref 72] (zpi P) := by
  refine zi_puti fp_X11_152 sk72 rfl dX11_readsParts_30 ?_
  refine zt_nmS (fun S1 eS1 => ?_)
  replace h := h S1 eS1
  refine zi_aload_n dX11_readsParts_33 rfl rfl ?_
  refine zi_iload_n dX11_readsParts_34 rfl rfl ?_
  refine zi_iconst (v := 1) dX11_readsParts_35 (by decide) ?_
  refine zi_icmp_ne (tgt := 43) dX11_readsParts_36 (by decide) (fun q9 => ?_) (fun q9 => ?_)
  · replace h := h.1 q9
    refine zi_aload_n dX11_readsParts_43 rfl rfl ?_
    refine zi_geti fl_X11_155 sk72 rfl dX11_readsParts_44 ?_
    refine zi_puti fp_X11_155 sk72 rfl dX11_readsParts_47 ?_
    refine zt_nmS (fun S2 eS2 => ?_)
    replace h := h S2 eS2
    refine zt_drop (lv' := [some (.ref 72), some (.int v1), some (.int v2), some (.int v3), some (.int v4), none]) [true, true, true, true, true, false] rfl ?_
    exact h
  · replace h := h.2 q9
    refine zi_iconst (v := 0) dX11_readsParts_39 (by decide) ?_
    refine zi_goto (tgt := 47) dX11_readsParts_40 (by decide) ?_
    refine zi_puti fp_X11_155 sk72 rfl dX11_readsParts_47 ?_
    refine zt_nmS (fun S2 eS2 => ?_)
    replace h := h S2 eS2
    refine zt_drop (lv' := [some (.ref 72), some (.int v1), some (.int v2), some (.int v3), some (.int v4), none]) [true, true, true, true, true, false] rfl ?_
    exact h
set_option maxHeartbeats 2000000 in
theorem b_X11_readsParts_50 {v1 : Int32} {v2 : Int32} {v3 : Int32} {v4 : Int32} {X : Nat × (Nat → Int32)} {S : zS} {L : zL} {P : Int32 → zS → zL → Prop} (h : vp_in v1 2 ∧ ((v4 < (S 73 v1.toNatClampNeg) → zU mX11_readsParts X S L 66 [some (.ref 72), some (.int v1), some (.int v2), some (.int v3), some (.int v4), none] [] (zpi P)) ∧ (¬ v4 < (S 73 v1.toNatClampNeg) → ((v4 ≤ 0 → P (-1 : Int32) S L) ∧ (¬ v4 ≤ 0 → zU mX11_readsParts X S L 66 [some (.ref 72), some (.int v1), some (.int v2), some (.int v3), some (.int v4), none] [] (zpi P)))))) : zU mX11_readsParts X S L 50 [some (.ref 72), some (.int v1), some (.int v2), some (.int v3), some (.int v4), none] [] (zpi P) := by
  refine zi_iload dX11_readsParts_50 rfl ?_
  refine zi_aload_n dX11_readsParts_52 rfl rfl ?_
  refine zi_getr fl_X11_7 sk72 rfl dX11_readsParts_53 ?_
  refine zi_iload_n dX11_readsParts_56 rfl rfl ?_
  refine zi_iald sk73 h.1 dX11_readsParts_57 ?_
  replace h := h.2
  refine zi_icmp_lt (tgt := 66) dX11_readsParts_58 (by decide) (fun q9 => ?_) (fun q9 => ?_)
  · replace h := h.1 q9
    refine zt_drop (lv' := [some (.ref 72), some (.int v1), some (.int v2), some (.int v3), some (.int v4), none]) [true, true, true, true, true, false] rfl ?_
    exact h
  · replace h := h.2 q9
    refine zi_iload dX11_readsParts_61 rfl ?_
    refine zi_if_le (tgt := 183) dX11_readsParts_63 (by decide) (fun q9 => ?_) (fun q9 => ?_)
    · replace h := h.1 q9
      refine zi_iconst (v := -1) dX11_readsParts_183 (by decide) ?_
      exact zt_iret dX11_readsParts_184 rfl h
    · replace h := h.2 q9
      refine zt_drop (lv' := [some (.ref 72), some (.int v1), some (.int v2), some (.int v3), some (.int v4), none]) [true, true, true, true, true, false] rfl ?_
      exact h
set_option maxHeartbeats 2000000 in
theorem b_X11_readsParts_66 {v1 : Int32} {v2 : Int32} {v3 : Int32} {v4 : Int32} {X : Nat × (Nat → Int32)} {S : zS} {L : zL} {P : Int32 → zS → zL → Prop} (h : ((¬ v3 = v2 → ((¬ v1 = 0 → zCi mX11_readsDeed S L [.ref 72, .int v3, .int v4] (fun y1 S1 L1 => zU mX11_readsParts X S1 L1 96 [some (.ref 72), some (.int v1), some (.int v2), some (.int v3), some (.int v4), none] [.int y1] (zpi P))) ∧ (v1 = 0 → zCi mX11_readsPerson S L [.ref 72, .int v3, .int v4] (fun y1 S1 L1 => zU mX11_readsParts X S1 L1 96 [some (.ref 72), some (.int v1), some (.int v2), some (.int v3), some (.int v4), none] [.int y1] (zpi P))))) ∧ (v3 = v2 → zU mX11_readsParts X S L 96 [some (.ref 72), some (.int v1), some (.int v2), some (.int v3), some (.int v4), none] [.int (0 : Int32)] (zpi P)))) : zU mX11_readsParts X S L 66 [some (.ref 72), some (.int v1), some (.int v2), some (.int v3), some (.int v4), none] [] (zpi P) := by
  refine zi_iload_n dX11_readsParts_66 rfl rfl ?_
  refine zi_iload_n dX11_readsParts_67 rfl rfl ?_
  refine zi_icmp_ne (tgt := 75) dX11_readsParts_68 (by decide) (fun q9 => ?_) (fun q9 => ?_)
  · replace h := h.1 q9
    refine zi_iload_n dX11_readsParts_75 rfl rfl ?_
    refine zi_if_ne (tgt := 89) dX11_readsParts_76 (by decide) (fun q9 => ?_) (fun q9 => ?_)
    · replace h := h.1 q9
      refine zi_aload_n dX11_readsParts_89 rfl rfl ?_
      refine zi_iload_n dX11_readsParts_90 rfl rfl ?_
      refine zi_iload dX11_readsParts_91 rfl ?_
      refine zt_Vi (As := [.int v3, .int v4]) dX11_readsParts_93 lk_X11_161 sk72 rfl ⟨⟨by decide, by decide⟩, rfl, rfl⟩ rfl ⟨Nat.le_of_ble_eq_true rfl, rfl, rfl⟩ h (fun y1 S1 L1 h => ?_)
      refine zt_drop (lv' := [some (.ref 72), some (.int v1), some (.int v2), some (.int v3), some (.int v4), none]) [true, true, true, true, true, false] rfl ?_
      exact h
    · replace h := h.2 q9
      refine zi_aload_n dX11_readsParts_79 rfl rfl ?_
      refine zi_iload_n dX11_readsParts_80 rfl rfl ?_
      refine zi_iload dX11_readsParts_81 rfl ?_
      refine zt_Vi (As := [.int v3, .int v4]) dX11_readsParts_83 lk_X11_158 sk72 rfl ⟨⟨by decide, by decide⟩, rfl, rfl⟩ rfl ⟨Nat.le_of_ble_eq_true rfl, rfl, rfl⟩ h (fun y1 S1 L1 h => ?_)
      refine zi_goto (tgt := 96) dX11_readsParts_86 (by decide) ?_
      refine zt_drop (lv' := [some (.ref 72), some (.int v1), some (.int v2), some (.int v3), some (.int v4), none]) [true, true, true, true, true, false] rfl ?_
      exact h
  · replace h := h.2 q9
    refine zi_iconst (v := 0) dX11_readsParts_71 (by decide) ?_
    refine zi_goto (tgt := 96) dX11_readsParts_72 (by decide) ?_
    refine zt_drop (lv' := [some (.ref 72), some (.int v1), some (.int v2), some (.int v3), some (.int v4), none]) [true, true, true, true, true, false] rfl ?_
    exact h
set_option maxHeartbeats 2000000 in
theorem b_X11_readsParts_96 {v1 : Int32} {v2 : Int32} {v3 : Int32} {v4 : Int32} {w0 : Int32} {X : Nat × (Nat → Int32)} {S : zS} {L : zL} {P : Int32 → zS → zL → Prop} (h : (((3 : Int32) ≤ w0 → ∀ x1 : Int32, x1 = v3 + (1 : Int32) → ∀ x2 : Int32, x2 = v4 + (3 : Int32) → vp_in v1 2 ∧ ((¬ x2 = (S 73 v1.toNatClampNeg) → zCi mX11_byteAt S L [.ref 72, .int v1, .int x2] (fun y1 S1 L1 => ((y1 = (59 : Int32) → ∀ x3 : Int32, x3 = x2 + (1 : Int32) → zU mX11_readsParts X S1 L1 50 [some (.ref 72), some (.int v1), some (.int v2), some (.int x1), some (.int x3), none] [] (zpi P)) ∧ (¬ y1 = (59 : Int32) → P x2 S1 L1)))) ∧ (x2 = (S 73 v1.toNatClampNeg) → ((¬ v1 = 0 → zU mX11_readsParts X S L 140 [some (.ref 72), some (.int v1), none, some (.int x1), none, none] [.int (S 72 2), .ref 72] (zpi P)) ∧ (v1 = 0 → zU mX11_readsParts X S L 140 [some (.ref 72), some (.int v1), none, some (.int x1), none, none] [.int x1, .ref 72] (zpi P)))))) ∧ (¬ (3 : Int32) ≤ w0 → P (v4 + w0) S L))) : zU mX11_readsParts X S L 96 [some (.ref 72), some (.int v1), some (.int v2), some (.int v3), some (.int v4), none] [.int w0] (zpi P) := by
  refine zi_istore dX11_readsParts_96 (by decide) rfl ?_
  refine zi_iload dX11_readsParts_98 rfl ?_
  refine zi_iconst (v := 3) dX11_readsParts_100 (by decide) ?_
  refine zi_icmp_ge (tgt := 110) dX11_readsParts_101 (by decide) (fun q9 => ?_) (fun q9 => ?_)
  · replace h := h.1 q9
    obtain ⟨x1, ex1⟩ : ∃ y : Int32, y = v3 + (1 : Int32) := ⟨_, rfl⟩
    replace h := h x1 ex1
    refine zi_iinc (v := x1) dX11_readsParts_110 rfl (by rw [ex1]; rfl) (by decide) rfl ?_
    obtain ⟨x2, ex2⟩ : ∃ y : Int32, y = v4 + (3 : Int32) := ⟨_, rfl⟩
    replace h := h x2 ex2
    refine zi_iinc (v := x2) dX11_readsParts_113 rfl (by rw [ex2]; rfl) (by decide) rfl ?_
    refine zi_iload dX11_readsParts_116 rfl ?_
    refine zi_aload_n dX11_readsParts_118 rfl rfl ?_
    refine zi_getr fl_X11_7 sk72 rfl dX11_readsParts_119 ?_
    refine zi_iload_n dX11_readsParts_122 rfl rfl ?_
    refine zi_iald sk73 h.1 dX11_readsParts_123 ?_
    replace h := h.2
    refine zi_icmp_ne (tgt := 162) dX11_readsParts_124 (by decide) (fun q9 => ?_) (fun q9 => ?_)
    · replace h := h.1 q9
      refine zi_aload_n dX11_readsParts_162 rfl rfl ?_
      refine zi_iload_n dX11_readsParts_163 rfl rfl ?_
      refine zi_iload dX11_readsParts_164 rfl ?_
      refine zt_Vi (As := [.int v1, .int x2]) dX11_readsParts_166 lk_X11_148 sk72 rfl ⟨⟨by decide, by decide⟩, rfl, rfl⟩ rfl ⟨Nat.le_of_ble_eq_true rfl, rfl, rfl⟩ h (fun y1 S1 L1 h => ?_)
      refine zi_bipush (v := 59) dX11_readsParts_169 (by decide) ?_
      refine zi_icmp_eq (tgt := 177) dX11_readsParts_171 (by decide) (fun q9 => ?_) (fun q9 => ?_)
      · replace h := h.1 q9
        obtain ⟨x3, ex3⟩ : ∃ y : Int32, y = x2 + (1 : Int32) := ⟨_, rfl⟩
        replace h := h x3 ex3
        refine zi_iinc (v := x3) dX11_readsParts_177 rfl (by rw [ex3]; rfl) (by decide) rfl ?_
        refine zi_goto (tgt := 50) dX11_readsParts_180 (by decide) ?_
        refine zt_drop (lv' := [some (.ref 72), some (.int v1), some (.int v2), some (.int x1), some (.int x3), none]) [true, true, true, true, true, false] rfl ?_
        exact h
      · replace h := h.2 q9
        refine zi_iload dX11_readsParts_174 rfl ?_
        exact zt_iret dX11_readsParts_176 rfl h
    · replace h := h.2 q9
      refine zi_aload_n dX11_readsParts_127 rfl rfl ?_
      refine zi_iload_n dX11_readsParts_128 rfl rfl ?_
      refine zi_if_ne (tgt := 136) dX11_readsParts_129 (by decide) (fun q9 => ?_) (fun q9 => ?_)
      · replace h := h.1 q9
        refine zi_aload_n dX11_readsParts_136 rfl rfl ?_
        refine zi_geti fl_X11_152 sk72 rfl dX11_readsParts_137 ?_
        refine zt_drop (lv' := [some (.ref 72), some (.int v1), none, some (.int x1), none, none]) [true, true, false, true, false, false] rfl ?_
        exact h
      · replace h := h.2 q9
        refine zi_iload_n dX11_readsParts_132 rfl rfl ?_
        refine zi_goto (tgt := 140) dX11_readsParts_133 (by decide) ?_
        refine zt_drop (lv' := [some (.ref 72), some (.int v1), none, some (.int x1), none, none]) [true, true, false, true, false, false] rfl ?_
        exact h
  · replace h := h.2 q9
    refine zi_iload dX11_readsParts_104 rfl ?_
    refine zi_iload dX11_readsParts_106 rfl ?_
    refine zi_iadd dX11_readsParts_108 ?_
    exact zt_iret dX11_readsParts_109 rfl h
set_option maxHeartbeats 2000000 in
theorem b_X11_readsParts_140 {v1 : Int32} {v3 : Int32} {w1 : Int32} {X : Nat × (Nat → Int32)} {S : zS} {L : zL} {P : Int32 → zS → zL → Prop} (h : ∀ S1 : zS, S1 = zc S 72 (upd (S 72) 2 w1) → ((¬ v1 = (1 : Int32) → ∀ S2 : zS, S2 = zc S1 72 (upd (S1 72) 6 (S1 72 6)) → P (-1 : Int32) S2 L) ∧ (v1 = (1 : Int32) → ∀ S2 : zS, S2 = zc S1 72 (upd (S1 72) 6 v3) → P (-1 : Int32) S2 L))) : zU mX11_readsParts X S L 140 [some (.ref 72), some (.int v1), none, some (.int v3), none, none] [.int w1, .ref 72] (zpi P) := by
  refine zi_puti fp_X11_152 sk72 rfl dX11_readsParts_140 ?_
  refine zt_nmS (fun S1 eS1 => ?_)
  replace h := h S1 eS1
  refine zi_aload_n dX11_readsParts_143 rfl rfl ?_
  refine zi_iload_n dX11_readsParts_144 rfl rfl ?_
  refine zi_iconst (v := 1) dX11_readsParts_145 (by decide) ?_
  refine zi_icmp_ne (tgt := 153) dX11_readsParts_146 (by decide) (fun q9 => ?_) (fun q9 => ?_)
  · replace h := h.1 q9
    refine zi_aload_n dX11_readsParts_153 rfl rfl ?_
    refine zi_geti fl_X11_155 sk72 rfl dX11_readsParts_154 ?_
    refine zi_puti fp_X11_155 sk72 rfl dX11_readsParts_157 ?_
    refine zt_nmS (fun S2 eS2 => ?_)
    replace h := h S2 eS2
    refine zi_iconst (v := -1) dX11_readsParts_160 (by decide) ?_
    exact zt_iret dX11_readsParts_161 rfl h
  · replace h := h.2 q9
    refine zi_iload_n dX11_readsParts_149 rfl rfl ?_
    refine zi_goto (tgt := 157) dX11_readsParts_150 (by decide) ?_
    refine zi_puti fp_X11_155 sk72 rfl dX11_readsParts_157 ?_
    refine zt_nmS (fun S2 eS2 => ?_)
    replace h := h S2 eS2
    refine zi_iconst (v := -1) dX11_readsParts_160 (by decide) ?_
    exact zt_iret dX11_readsParts_161 rfl h
theorem e_X11_readsParts {t : Int32} {S : zS} {L : zL} {P : Int32 → zS → zL → Prop} (h : ∀ X, zU mX11_readsParts X S L 0 [some (.ref 72), some (.int t), none, none, none, none] [] (zpi P)) : zCi mX11_readsParts S L [.ref 72, .int t] P := zCi_of pn_X11_readsParts (Nat.le_of_ble_eq_true rfl) (fun X => zt_pad (j := 4) rfl (h X))
set_option maxHeartbeats 2000000 in
theorem b_X11_faultOf_0 {t : Int32} {X : Nat × (Nat → Int32)} {S : zS} {L : zL} {P : Int32 → zS → zL → Prop} (h : zCi mX11_readsParts S L [.ref 72, .int (0 : Int32)] (fun y1 S1 L1 => zCi mX11_readsParts S1 L1 [.ref 72, .int (1 : Int32)] (fun y2 S2 L2 => ((¬ t = 0 → P y2 S2 L2) ∧ (t = 0 → P y1 S2 L2))))) : zU mX11_faultOf X S L 0 [some (.ref 72), some (.int t), none, none] [] (zpi P) := by
  refine zi_aload_n dX11_faultOf_0 rfl rfl ?_
  refine zi_iconst (v := 0) dX11_faultOf_1 (by decide) ?_
  refine zt_Vi (As := [.int (0 : Int32)]) dX11_faultOf_2 lk_X11_164 sk72 rfl ⟨⟨by decide, by decide⟩, rfl, rfl⟩ rfl ⟨Nat.le_of_ble_eq_true rfl, rfl, rfl⟩ h (fun y1 S1 L1 h => ?_)
  refine zi_istore_n dX11_faultOf_5 rfl (by decide) rfl ?_
  refine zi_aload_n dX11_faultOf_6 rfl rfl ?_
  refine zi_iconst (v := 1) dX11_faultOf_7 (by decide) ?_
  refine zt_Vi (As := [.int (1 : Int32)]) dX11_faultOf_8 lk_X11_164 sk72 rfl ⟨⟨by decide, by decide⟩, rfl, rfl⟩ rfl ⟨Nat.le_of_ble_eq_true rfl, rfl, rfl⟩ h (fun y2 S2 L2 h => ?_)
  refine zi_istore_n dX11_faultOf_11 rfl (by decide) rfl ?_
  refine zi_iload_n dX11_faultOf_12 rfl rfl ?_
  refine zi_if_ne (tgt := 20) dX11_faultOf_13 (by decide) (fun q9 => ?_) (fun q9 => ?_)
  · replace h := h.1 q9
    refine zi_iload_n dX11_faultOf_20 rfl rfl ?_
    exact zt_iret dX11_faultOf_21 rfl h
  · replace h := h.2 q9
    refine zi_iload_n dX11_faultOf_16 rfl rfl ?_
    refine zi_goto (tgt := 21) dX11_faultOf_17 (by decide) ?_
    exact zt_iret dX11_faultOf_21 rfl h
theorem e_X11_faultOf {t : Int32} {S : zS} {L : zL} {P : Int32 → zS → zL → Prop} (h : ∀ X, zU mX11_faultOf X S L 0 [some (.ref 72), some (.int t), none, none] [] (zpi P)) : zCi mX11_faultOf S L [.ref 72, .int t] P := zCi_of pn_X11_faultOf (Nat.le_of_ble_eq_true rfl) (fun X => zt_pad (j := 2) rfl (h X))
set_option maxHeartbeats 2000000 in
theorem b_X11_reads_0 {X : Nat × (Nat → Int32)} {S : zS} {L : zL} {P : zS → zL → Prop} (h : zCi mX11_faultOf S L [.ref 72, .int (0 : Int32)] (fun y1 S1 L1 => P S1 L1)) : zU mX11_reads X S L 0 [some (.ref 72), none] [] (zpv P) := by
  refine zi_aload_n dX11_reads_0 rfl rfl ?_
  refine zi_iconst (v := 0) dX11_reads_1 (by decide) ?_
  refine zt_Vi (As := [.int (0 : Int32)]) dX11_reads_2 lk_X11_168 sk72 rfl ⟨⟨by decide, by decide⟩, rfl, rfl⟩ rfl ⟨Nat.le_of_ble_eq_true rfl, rfl, rfl⟩ h (fun y1 S1 L1 h => ?_)
  refine zi_istore_n dX11_reads_5 rfl (by decide) rfl ?_
  exact zt_vret dX11_reads_6 rfl h
theorem e_X11_reads {S : zS} {L : zL} {P : zS → zL → Prop} (h : ∀ X, zU mX11_reads X S L 0 [some (.ref 72), none] [] (zpv P)) : zCv mX11_reads S L [.ref 72] P := zCv_of pn_X11_reads (Nat.le_of_ble_eq_true rfl) (fun X => zt_pad (j := 1) rfl (h X))
set_option maxHeartbeats 2000000 in
theorem b_X11_type_0 {t : Int32} {b : Int32} {X : Nat × (Nat → Int32)} {S : zS} {L : zL} {P : Int32 → zS → zL → Prop} (h : ((((0 : Int32) ≤ t ∧ t ≤ (1 : Int32)) → ((((0 : Int32) ≤ b ∧ b ≤ (255 : Int32)) → vp_in t 2 ∧ ((¬ t = 0 → zU mX11_type X S L 38 [some (.ref 72), some (.int t), some (.int b)] [.int (39 : Int32), .int (S 73 t.toNatClampNeg)] (zpi P)) ∧ (t = 0 → zU mX11_type X S L 38 [some (.ref 72), some (.int t), some (.int b)] [.int (31 : Int32), .int (S 73 t.toNatClampNeg)] (zpi P)))) ∧ (¬ ((0 : Int32) ≤ b ∧ b ≤ (255 : Int32)) → P (-2 : Int32) S L))) ∧ (¬ ((0 : Int32) ≤ t ∧ t ≤ (1 : Int32)) → P (-2 : Int32) S L))) : zU mX11_type X S L 0 [some (.ref 72), some (.int t), some (.int b)] [] (zpi P) := by
  refine zi_iload_n dX11_type_0 rfl rfl ?_
  refine zt_Si (As := [.int t]) dX11_type_1 lk_X11_144 ⟨⟨by decide, by decide⟩, rfl, rfl⟩ rfl ⟨Nat.le_of_ble_eq_true rfl, rfl, rfl⟩ (isText_s (P := fun y S9 L9 => y = (if ((0 : Int32) ≤ t ∧ t ≤ (1 : Int32)) then (1 : Int32) else 0) ∧ S = S9 ∧ L = L9) ⟨rfl, rfl, rfl⟩) (fun y1 S9 L9 q9 => ?_)
  obtain ⟨ey1, rfl, rfl⟩ := q9
  by_cases q9 : ((0 : Int32) ≤ t ∧ t ≤ (1 : Int32))
  · replace h := h.1 q9
    rw [if_pos q9] at ey1
    subst ey1
    refine zi_if_eq (tgt := 18) dX11_type_4 (by decide) (fun z9 => absurd z9 (by decide)) (fun _ => ?_)
    refine zi_iload_n dX11_type_7 rfl rfl ?_
    refine zi_iconst (v := 0) dX11_type_8 (by decide) ?_
    refine zi_sipush (v := 255) dX11_type_9 (by decide) ?_
    refine zt_Si (As := [.int b, .int (0 : Int32), .int (255 : Int32)]) dX11_type_12 lk_X11_140 ⟨⟨by decide, by decide⟩, rfl, rfl⟩ rfl ⟨Nat.le_of_ble_eq_true rfl, rfl, rfl⟩ (in_s (P := fun y S9 L9 => y = (if ((0 : Int32) ≤ b ∧ b ≤ (255 : Int32)) then (1 : Int32) else 0) ∧ S = S9 ∧ L = L9) ⟨rfl, rfl, rfl⟩) (fun y2 S9 L9 q9 => ?_)
    obtain ⟨ey2, rfl, rfl⟩ := q9
    by_cases q9 : ((0 : Int32) ≤ b ∧ b ≤ (255 : Int32))
    · replace h := h.1 q9
      rw [if_pos q9] at ey2
      subst ey2
      refine zi_if_ne (tgt := 21) dX11_type_15 (by decide) (fun _ => ?_) (fun z9 => absurd z9 (by decide))
      refine zi_aload_n dX11_type_21 rfl rfl ?_
      refine zi_getr fl_X11_7 sk72 rfl dX11_type_22 ?_
      refine zi_iload_n dX11_type_25 rfl rfl ?_
      refine zi_iald sk73 h.1 dX11_type_26 ?_
      replace h := h.2
      refine zi_iload_n dX11_type_27 rfl rfl ?_
      refine zi_if_ne (tgt := 36) dX11_type_28 (by decide) (fun q9 => ?_) (fun q9 => ?_)
      · replace h := h.1 q9
        refine zi_bipush (v := 39) dX11_type_36 (by decide) ?_
        refine zt_drop (lv' := [some (.ref 72), some (.int t), some (.int b)]) [true, true, true] rfl ?_
        exact h
      · replace h := h.2 q9
        refine zi_bipush (v := 31) dX11_type_31 (by decide) ?_
        refine zi_goto (tgt := 38) dX11_type_33 (by decide) ?_
        refine zt_drop (lv' := [some (.ref 72), some (.int t), some (.int b)]) [true, true, true] rfl ?_
        exact h
    · replace h := h.2 q9
      rw [if_neg q9] at ey2
      subst ey2
      refine zi_if_ne (tgt := 21) dX11_type_15 (by decide) (fun z9 => absurd rfl z9) (fun _ => ?_)
      refine zi_bipush (v := -2) dX11_type_18 (by decide) ?_
      exact zt_iret dX11_type_20 rfl h
  · replace h := h.2 q9
    rw [if_neg q9] at ey1
    subst ey1
    refine zi_if_eq (tgt := 18) dX11_type_4 (by decide) (fun _ => ?_) (fun z9 => absurd rfl z9)
    refine zi_bipush (v := -2) dX11_type_18 (by decide) ?_
    exact zt_iret dX11_type_20 rfl h
set_option maxHeartbeats 2000000 in
theorem b_X11_type_38 {v1 : Int32} {v2 : Int32} {w1 : Int32} {w0 : Int32} {X : Nat × (Nat → Int32)} {S : zS} {L : zL} {P : Int32 → zS → zL → Prop} (h : ((¬ w0 = w1 → vp_in v1 2 ∧ vp_in (((39 : Int32) * v1) + (S 73 v1.toNatClampNeg)) 78 ∧ ∀ S1 : zS, S1 = zc S 74 (upd (S 74) (((39 : Int32) * v1) + (S 73 v1.toNatClampNeg)).toNatClampNeg v2) → vp_in v1 2 ∧ vp_in v1 2 ∧ ∀ S2 : zS, S2 = zc S1 73 (upd (S1 73) v1.toNatClampNeg ((S1 73 v1.toNatClampNeg) + (1 : Int32))) → vp_in v1 2 ∧ P (S2 73 v1.toNatClampNeg) S2 L) ∧ (w0 = w1 → P (-4 : Int32) S L))) : zU mX11_type X S L 38 [some (.ref 72), some (.int v1), some (.int v2)] [.int w1, .int w0] (zpi P) := by
  refine zi_icmp_ne (tgt := 44) dX11_type_38 (by decide) (fun q9 => ?_) (fun q9 => ?_)
  · replace h := h.1 q9
    refine zi_aload_n dX11_type_44 rfl rfl ?_
    refine zi_getr fl_X11_13 sk72 rfl dX11_type_45 ?_
    refine zi_bipush (v := 39) dX11_type_48 (by decide) ?_
    refine zi_iload_n dX11_type_50 rfl rfl ?_
    refine zi_imul dX11_type_51 ?_
    refine zi_aload_n dX11_type_52 rfl rfl ?_
    refine zi_getr fl_X11_7 sk72 rfl dX11_type_53 ?_
    refine zi_iload_n dX11_type_56 rfl rfl ?_
    refine zi_iald sk73 h.1 dX11_type_57 ?_
    replace h := h.2
    refine zi_iadd dX11_type_58 ?_
    refine zi_iload_n dX11_type_59 rfl rfl ?_
    refine zi_iast sk74 h.1 dX11_type_60 ?_
    replace h := h.2
    refine zt_nmS (fun S1 eS1 => ?_)
    replace h := h S1 eS1
    refine zi_aload_n dX11_type_61 rfl rfl ?_
    refine zi_getr fl_X11_7 sk72 rfl dX11_type_62 ?_
    refine zi_iload_n dX11_type_65 rfl rfl ?_
    refine zi_dup2_11 dX11_type_66 rfl rfl ?_
    refine zi_iald sk73 h.1 dX11_type_67 ?_
    replace h := h.2
    refine zi_iconst (v := 1) dX11_type_68 (by decide) ?_
    refine zi_iadd dX11_type_69 ?_
    refine zi_iast sk73 h.1 dX11_type_70 ?_
    replace h := h.2
    refine zt_nmS (fun S2 eS2 => ?_)
    replace h := h S2 eS2
    refine zi_aload_n dX11_type_71 rfl rfl ?_
    refine zi_getr fl_X11_7 sk72 rfl dX11_type_72 ?_
    refine zi_iload_n dX11_type_75 rfl rfl ?_
    refine zi_iald sk73 h.1 dX11_type_76 ?_
    replace h := h.2
    exact zt_iret dX11_type_77 rfl h
  · replace h := h.2 q9
    refine zi_bipush (v := -4) dX11_type_41 (by decide) ?_
    exact zt_iret dX11_type_43 rfl h
theorem e_X11_type {t : Int32} {b : Int32} {S : zS} {L : zL} {P : Int32 → zS → zL → Prop} (h : ∀ X, zU mX11_type X S L 0 [some (.ref 72), some (.int t), some (.int b)] [] (zpi P)) : zCi mX11_type S L [.ref 72, .int t, .int b] P := zCi_of pn_X11_type (Nat.le_of_ble_eq_true rfl) (fun X => zt_pad (j := 0) rfl (h X))
set_option maxHeartbeats 2000000 in
theorem b_X11_wipe_0 {t : Int32} {X : Nat × (Nat → Int32)} {S : zS} {L : zL} {P : Int32 → zS → zL → Prop} (h : ((((0 : Int32) ≤ t ∧ t ≤ (1 : Int32)) → vp_in t 2 ∧ ∀ x1 : Int32, x1 = (S 73 t.toNatClampNeg) → vp_in t 2 ∧ ∀ S1 : zS, S1 = zc S 73 (upd (S 73) t.toNatClampNeg (0 : Int32)) → P x1 S1 L) ∧ (¬ ((0 : Int32) ≤ t ∧ t ≤ (1 : Int32)) → P (-2 : Int32) S L))) : zU mX11_wipe X S L 0 [some (.ref 72), some (.int t), none] [] (zpi P) := by
  refine zi_iload_n dX11_wipe_0 rfl rfl ?_
  refine zt_Si (As := [.int t]) dX11_wipe_1 lk_X11_144 ⟨⟨by decide, by decide⟩, rfl, rfl⟩ rfl ⟨Nat.le_of_ble_eq_true rfl, rfl, rfl⟩ (isText_s (P := fun y S9 L9 => y = (if ((0 : Int32) ≤ t ∧ t ≤ (1 : Int32)) then (1 : Int32) else 0) ∧ S = S9 ∧ L = L9) ⟨rfl, rfl, rfl⟩) (fun y1 S9 L9 q9 => ?_)
  obtain ⟨ey1, rfl, rfl⟩ := q9
  by_cases q9 : ((0 : Int32) ≤ t ∧ t ≤ (1 : Int32))
  · replace h := h.1 q9
    rw [if_pos q9] at ey1
    subst ey1
    refine zi_if_ne (tgt := 10) dX11_wipe_4 (by decide) (fun _ => ?_) (fun z9 => absurd z9 (by decide))
    refine zi_aload_n dX11_wipe_10 rfl rfl ?_
    refine zi_getr fl_X11_7 sk72 rfl dX11_wipe_11 ?_
    refine zi_iload_n dX11_wipe_14 rfl rfl ?_
    refine zi_iald sk73 h.1 dX11_wipe_15 ?_
    replace h := h.2
    refine zt_nmi (fun x1 ex1 => ?_)
    replace h := h x1 ex1
    refine zi_istore_n dX11_wipe_16 rfl (by decide) rfl ?_
    refine zi_aload_n dX11_wipe_17 rfl rfl ?_
    refine zi_getr fl_X11_7 sk72 rfl dX11_wipe_18 ?_
    refine zi_iload_n dX11_wipe_21 rfl rfl ?_
    refine zi_iconst (v := 0) dX11_wipe_22 (by decide) ?_
    refine zi_iast sk73 h.1 dX11_wipe_23 ?_
    replace h := h.2
    refine zt_nmS (fun S1 eS1 => ?_)
    replace h := h S1 eS1
    refine zi_iload_n dX11_wipe_24 rfl rfl ?_
    exact zt_iret dX11_wipe_25 rfl h
  · replace h := h.2 q9
    rw [if_neg q9] at ey1
    subst ey1
    refine zi_if_ne (tgt := 10) dX11_wipe_4 (by decide) (fun z9 => absurd rfl z9) (fun _ => ?_)
    refine zi_bipush (v := -2) dX11_wipe_7 (by decide) ?_
    exact zt_iret dX11_wipe_9 rfl h
theorem e_X11_wipe {t : Int32} {S : zS} {L : zL} {P : Int32 → zS → zL → Prop} (h : ∀ X, zU mX11_wipe X S L 0 [some (.ref 72), some (.int t), none] [] (zpi P)) : zCi mX11_wipe S L [.ref 72, .int t] P := zCi_of pn_X11_wipe (Nat.le_of_ble_eq_true rfl) (fun X => zt_pad (j := 1) rfl (h X))
set_option maxHeartbeats 2000000 in
theorem b_X11_undo_0 {t : Int32} {X : Nat × (Nat → Int32)} {S : zS} {L : zL} {P : Int32 → zS → zL → Prop} (h : ((((0 : Int32) ≤ t ∧ t ≤ (1 : Int32)) → vp_in t 2 ∧ ((¬ (S 73 t.toNatClampNeg) = 0 → vp_in t 2 ∧ vp_in t 2 ∧ ∀ S1 : zS, S1 = zc S 73 (upd (S 73) t.toNatClampNeg ((S 73 t.toNatClampNeg) - (1 : Int32))) → vp_in t 2 ∧ P (S1 73 t.toNatClampNeg) S1 L) ∧ ((S 73 t.toNatClampNeg) = 0 → P (-3 : Int32) S L))) ∧ (¬ ((0 : Int32) ≤ t ∧ t ≤ (1 : Int32)) → P (-2 : Int32) S L))) : zU mX11_undo X S L 0 [some (.ref 72), some (.int t)] [] (zpi P) := by
  refine zi_iload_n dX11_undo_0 rfl rfl ?_
  refine zt_Si (As := [.int t]) dX11_undo_1 lk_X11_144 ⟨⟨by decide, by decide⟩, rfl, rfl⟩ rfl ⟨Nat.le_of_ble_eq_true rfl, rfl, rfl⟩ (isText_s (P := fun y S9 L9 => y = (if ((0 : Int32) ≤ t ∧ t ≤ (1 : Int32)) then (1 : Int32) else 0) ∧ S = S9 ∧ L = L9) ⟨rfl, rfl, rfl⟩) (fun y1 S9 L9 q9 => ?_)
  obtain ⟨ey1, rfl, rfl⟩ := q9
  by_cases q9 : ((0 : Int32) ≤ t ∧ t ≤ (1 : Int32))
  · replace h := h.1 q9
    rw [if_pos q9] at ey1
    subst ey1
    refine zi_if_ne (tgt := 10) dX11_undo_4 (by decide) (fun _ => ?_) (fun z9 => absurd z9 (by decide))
    refine zi_aload_n dX11_undo_10 rfl rfl ?_
    refine zi_getr fl_X11_7 sk72 rfl dX11_undo_11 ?_
    refine zi_iload_n dX11_undo_14 rfl rfl ?_
    refine zi_iald sk73 h.1 dX11_undo_15 ?_
    replace h := h.2
    refine zi_if_ne (tgt := 22) dX11_undo_16 (by decide) (fun q9 => ?_) (fun q9 => ?_)
    · replace h := h.1 q9
      refine zi_aload_n dX11_undo_22 rfl rfl ?_
      refine zi_getr fl_X11_7 sk72 rfl dX11_undo_23 ?_
      refine zi_iload_n dX11_undo_26 rfl rfl ?_
      refine zi_dup2_11 dX11_undo_27 rfl rfl ?_
      refine zi_iald sk73 h.1 dX11_undo_28 ?_
      replace h := h.2
      refine zi_iconst (v := 1) dX11_undo_29 (by decide) ?_
      refine zi_isub dX11_undo_30 ?_
      refine zi_iast sk73 h.1 dX11_undo_31 ?_
      replace h := h.2
      refine zt_nmS (fun S1 eS1 => ?_)
      replace h := h S1 eS1
      refine zi_aload_n dX11_undo_32 rfl rfl ?_
      refine zi_getr fl_X11_7 sk72 rfl dX11_undo_33 ?_
      refine zi_iload_n dX11_undo_36 rfl rfl ?_
      refine zi_iald sk73 h.1 dX11_undo_37 ?_
      replace h := h.2
      exact zt_iret dX11_undo_38 rfl h
    · replace h := h.2 q9
      refine zi_bipush (v := -3) dX11_undo_19 (by decide) ?_
      exact zt_iret dX11_undo_21 rfl h
  · replace h := h.2 q9
    rw [if_neg q9] at ey1
    subst ey1
    refine zi_if_ne (tgt := 10) dX11_undo_4 (by decide) (fun z9 => absurd rfl z9) (fun _ => ?_)
    refine zi_bipush (v := -2) dX11_undo_7 (by decide) ?_
    exact zt_iret dX11_undo_9 rfl h
theorem e_X11_undo {t : Int32} {S : zS} {L : zL} {P : Int32 → zS → zL → Prop} (h : ∀ X, zU mX11_undo X S L 0 [some (.ref 72), some (.int t)] [] (zpi P)) : zCi mX11_undo S L [.ref 72, .int t] P := zCi_of pn_X11_undo (Nat.le_of_ble_eq_true rfl) (fun X => zt_pad (j := 0) rfl (h X))
set_option maxHeartbeats 2000000 in
theorem b_X11_fault_0 {t : Int32} {X : Nat × (Nat → Int32)} {S : zS} {L : zL} {P : Int32 → zS → zL → Prop} (h : ((((0 : Int32) ≤ t ∧ t ≤ (1 : Int32)) → zCi mX11_faultOf S L [.ref 72, .int t] (fun y2 S1 L1 => P y2 S1 L1)) ∧ (¬ ((0 : Int32) ≤ t ∧ t ≤ (1 : Int32)) → P (-2 : Int32) S L))) : zU mX11_fault X S L 0 [some (.ref 72), some (.int t)] [] (zpi P) := by
  refine zi_iload_n dX11_fault_0 rfl rfl ?_
  refine zt_Si (As := [.int t]) dX11_fault_1 lk_X11_144 ⟨⟨by decide, by decide⟩, rfl, rfl⟩ rfl ⟨Nat.le_of_ble_eq_true rfl, rfl, rfl⟩ (isText_s (P := fun y S9 L9 => y = (if ((0 : Int32) ≤ t ∧ t ≤ (1 : Int32)) then (1 : Int32) else 0) ∧ S = S9 ∧ L = L9) ⟨rfl, rfl, rfl⟩) (fun y1 S9 L9 q9 => ?_)
  obtain ⟨ey1, rfl, rfl⟩ := q9
  by_cases q9 : ((0 : Int32) ≤ t ∧ t ≤ (1 : Int32))
  · replace h := h.1 q9
    rw [if_pos q9] at ey1
    subst ey1
    refine zi_if_eq (tgt := 15) dX11_fault_4 (by decide) (fun z9 => absurd z9 (by decide)) (fun _ => ?_)
    refine zi_aload_n dX11_fault_7 rfl rfl ?_
    refine zi_iload_n dX11_fault_8 rfl rfl ?_
    refine zt_Vi (As := [.int t]) dX11_fault_9 lk_X11_168 sk72 rfl ⟨⟨by decide, by decide⟩, rfl, rfl⟩ rfl ⟨Nat.le_of_ble_eq_true rfl, rfl, rfl⟩ h (fun y2 S1 L1 h => ?_)
    refine zi_goto (tgt := 17) dX11_fault_12 (by decide) ?_
    exact zt_iret dX11_fault_17 rfl h
  · replace h := h.2 q9
    rw [if_neg q9] at ey1
    subst ey1
    refine zi_if_eq (tgt := 15) dX11_fault_4 (by decide) (fun _ => ?_) (fun z9 => absurd rfl z9)
    refine zi_bipush (v := -2) dX11_fault_15 (by decide) ?_
    exact zt_iret dX11_fault_17 rfl h
theorem e_X11_fault {t : Int32} {S : zS} {L : zL} {P : Int32 → zS → zL → Prop} (h : ∀ X, zU mX11_fault X S L 0 [some (.ref 72), some (.int t)] [] (zpi P)) : zCi mX11_fault S L [.ref 72, .int t] P := zCi_of pn_X11_fault (Nat.le_of_ble_eq_true rfl) (fun X => zt_pad (j := 0) rfl (h X))
set_option maxHeartbeats 2000000 in
theorem b_X11_isPerson_0 {p : Int32} {X : Nat × (Nat → Int32)} {S : zS} {L : zL} {P : Int32 → zS → zL → Prop} (h : zCv mX11_reads S L [.ref 72] (fun S1 L1 => ∀ y2 : Int32, y2 = (if ((0 : Int32) ≤ p ∧ p ≤ ((S1 72 2) - (1 : Int32))) then (1 : Int32) else 0) → (narrow .boolean (.int y2) = .int y2 ∧ P y2 S1 L1))) : zU mX11_isPerson X S L 0 [some (.ref 72), some (.int p)] [] (zpi P) := by
  refine zi_aload_n dX11_isPerson_0 rfl rfl ?_
  refine zt_Vv (As := []) dX11_isPerson_1 lk_X11_171 sk72 rfl ⟨⟨by decide, by decide⟩, rfl, rfl⟩ rfl ⟨Nat.le_of_ble_eq_true rfl, rfl, rfl⟩ h (fun S1 L1 h => ?_)
  refine zi_iload_n dX11_isPerson_4 rfl rfl ?_
  refine zi_iconst (v := 0) dX11_isPerson_5 (by decide) ?_
  refine zi_aload_n dX11_isPerson_6 rfl rfl ?_
  refine zi_geti fl_X11_152 sk72 rfl dX11_isPerson_7 ?_
  refine zi_iconst (v := 1) dX11_isPerson_10 (by decide) ?_
  refine zi_isub dX11_isPerson_11 ?_
  refine zt_Si (As := [.int p, .int (0 : Int32), .int ((S1 72 2) - (1 : Int32))]) dX11_isPerson_12 lk_X11_140 ⟨⟨by decide, by decide⟩, rfl, rfl⟩ rfl ⟨Nat.le_of_ble_eq_true rfl, rfl, rfl⟩ (in_s (P := fun y S9 L9 => y = (if ((0 : Int32) ≤ p ∧ p ≤ ((S1 72 2) - (1 : Int32))) then (1 : Int32) else 0) ∧ S1 = S9 ∧ L1 = L9) ⟨rfl, rfl, rfl⟩) (fun y2 S9 L9 q9 => ?_)
  obtain ⟨ey2, rfl, rfl⟩ := q9
  replace h := h y2 ey2
  exact zt_zret (ty := .boolean) dX11_isPerson_15 rfl h.1 h.2
theorem e_X11_isPerson {p : Int32} {S : zS} {L : zL} {P : Int32 → zS → zL → Prop} (h : ∀ X, zU mX11_isPerson X S L 0 [some (.ref 72), some (.int p)] [] (zpi P)) : zCi mX11_isPerson S L [.ref 72, .int p] P := zCi_of pn_X11_isPerson (Nat.le_of_ble_eq_true rfl) (fun X => zt_pad (j := 0) rfl (h X))
set_option maxHeartbeats 2000000 in
theorem b_X11_isDeed_0 {d : Int32} {X : Nat × (Nat → Int32)} {S : zS} {L : zL} {P : Int32 → zS → zL → Prop} (h : zCv mX11_reads S L [.ref 72] (fun S1 L1 => ∀ y2 : Int32, y2 = (if ((0 : Int32) ≤ d ∧ d ≤ ((S1 72 6) - (1 : Int32))) then (1 : Int32) else 0) → (narrow .boolean (.int y2) = .int y2 ∧ P y2 S1 L1))) : zU mX11_isDeed X S L 0 [some (.ref 72), some (.int d)] [] (zpi P) := by
  refine zi_aload_n dX11_isDeed_0 rfl rfl ?_
  refine zt_Vv (As := []) dX11_isDeed_1 lk_X11_171 sk72 rfl ⟨⟨by decide, by decide⟩, rfl, rfl⟩ rfl ⟨Nat.le_of_ble_eq_true rfl, rfl, rfl⟩ h (fun S1 L1 h => ?_)
  refine zi_iload_n dX11_isDeed_4 rfl rfl ?_
  refine zi_iconst (v := 0) dX11_isDeed_5 (by decide) ?_
  refine zi_aload_n dX11_isDeed_6 rfl rfl ?_
  refine zi_geti fl_X11_155 sk72 rfl dX11_isDeed_7 ?_
  refine zi_iconst (v := 1) dX11_isDeed_10 (by decide) ?_
  refine zi_isub dX11_isDeed_11 ?_
  refine zt_Si (As := [.int d, .int (0 : Int32), .int ((S1 72 6) - (1 : Int32))]) dX11_isDeed_12 lk_X11_140 ⟨⟨by decide, by decide⟩, rfl, rfl⟩ rfl ⟨Nat.le_of_ble_eq_true rfl, rfl, rfl⟩ (in_s (P := fun y S9 L9 => y = (if ((0 : Int32) ≤ d ∧ d ≤ ((S1 72 6) - (1 : Int32))) then (1 : Int32) else 0) ∧ S1 = S9 ∧ L1 = L9) ⟨rfl, rfl, rfl⟩) (fun y2 S9 L9 q9 => ?_)
  obtain ⟨ey2, rfl, rfl⟩ := q9
  replace h := h y2 ey2
  exact zt_zret (ty := .boolean) dX11_isDeed_15 rfl h.1 h.2
theorem e_X11_isDeed {d : Int32} {S : zS} {L : zL} {P : Int32 → zS → zL → Prop} (h : ∀ X, zU mX11_isDeed X S L 0 [some (.ref 72), some (.int d)] [] (zpi P)) : zCi mX11_isDeed S L [.ref 72, .int d] P := zCi_of pn_X11_isDeed (Nat.le_of_ble_eq_true rfl) (fun X => zt_pad (j := 0) rfl (h X))
set_option maxHeartbeats 2000000 in
theorem b_X11_personOf_0 {p : Int32} {what : Int32} {X : Nat × (Nat → Int32)} {S : zS} {L : zL} {P : Int32 → zS → zL → Prop} (h : ((¬ what = 0 → ((¬ what = (1 : Int32) → vp_in p 9 ∧ P (S 77 p.toNatClampNeg) S L) ∧ (what = (1 : Int32) → vp_in p 9 ∧ P (S 76 p.toNatClampNeg) S L))) ∧ (what = 0 → vp_in p 9 ∧ P (S 75 p.toNatClampNeg) S L))) : zU mX11_personOf X S L 0 [some (.ref 72), some (.int p), some (.int what)] [] (zpi P) := by
  refine zi_iload_n dX11_personOf_0 rfl rfl ?_
  refine zi_if_ne (tgt := 13) dX11_personOf_1 (by decide) (fun q9 => ?_) (fun q9 => ?_)
  · replace h := h.1 q9
    refine zi_iload_n dX11_personOf_13 rfl rfl ?_
    refine zi_iconst (v := 1) dX11_personOf_14 (by decide) ?_
    refine zi_icmp_ne (tgt := 27) dX11_personOf_15 (by decide) (fun q9 => ?_) (fun q9 => ?_)
    · replace h := h.1 q9
      refine zi_aload_n dX11_personOf_27 rfl rfl ?_
      refine zi_getr fl_X11_22 sk72 rfl dX11_personOf_28 ?_
      refine zi_iload_n dX11_personOf_31 rfl rfl ?_
      refine zi_iald sk77 h.1 dX11_personOf_32 ?_
      replace h := h.2
      exact zt_iret dX11_personOf_33 rfl h
    · replace h := h.2 q9
      refine zi_aload_n dX11_personOf_18 rfl rfl ?_
      refine zi_getr fl_X11_19 sk72 rfl dX11_personOf_19 ?_
      refine zi_iload_n dX11_personOf_22 rfl rfl ?_
      refine zi_iald sk76 h.1 dX11_personOf_23 ?_
      replace h := h.2
      refine zi_goto (tgt := 33) dX11_personOf_24 (by decide) ?_
      exact zt_iret dX11_personOf_33 rfl h
  · replace h := h.2 q9
    refine zi_aload_n dX11_personOf_4 rfl rfl ?_
    refine zi_getr fl_X11_16 sk72 rfl dX11_personOf_5 ?_
    refine zi_iload_n dX11_personOf_8 rfl rfl ?_
    refine zi_iald sk75 h.1 dX11_personOf_9 ?_
    replace h := h.2
    refine zi_goto (tgt := 33) dX11_personOf_10 (by decide) ?_
    exact zt_iret dX11_personOf_33 rfl h
theorem e_X11_personOf {p : Int32} {what : Int32} {S : zS} {L : zL} {P : Int32 → zS → zL → Prop} (h : ∀ X, zU mX11_personOf X S L 0 [some (.ref 72), some (.int p), some (.int what)] [] (zpi P)) : zCi mX11_personOf S L [.ref 72, .int p, .int what] P := zCi_of pn_X11_personOf (Nat.le_of_ble_eq_true rfl) (fun X => zt_pad (j := 0) rfl (h X))
set_option maxHeartbeats 2000000 in
theorem b_X11_person_0 {p : Int32} {what : Int32} {X : Nat × (Nat → Int32)} {S : zS} {L : zL} {P : Int32 → zS → zL → Prop} (h : zCi mX11_isPerson S L [.ref 72, .int p] (fun y1 S1 L1 => ((y1 = 0 → P (-2 : Int32) S1 L1) ∧ (¬ y1 = 0 → ((((0 : Int32) ≤ what ∧ what ≤ (2 : Int32)) → zCi mX11_personOf S1 L1 [.ref 72, .int p, .int what] (fun y3 S2 L2 => P y3 S2 L2)) ∧ (¬ ((0 : Int32) ≤ what ∧ what ≤ (2 : Int32)) → P (-2 : Int32) S1 L1)))))) : zU mX11_person X S L 0 [some (.ref 72), some (.int p), some (.int what)] [] (zpi P) := by
  refine zi_aload_n dX11_person_0 rfl rfl ?_
  refine zi_iload_n dX11_person_1 rfl rfl ?_
  refine zt_Vi (As := [.int p]) dX11_person_2 lk_X11_174 sk72 rfl ⟨⟨by decide, by decide⟩, rfl, rfl⟩ rfl ⟨Nat.le_of_ble_eq_true rfl, rfl, rfl⟩ h (fun y1 S1 L1 h => ?_)
  refine zi_if_eq (tgt := 26) dX11_person_5 (by decide) (fun q9 => ?_) (fun q9 => ?_)
  · replace h := h.1 q9
    refine zi_bipush (v := -2) dX11_person_26 (by decide) ?_
    exact zt_iret dX11_person_28 rfl h
  · replace h := h.2 q9
    refine zi_iload_n dX11_person_8 rfl rfl ?_
    refine zi_iconst (v := 0) dX11_person_9 (by decide) ?_
    refine zi_iconst (v := 2) dX11_person_10 (by decide) ?_
    refine zt_Si (As := [.int what, .int (0 : Int32), .int (2 : Int32)]) dX11_person_11 lk_X11_140 ⟨⟨by decide, by decide⟩, rfl, rfl⟩ rfl ⟨Nat.le_of_ble_eq_true rfl, rfl, rfl⟩ (in_s (P := fun y S9 L9 => y = (if ((0 : Int32) ≤ what ∧ what ≤ (2 : Int32)) then (1 : Int32) else 0) ∧ S1 = S9 ∧ L1 = L9) ⟨rfl, rfl, rfl⟩) (fun y2 S9 L9 q9 => ?_)
    obtain ⟨ey2, rfl, rfl⟩ := q9
    by_cases q9 : ((0 : Int32) ≤ what ∧ what ≤ (2 : Int32))
    · replace h := h.1 q9
      rw [if_pos q9] at ey2
      subst ey2
      refine zi_if_eq (tgt := 26) dX11_person_14 (by decide) (fun z9 => absurd z9 (by decide)) (fun _ => ?_)
      refine zi_aload_n dX11_person_17 rfl rfl ?_
      refine zi_iload_n dX11_person_18 rfl rfl ?_
      refine zi_iload_n dX11_person_19 rfl rfl ?_
      refine zt_Vi (As := [.int p, .int what]) dX11_person_20 lk_X11_177 sk72 rfl ⟨⟨by decide, by decide⟩, rfl, rfl⟩ rfl ⟨Nat.le_of_ble_eq_true rfl, rfl, rfl⟩ h (fun y3 S2 L2 h => ?_)
      refine zi_goto (tgt := 28) dX11_person_23 (by decide) ?_
      exact zt_iret dX11_person_28 rfl h
    · replace h := h.2 q9
      rw [if_neg q9] at ey2
      subst ey2
      refine zi_if_eq (tgt := 26) dX11_person_14 (by decide) (fun _ => ?_) (fun z9 => absurd rfl z9)
      refine zi_bipush (v := -2) dX11_person_26 (by decide) ?_
      exact zt_iret dX11_person_28 rfl h
theorem e_X11_person {p : Int32} {what : Int32} {S : zS} {L : zL} {P : Int32 → zS → zL → Prop} (h : ∀ X, zU mX11_person X S L 0 [some (.ref 72), some (.int p), some (.int what)] [] (zpi P)) : zCi mX11_person S L [.ref 72, .int p, .int what] P := zCi_of pn_X11_person (Nat.le_of_ble_eq_true rfl) (fun X => zt_pad (j := 0) rfl (h X))
set_option maxHeartbeats 2000000 in
theorem b_X11_deedOf_0 {d : Int32} {what : Int32} {X : Nat × (Nat → Int32)} {S : zS} {L : zL} {P : Int32 → zS → zL → Prop} (h : ((¬ what = 0 → ((¬ what = (1 : Int32) → vp_in d 11 ∧ P (S 80 d.toNatClampNeg) S L) ∧ (what = (1 : Int32) → vp_in d 11 ∧ P (S 79 d.toNatClampNeg) S L))) ∧ (what = 0 → vp_in d 11 ∧ P (S 78 d.toNatClampNeg) S L))) : zU mX11_deedOf X S L 0 [some (.ref 72), some (.int d), some (.int what)] [] (zpi P) := by
  refine zi_iload_n dX11_deedOf_0 rfl rfl ?_
  refine zi_if_ne (tgt := 13) dX11_deedOf_1 (by decide) (fun q9 => ?_) (fun q9 => ?_)
  · replace h := h.1 q9
    refine zi_iload_n dX11_deedOf_13 rfl rfl ?_
    refine zi_iconst (v := 1) dX11_deedOf_14 (by decide) ?_
    refine zi_icmp_ne (tgt := 27) dX11_deedOf_15 (by decide) (fun q9 => ?_) (fun q9 => ?_)
    · replace h := h.1 q9
      refine zi_aload_n dX11_deedOf_27 rfl rfl ?_
      refine zi_getr fl_X11_31 sk72 rfl dX11_deedOf_28 ?_
      refine zi_iload_n dX11_deedOf_31 rfl rfl ?_
      refine zi_iald sk80 h.1 dX11_deedOf_32 ?_
      replace h := h.2
      exact zt_iret dX11_deedOf_33 rfl h
    · replace h := h.2 q9
      refine zi_aload_n dX11_deedOf_18 rfl rfl ?_
      refine zi_getr fl_X11_28 sk72 rfl dX11_deedOf_19 ?_
      refine zi_iload_n dX11_deedOf_22 rfl rfl ?_
      refine zi_iald sk79 h.1 dX11_deedOf_23 ?_
      replace h := h.2
      refine zi_goto (tgt := 33) dX11_deedOf_24 (by decide) ?_
      exact zt_iret dX11_deedOf_33 rfl h
  · replace h := h.2 q9
    refine zi_aload_n dX11_deedOf_4 rfl rfl ?_
    refine zi_getr fl_X11_25 sk72 rfl dX11_deedOf_5 ?_
    refine zi_iload_n dX11_deedOf_8 rfl rfl ?_
    refine zi_iald sk78 h.1 dX11_deedOf_9 ?_
    replace h := h.2
    refine zi_goto (tgt := 33) dX11_deedOf_10 (by decide) ?_
    exact zt_iret dX11_deedOf_33 rfl h
theorem e_X11_deedOf {d : Int32} {what : Int32} {S : zS} {L : zL} {P : Int32 → zS → zL → Prop} (h : ∀ X, zU mX11_deedOf X S L 0 [some (.ref 72), some (.int d), some (.int what)] [] (zpi P)) : zCi mX11_deedOf S L [.ref 72, .int d, .int what] P := zCi_of pn_X11_deedOf (Nat.le_of_ble_eq_true rfl) (fun X => zt_pad (j := 0) rfl (h X))
set_option maxHeartbeats 2000000 in
theorem b_X11_deed_0 {d : Int32} {what : Int32} {X : Nat × (Nat → Int32)} {S : zS} {L : zL} {P : Int32 → zS → zL → Prop} (h : zCi mX11_isDeed S L [.ref 72, .int d] (fun y1 S1 L1 => ((y1 = 0 → P (-2 : Int32) S1 L1) ∧ (¬ y1 = 0 → ((((0 : Int32) ≤ what ∧ what ≤ (2 : Int32)) → zCi mX11_deedOf S1 L1 [.ref 72, .int d, .int what] (fun y3 S2 L2 => P y3 S2 L2)) ∧ (¬ ((0 : Int32) ≤ what ∧ what ≤ (2 : Int32)) → P (-2 : Int32) S1 L1)))))) : zU mX11_deed X S L 0 [some (.ref 72), some (.int d), some (.int what)] [] (zpi P) := by
  refine zi_aload_n dX11_deed_0 rfl rfl ?_
  refine zi_iload_n dX11_deed_1 rfl rfl ?_
  refine zt_Vi (As := [.int d]) dX11_deed_2 lk_X11_180 sk72 rfl ⟨⟨by decide, by decide⟩, rfl, rfl⟩ rfl ⟨Nat.le_of_ble_eq_true rfl, rfl, rfl⟩ h (fun y1 S1 L1 h => ?_)
  refine zi_if_eq (tgt := 26) dX11_deed_5 (by decide) (fun q9 => ?_) (fun q9 => ?_)
  · replace h := h.1 q9
    refine zi_bipush (v := -2) dX11_deed_26 (by decide) ?_
    exact zt_iret dX11_deed_28 rfl h
  · replace h := h.2 q9
    refine zi_iload_n dX11_deed_8 rfl rfl ?_
    refine zi_iconst (v := 0) dX11_deed_9 (by decide) ?_
    refine zi_iconst (v := 2) dX11_deed_10 (by decide) ?_
    refine zt_Si (As := [.int what, .int (0 : Int32), .int (2 : Int32)]) dX11_deed_11 lk_X11_140 ⟨⟨by decide, by decide⟩, rfl, rfl⟩ rfl ⟨Nat.le_of_ble_eq_true rfl, rfl, rfl⟩ (in_s (P := fun y S9 L9 => y = (if ((0 : Int32) ≤ what ∧ what ≤ (2 : Int32)) then (1 : Int32) else 0) ∧ S1 = S9 ∧ L1 = L9) ⟨rfl, rfl, rfl⟩) (fun y2 S9 L9 q9 => ?_)
    obtain ⟨ey2, rfl, rfl⟩ := q9
    by_cases q9 : ((0 : Int32) ≤ what ∧ what ≤ (2 : Int32))
    · replace h := h.1 q9
      rw [if_pos q9] at ey2
      subst ey2
      refine zi_if_eq (tgt := 26) dX11_deed_14 (by decide) (fun z9 => absurd z9 (by decide)) (fun _ => ?_)
      refine zi_aload_n dX11_deed_17 rfl rfl ?_
      refine zi_iload_n dX11_deed_18 rfl rfl ?_
      refine zi_iload_n dX11_deed_19 rfl rfl ?_
      refine zt_Vi (As := [.int d, .int what]) dX11_deed_20 lk_X11_183 sk72 rfl ⟨⟨by decide, by decide⟩, rfl, rfl⟩ rfl ⟨Nat.le_of_ble_eq_true rfl, rfl, rfl⟩ h (fun y3 S2 L2 h => ?_)
      refine zi_goto (tgt := 28) dX11_deed_23 (by decide) ?_
      exact zt_iret dX11_deed_28 rfl h
    · replace h := h.2 q9
      rw [if_neg q9] at ey2
      subst ey2
      refine zi_if_eq (tgt := 26) dX11_deed_14 (by decide) (fun _ => ?_) (fun z9 => absurd rfl z9)
      refine zi_bipush (v := -2) dX11_deed_26 (by decide) ?_
      exact zt_iret dX11_deed_28 rfl h
theorem e_X11_deed {d : Int32} {what : Int32} {S : zS} {L : zL} {P : Int32 → zS → zL → Prop} (h : ∀ X, zU mX11_deed X S L 0 [some (.ref 72), some (.int d), some (.int what)] [] (zpi P)) : zCi mX11_deed S L [.ref 72, .int d, .int what] P := zCi_of pn_X11_deed (Nat.le_of_ble_eq_true rfl) (fun X => zt_pad (j := 0) rfl (h X))
