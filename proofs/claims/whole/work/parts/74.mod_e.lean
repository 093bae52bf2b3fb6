set_option maxHeartbeats 2000000 in
theorem b_X11_isSeen_0 {X : Nat × (Nat → Int32)} {S : zS} {L : zL} {P : Int32 → zS → zL → Prop} (h : zCv mX11_runs S L [.ref 72] (fun S1 L1 => zU mX11_isSeen X S1 L1 8 [some (.ref 72), some (.int (1 : Int32)), some (.int (0 : Int32))] [] (zpi P))) : zU mX11_isSeen X S L 0 [some (.ref 72), none, none] [] (zpi P) := by
  refine zi_aload_n dX11_isSeen_0 rfl rfl ?_
  refine zt_Vv (As := []) dX11_isSeen_1 lk_X11_269 sk72 rfl ⟨⟨by decide, by decide⟩, rfl, rfl⟩ rfl ⟨Nat.le_of_ble_eq_true rfl, rfl, rfl⟩ h (fun S1 L1 h => ?_)
  refine zi_iconst (v := 1) dX11_isSeen_4 (by decide) ?_
  refine zi_istore_n dX11_isSeen_5 rfl (by decide) rfl ?_
  refine zi_iconst (v := 0) dX11_isSeen_6 (by decide) ?_
  refine zi_istore_n dX11_isSeen_7 rfl (by decide) rfl ?_
  refine zt_drop (lv' := [some (.ref 72), some (.int (1 : Int32)), some (.int (0 : Int32))]) [true, true, true] rfl ?_
  exact h
set_option maxHeartbeats 2000000 in
theorem b_X11_isSeen_8 {v1 : Int32} {v2 : Int32} {X : Nat × (Nat → Int32)} {S : zS} {L : zL} {P : Int32 → zS → zL → Prop} (h : (((S 72 45) ≤ v2 → (narrow .boolean (.int v1) = .int v1 ∧ P v1 S L)) ∧ (¬ (S 72 45) ≤ v2 → ((v1 = 0 → (narrow .boolean (.int v1) = .int v1 ∧ P v1 S L)) ∧ (¬ v1 = 0 → vp_in v2 8 ∧ (((S 72 2) ≤ (S 105 v2.toNatClampNeg) → ∀ x1 : Int32, x1 = v2 + (1 : Int32) → zU mX11_isSeen X S L 8 [some (.ref 72), some (.int (0 : Int32)), some (.int x1)] [] (zpi P)) ∧ (¬ (S 72 2) ≤ (S 105 v2.toNatClampNeg) → vp_in v2 8 ∧ vp_in v2 8 ∧ vp_in (((8 : Int32) * (S 104 v2.toNatClampNeg)) + (S 105 v2.toNatClampNeg)) 192 ∧ vp_in v2 8 ∧ ((¬ (S 95 (((8 : Int32) * (S 104 v2.toNatClampNeg)) + (S 105 v2.toNatClampNeg)).toNatClampNeg) = (S 106 v2.toNatClampNeg) → ∀ x1 : Int32, x1 = v2 + (1 : Int32) → zU mX11_isSeen X S L 8 [some (.ref 72), some (.int (0 : Int32)), some (.int x1)] [] (zpi P)) ∧ ((S 95 (((8 : Int32) * (S 104 v2.toNatClampNeg)) + (S 105 v2.toNatClampNeg)).toNatClampNeg) = (S 106 v2.toNatClampNeg) → ∀ x1 : Int32, x1 = v2 + (1 : Int32) → zU mX11_isSeen X S L 8 [some (.ref 72), some (.int (1 : Int32)), some (.int x1)] [] (zpi P)))))))))) : zU mX11_isSeen X S L 8 [some (.ref 72), some (.int v1), some (.int v2)] [] (zpi P) := by
  refine zi_iload_n dX11_isSeen_8 rfl rfl ?_
  refine zi_aload_n dX11_isSeen_9 rfl rfl ?_
  refine zi_geti fl_X11_323 sk72 rfl dX11_isSeen_10 ?_
  refine zi_icmp_ge (tgt := 75) dX11_isSeen_13 (by decide) (fun q9 => ?_) (fun q9 => ?_)
  · replace h := h.1 q9
    refine zi_iload_n dX11_isSeen_75 rfl rfl ?_
    exact zt_zret (ty := .boolean) dX11_isSeen_76 rfl h.1 h.2
  · replace h := h.2 q9
    refine zi_iload_n dX11_isSeen_16 rfl rfl ?_
    refine zi_if_eq (tgt := 75) dX11_isSeen_17 (by decide) (fun q9 => ?_) (fun q9 => ?_)
    · replace h := h.1 q9
      refine zi_iload_n dX11_isSeen_75 rfl rfl ?_
      exact zt_zret (ty := .boolean) dX11_isSeen_76 rfl h.1 h.2
    · replace h := h.2 q9
      refine zi_aload_n dX11_isSeen_20 rfl rfl ?_
      refine zi_getr fl_X11_106 sk72 rfl dX11_isSeen_21 ?_
      refine zi_iload_n dX11_isSeen_24 rfl rfl ?_
      refine zi_iald sk105 h.1 dX11_isSeen_25 ?_
      replace h := h.2
      refine zi_aload_n dX11_isSeen_26 rfl rfl ?_
      refine zi_geti fl_X11_152 sk72 rfl dX11_isSeen_27 ?_
      refine zi_icmp_ge (tgt := 67) dX11_isSeen_30 (by decide) (fun q9 => ?_) (fun q9 => ?_)
      · replace h := h.1 q9
        refine zi_iconst (v := 0) dX11_isSeen_67 (by decide) ?_
        refine zi_istore_n dX11_isSeen_68 rfl (by decide) rfl ?_
        obtain ⟨x1, ex1⟩ : ∃ y : Int32, y = v2 + (1 : Int32) := ⟨_, rfl⟩
        replace h := h x1 ex1
        refine zi_iinc (v := x1) dX11_isSeen_69 rfl (by rw [ex1]; rfl) (by decide) rfl ?_
        refine zi_goto (tgt := 8) dX11_isSeen_72 (by decide) ?_
        refine zt_drop (lv' := [some (.ref 72), some (.int (0 : Int32)), some (.int x1)]) [true, true, true] rfl ?_
        exact h
      · replace h := h.2 q9
        refine zi_aload_n dX11_isSeen_33 rfl rfl ?_
        refine zi_getr fl_X11_76 sk72 rfl dX11_isSeen_34 ?_
        refine zi_bipush (v := 8) dX11_isSeen_37 (by decide) ?_
        refine zi_aload_n dX11_isSeen_39 rfl rfl ?_
        refine zi_getr fl_X11_103 sk72 rfl dX11_isSeen_40 ?_
        refine zi_iload_n dX11_isSeen_43 rfl rfl ?_
        refine zi_iald sk104 h.1 dX11_isSeen_44 ?_
        replace h := h.2
        refine zi_imul dX11_isSeen_45 ?_
        refine zi_aload_n dX11_isSeen_46 rfl rfl ?_
        refine zi_getr fl_X11_106 sk72 rfl dX11_isSeen_47 ?_
        refine zi_iload_n dX11_isSeen_50 rfl rfl ?_
        refine zi_iald sk105 h.1 dX11_isSeen_51 ?_
        replace h := h.2
        refine zi_iadd dX11_isSeen_52 ?_
        refine zi_iald sk95 h.1 dX11_isSeen_53 ?_
        replace h := h.2
        refine zi_aload_n dX11_isSeen_54 rfl rfl ?_
        refine zi_getr fl_X11_109 sk72 rfl dX11_isSeen_55 ?_
        refine zi_iload_n dX11_isSeen_58 rfl rfl ?_
        refine zi_iald sk106 h.1 dX11_isSeen_59 ?_
        replace h := h.2
        refine zi_icmp_ne (tgt := 67) dX11_isSeen_60 (by decide) (fun q9 => ?_) (fun q9 => ?_)
        · replace h := h.1 q9
          refine zi_iconst (v := 0) dX11_isSeen_67 (by decide) ?_
          refine zi_istore_n dX11_isSeen_68 rfl (by decide) rfl ?_
          obtain ⟨x1, ex1⟩ : ∃ y : Int32, y = v2 + (1 : Int32) := ⟨_, rfl⟩
          replace h := h x1 ex1
          refine zi_iinc (v := x1) dX11_isSeen_69 rfl (by rw [ex1]; rfl) (by decide) rfl ?_
          refine zi_goto (tgt := 8) dX11_isSeen_72 (by decide) ?_
          refine zt_drop (lv' := [some (.ref 72), some (.int (0 : Int32)), some (.int x1)]) [true, true, true] rfl ?_
          exact h
        · replace h := h.2 q9
          refine zi_iconst (v := 1) dX11_isSeen_63 (by decide) ?_
          refine zi_goto (tgt := 68) dX11_isSeen_64 (by decide) ?_
          refine zi_istore_n dX11_isSeen_68 rfl (by decide) rfl ?_
          obtain ⟨x1, ex1⟩ : ∃ y : Int32, y = v2 + (1 : Int32) := ⟨_, rfl⟩
          replace h := h x1 ex1
          refine zi_iinc (v := x1) dX11_isSeen_69 rfl (by rw [ex1]; rfl) (by decide) rfl ?_
          refine zi_goto (tgt := 8) dX11_isSeen_72 (by decide) ?_
          refine zt_drop (lv' := [some (.ref 72), some (.int (1 : Int32)), some (.int x1)]) [true, true, true] rfl ?_
          exact h
theorem e_X11_isSeen {S : zS} {L : zL} {P : Int32 → zS → zL → Prop} (h : ∀ X, zU mX11_isSeen X S L 0 [some (.ref 72), none, none] [] (zpi P)) : zCi mX11_isSeen S L [.ref 72] P := zCi_of pn_X11_isSeen (Nat.le_of_ble_eq_true rfl) (fun X => zt_pad (j := 2) rfl (h X))
set_option maxHeartbeats 2000000 in
theorem b_X11_neverNow_0 {X : Nat × (Nat → Int32)} {S : zS} {L : zL} {P : Int32 → zS → zL → Prop} (h : zCv mX11_asTold S L [.ref 72] (fun S1 L1 => zU mX11_neverNow X S1 L1 8 [some (.ref 72), some (.int (0 : Int32)), some (.int (0 : Int32))] [] (zpi P))) : zU mX11_neverNow X S L 0 [some (.ref 72), none, none] [] (zpi P) := by
  refine zi_aload_n dX11_neverNow_0 rfl rfl ?_
  refine zt_Vv (As := []) dX11_neverNow_1 lk_X11_266 sk72 rfl ⟨⟨by decide, by decide⟩, rfl, rfl⟩ rfl ⟨Nat.le_of_ble_eq_true rfl, rfl, rfl⟩ h (fun S1 L1 h => ?_)
  refine zi_iconst (v := 0) dX11_neverNow_4 (by decide) ?_
  refine zi_istore_n dX11_neverNow_5 rfl (by decide) rfl ?_
  refine zi_iconst (v := 0) dX11_neverNow_6 (by decide) ?_
  refine zi_istore_n dX11_neverNow_7 rfl (by decide) rfl ?_
  refine zt_drop (lv' := [some (.ref 72), some (.int (0 : Int32)), some (.int (0 : Int32))]) [true, true, true] rfl ?_
  exact h
set_option maxHeartbeats 2000000 in
theorem b_X11_neverNow_8 {v1 : Int32} {v2 : Int32} {X : Nat × (Nat → Int32)} {S : zS} {L : zL} {P : Int32 → zS → zL → Prop} (h : (((S 72 6) ≤ v2 → P v1 S L) ∧ (¬ (S 72 6) ≤ v2 → ∀ S1 : zS, S1 = zc S 72 (upd (S 72) 22 ((1 : Int32) <<< (v2 &&& 31))) → zCi mX11_isSeen S1 L [.ref 72] (fun y1 S2 L1 => ((y1 = 0 → ∀ x1 : Int32, x1 = (v1 ||| (0 : Int32)) → ∀ x2 : Int32, x2 = v2 + (1 : Int32) → zU mX11_neverNow X S2 L1 8 [some (.ref 72), some (.int x1), some (.int x2)] [] (zpi P)) ∧ (¬ y1 = 0 → ∀ x1 : Int32, x1 = (v1 ||| ((1 : Int32) <<< (v2 &&& 31))) → ∀ x2 : Int32, x2 = v2 + (1 : Int32) → zU mX11_neverNow X S2 L1 8 [some (.ref 72), some (.int x1), some (.int x2)] [] (zpi P))))))) : zU mX11_neverNow X S L 8 [some (.ref 72), some (.int v1), some (.int v2)] [] (zpi P) := by
  refine zi_iload_n dX11_neverNow_8 rfl rfl ?_
  refine zi_aload_n dX11_neverNow_9 rfl rfl ?_
  refine zi_geti fl_X11_155 sk72 rfl dX11_neverNow_10 ?_
  refine zi_icmp_ge (tgt := 46) dX11_neverNow_13 (by decide) (fun q9 => ?_) (fun q9 => ?_)
  · replace h := h.1 q9
    refine zi_iload_n dX11_neverNow_46 rfl rfl ?_
    exact zt_iret dX11_neverNow_47 rfl h
  · replace h := h.2 q9
    refine zi_aload_n dX11_neverNow_16 rfl rfl ?_
    refine zi_iconst (v := 1) dX11_neverNow_17 (by decide) ?_
    refine zi_iload_n dX11_neverNow_18 rfl rfl ?_
    refine zi_ishl dX11_neverNow_19 ?_
    refine zi_puti fp_X11_211 sk72 rfl dX11_neverNow_20 ?_
    refine zt_nmS (fun S1 eS1 => ?_)
    replace h := h S1 eS1
    refine zi_iload_n dX11_neverNow_23 rfl rfl ?_
    refine zi_aload_n dX11_neverNow_24 rfl rfl ?_
    refine zt_Vi (As := []) dX11_neverNow_25 lk_X11_326 sk72 rfl ⟨⟨by decide, by decide⟩, rfl, rfl⟩ rfl ⟨Nat.le_of_ble_eq_true rfl, rfl, rfl⟩ h (fun y1 S2 L1 h => ?_)
    refine zi_if_eq (tgt := 37) dX11_neverNow_28 (by decide) (fun q9 => ?_) (fun q9 => ?_)
    · replace h := h.1 q9
      refine zi_iconst (v := 0) dX11_neverNow_37 (by decide) ?_
      refine zi_ior dX11_neverNow_38 ?_
      refine zt_nmi (fun x1 ex1 => ?_)
      replace h := h x1 ex1
      refine zi_istore_n dX11_neverNow_39 rfl (by decide) rfl ?_
      obtain ⟨x2, ex2⟩ : ∃ y : Int32, y = v2 + (1 : Int32) := ⟨_, rfl⟩
      replace h := h x2 ex2
      refine zi_iinc (v := x2) dX11_neverNow_40 rfl (by rw [ex2]; rfl) (by decide) rfl ?_
      refine zi_goto (tgt := 8) dX11_neverNow_43 (by decide) ?_
      refine zt_drop (lv' := [some (.ref 72), some (.int x1), some (.int x2)]) [true, true, true] rfl ?_
      exact h
    · replace h := h.2 q9
      refine zi_iconst (v := 1) dX11_neverNow_31 (by decide) ?_
      refine zi_iload_n dX11_neverNow_32 rfl rfl ?_
      refine zi_ishl dX11_neverNow_33 ?_
      refine zi_goto (tgt := 38) dX11_neverNow_34 (by decide) ?_
      refine zi_ior dX11_neverNow_38 ?_
      refine zt_nmi (fun x1 ex1 => ?_)
      replace h := h x1 ex1
      refine zi_istore_n dX11_neverNow_39 rfl (by decide) rfl ?_
      obtain ⟨x2, ex2⟩ : ∃ y : Int32, y = v2 + (1 : Int32) := ⟨_, rfl⟩
      replace h := h x2 ex2
      refine zi_iinc (v := x2) dX11_neverNow_40 rfl (by rw [ex2]; rfl) (by decide) rfl ?_
      refine zi_goto (tgt := 8) dX11_neverNow_43 (by decide) ?_
      refine zt_drop (lv' := [some (.ref 72), some (.int x1), some (.int x2)]) [true, true, true] rfl ?_
      exact h
theorem e_X11_neverNow {S : zS} {L : zL} {P : Int32 → zS → zL → Prop} (h : ∀ X, zU mX11_neverNow X S L 0 [some (.ref 72), none, none] [] (zpi P)) : zCi mX11_neverNow S L [.ref 72] P := zCi_of pn_X11_neverNow (Nat.le_of_ble_eq_true rfl) (fun X => zt_pad (j := 2) rfl (h X))
set_option maxHeartbeats 2000000 in
theorem b_X11_never_0 {X : Nat × (Nat → Int32)} {S : zS} {L : zL} {P : Int32 → zS → zL → Prop} (h : zCi mX11_neverNow S L [.ref 72] (fun y1 S1 L1 => P y1 S1 L1)) : zU mX11_never X S L 0 [some (.ref 72)] [] (zpi P) := by
  refine zi_aload_n dX11_never_0 rfl rfl ?_
  refine zt_Vi (As := []) dX11_never_1 lk_X11_330 sk72 rfl ⟨⟨by decide, by decide⟩, rfl, rfl⟩ rfl ⟨Nat.le_of_ble_eq_true rfl, rfl, rfl⟩ h (fun y1 S1 L1 h => ?_)
  exact zt_iret dX11_never_4 rfl h
theorem e_X11_never {S : zS} {L : zL} {P : Int32 → zS → zL → Prop} (h : ∀ X, zU mX11_never X S L 0 [some (.ref 72)] [] (zpi P)) : zCi mX11_never S L [.ref 72] P := zCi_of pn_X11_never (Nat.le_of_ble_eq_true rfl) (fun X => zt_pad (j := 0) rfl (h X))
set_option maxHeartbeats 2000000 in
theorem b_X11_wasOf_0 {d : Int32} {what : Int32} {X : Nat × (Nat → Int32)} {S : zS} {L : zL} {P : Int32 → zS → zL → Prop} (h : zCv mX11_asTold S L [.ref 72] (fun S1 L1 => vp_in d 11 ∧ ∀ x1 : Int32, x1 = (S1 79 d.toNatClampNeg) → vp_in d 11 ∧ ∀ x2 : Int32, x2 = (S1 80 d.toNatClampNeg) → zU mX11_wasOf X S1 L1 25 [some (.ref 72), some (.int d), some (.int what), some (.int x1), some (.int x2), some (.int (0 : Int32)), some (.int (0 : Int32))] [] (zpi P))) : zU mX11_wasOf X S L 0 [some (.ref 72), some (.int d), some (.int what), none, none, none, none] [] (zpi P) := by
  refine zi_aload_n dX11_wasOf_0 rfl rfl ?_
  refine zt_Vv (As := []) dX11_wasOf_1 lk_X11_266 sk72 rfl ⟨⟨by decide, by decide⟩, rfl, rfl⟩ rfl ⟨Nat.le_of_ble_eq_true rfl, rfl, rfl⟩ h (fun S1 L1 h => ?_)
  refine zi_aload_n dX11_wasOf_4 rfl rfl ?_
  refine zi_getr fl_X11_28 sk72 rfl dX11_wasOf_5 ?_
  refine zi_iload_n dX11_wasOf_8 rfl rfl ?_
  refine zi_iald sk79 h.1 dX11_wasOf_9 ?_
  replace h := h.2
  refine zt_nmi (fun x1 ex1 => ?_)
  replace h := h x1 ex1
  refine zi_istore_n dX11_wasOf_10 rfl (by decide) rfl ?_
  refine zi_aload_n dX11_wasOf_11 rfl rfl ?_
  refine zi_getr fl_X11_31 sk72 rfl dX11_wasOf_12 ?_
  refine zi_iload_n dX11_wasOf_15 rfl rfl ?_
  refine zi_iald sk80 h.1 dX11_wasOf_16 ?_
  replace h := h.2
  refine zt_nmi (fun x2 ex2 => ?_)
  replace h := h x2 ex2
  refine zi_istore dX11_wasOf_17 (by decide) rfl ?_
  refine zi_iconst (v := 0) dX11_wasOf_19 (by decide) ?_
  refine zi_istore dX11_wasOf_20 (by decide) rfl ?_
  refine zi_iconst (v := 0) dX11_wasOf_22 (by decide) ?_
  refine zi_istore dX11_wasOf_23 (by decide) rfl ?_
  refine zt_drop (lv' := [some (.ref 72), some (.int d), some (.int what), some (.int x1), some (.int x2), some (.int (0 : Int32)), some (.int (0 : Int32))]) [true, true, true, true, true, true, true] rfl ?_
  exact h
set_option maxHeartbeats 2000000 in
theorem b_X11_wasOf_25 {v1 : Int32} {v2 : Int32} {v3 : Int32} {v4 : Int32} {v5 : Int32} {v6 : Int32} {X : Nat × (Nat → Int32)} {S : zS} {L : zL} {P : Int32 → zS → zL → Prop} (h : ((¬ v2 = 0 → zU mX11_wasOf X S L 39 [some (.ref 72), some (.int v1), some (.int v2), some (.int v3), some (.int v4), some (.int v5), some (.int v6)] [.int (S 72 2), .int v6] (zpi P)) ∧ (v2 = 0 → zU mX11_wasOf X S L 39 [some (.ref 72), some (.int v1), some (.int v2), some (.int v3), some (.int v4), some (.int v5), some (.int v6)] [.int (4 : Int32), .int v6] (zpi P)))) : zU mX11_wasOf X S L 25 [some (.ref 72), some (.int v1), some (.int v2), some (.int v3), some (.int v4), some (.int v5), some (.int v6)] [] (zpi P) := by
  refine zi_iload dX11_wasOf_25 rfl ?_
  refine zi_iload_n dX11_wasOf_27 rfl rfl ?_
  refine zi_if_ne (tgt := 35) dX11_wasOf_28 (by decide) (fun q9 => ?_) (fun q9 => ?_)
  · replace h := h.1 q9
    refine zi_aload_n dX11_wasOf_35 rfl rfl ?_
    refine zi_geti fl_X11_152 sk72 rfl dX11_wasOf_36 ?_
    refine zt_drop (lv' := [some (.ref 72), some (.int v1), some (.int v2), some (.int v3), some (.int v4), some (.int v5), some (.int v6)]) [true, true, true, true, true, true, true] rfl ?_
    exact h
  · replace h := h.2 q9
    refine zi_iconst (v := 4) dX11_wasOf_31 (by decide) ?_
    refine zi_goto (tgt := 39) dX11_wasOf_32 (by decide) ?_
    refine zt_drop (lv' := [some (.ref 72), some (.int v1), some (.int v2), some (.int v3), some (.int v4), some (.int v5), some (.int v6)]) [true, true, true, true, true, true, true] rfl ?_
    exact h
set_option maxHeartbeats 2000000 in
theorem b_X11_wasOf_39 {v1 : Int32} {v2 : Int32} {v3 : Int32} {v4 : Int32} {v5 : Int32} {v6 : Int32} {w1 : Int32} {w0 : Int32} {X : Nat × (Nat → Int32)} {S : zS} {L : zL} {P : Int32 → zS → zL → Prop} (h : ((w1 ≤ w0 → vp_in v1 11 ∧ ∀ S1 : zS, S1 = zc S 79 (upd (S 79) v1.toNatClampNeg v3) → vp_in v1 11 ∧ ∀ S2 : zS, S2 = zc S1 80 (upd (S1 80) v1.toNatClampNeg v4) → P v5 S2 L) ∧ (¬ w1 ≤ w0 → ((¬ v2 = (1 : Int32) → zU mX11_wasOf X S L 58 [some (.ref 72), some (.int v1), some (.int v2), some (.int v3), some (.int v4), some (.int v5), some (.int v6)] [.int v3, .int v1, .ref 79] (zpi P)) ∧ (v2 = (1 : Int32) → zU mX11_wasOf X S L 58 [some (.ref 72), some (.int v1), some (.int v2), some (.int v3), some (.int v4), some (.int v5), some (.int v6)] [.int v6, .int v1, .ref 79] (zpi P)))))) : zU mX11_wasOf X S L 39 [some (.ref 72), some (.int v1), some (.int v2), some (.int v3), some (.int v4), some (.int v5), some (.int v6)] [.int w1, .int w0] (zpi P) := by
  refine zi_icmp_ge (tgt := 102) dX11_wasOf_39 (by decide) (fun q9 => ?_) (fun q9 => ?_)
  · replace h := h.1 q9
    refine zi_aload_n dX11_wasOf_102 rfl rfl ?_
    refine zi_getr fl_X11_28 sk72 rfl dX11_wasOf_103 ?_
    refine zi_iload_n dX11_wasOf_106 rfl rfl ?_
    refine zi_iload_n dX11_wasOf_107 rfl rfl ?_
    refine zi_iast sk79 h.1 dX11_wasOf_108 ?_
    replace h := h.2
    refine zt_nmS (fun S1 eS1 => ?_)
    replace h := h S1 eS1
    refine zi_aload_n dX11_wasOf_109 rfl rfl ?_
    refine zi_getr fl_X11_31 sk72 rfl dX11_wasOf_110 ?_
    refine zi_iload_n dX11_wasOf_113 rfl rfl ?_
    refine zi_iload dX11_wasOf_114 rfl ?_
    refine zi_iast sk80 h.1 dX11_wasOf_116 ?_
    replace h := h.2
    refine zt_nmS (fun S2 eS2 => ?_)
    replace h := h S2 eS2
    refine zi_iload dX11_wasOf_117 rfl ?_
    exact zt_iret dX11_wasOf_119 rfl h
  · replace h := h.2 q9
    refine zi_aload_n dX11_wasOf_42 rfl rfl ?_
    refine zi_getr fl_X11_28 sk72 rfl dX11_wasOf_43 ?_
    refine zi_iload_n dX11_wasOf_46 rfl rfl ?_
    refine zi_iload_n dX11_wasOf_47 rfl rfl ?_
    refine zi_iconst (v := 1) dX11_wasOf_48 (by decide) ?_
    refine zi_icmp_ne (tgt := 57) dX11_wasOf_49 (by decide) (fun q9 => ?_) (fun q9 => ?_)
    · replace h := h.1 q9
      refine zi_iload_n dX11_wasOf_57 rfl rfl ?_
      refine zt_drop (lv' := [some (.ref 72), some (.int v1), some (.int v2), some (.int v3), some (.int v4), some (.int v5), some (.int v6)]) [true, true, true, true, true, true, true] rfl ?_
      exact h
    · replace h := h.2 q9
      refine zi_iload dX11_wasOf_52 rfl ?_
      refine zi_goto (tgt := 58) dX11_wasOf_54 (by decide) ?_
      refine zt_drop (lv' := [some (.ref 72), some (.int v1), some (.int v2), some (.int v3), some (.int v4), some (.int v5), some (.int v6)]) [true, true, true, true, true, true, true] rfl ?_
      exact h
set_option maxHeartbeats 2000000 in
theorem b_X11_wasOf_58 {v1 : Int32} {v2 : Int32} {v3 : Int32} {v4 : Int32} {v5 : Int32} {v6 : Int32} {w2 : Int32} {w1 : Int32} {X : Nat × (Nat → Int32)} {S : zS} {L : zL} {P : Int32 → zS → zL → Prop} (h : vp_in w1 11 ∧ ∀ S1 : zS, S1 = zc S 79 (upd (S 79) w1.toNatClampNeg w2) → ((¬ v2 = 0 → zU mX11_wasOf X S1 L 75 [some (.ref 72), some (.int v1), some (.int v2), some (.int v3), some (.int v4), some (.int v5), some (.int v6)] [.int v4, .int v1, .ref 80] (zpi P)) ∧ (v2 = 0 → zU mX11_wasOf X S1 L 75 [some (.ref 72), some (.int v1), some (.int v2), some (.int v3), some (.int v4), some (.int v5), some (.int v6)] [.int v6, .int v1, .ref 80] (zpi P)))) : zU mX11_wasOf X S L 58 [some (.ref 72), some (.int v1), some (.int v2), some (.int v3), some (.int v4), some (.int v5), some (.int v6)] [.int w2, .int w1, .ref 79] (zpi P) := by
  refine zi_iast sk79 h.1 dX11_wasOf_58 ?_
  replace h := h.2
  refine zt_nmS (fun S1 eS1 => ?_)
  replace h := h S1 eS1
  refine zi_aload_n dX11_wasOf_59 rfl rfl ?_
  refine zi_getr fl_X11_31 sk72 rfl dX11_wasOf_60 ?_
  refine zi_iload_n dX11_wasOf_63 rfl rfl ?_
  refine zi_iload_n dX11_wasOf_64 rfl rfl ?_
  refine zi_if_ne (tgt := 73) dX11_wasOf_65 (by decide) (fun q9 => ?_) (fun q9 => ?_)
  · replace h := h.1 q9
    refine zi_iload dX11_wasOf_73 rfl ?_
    refine zt_drop (lv' := [some (.ref 72), some (.int v1), some (.int v2), some (.int v3), some (.int v4), some (.int v5), some (.int v6)]) [true, true, true, true, true, true, true] rfl ?_
    exact h
  · replace h := h.2 q9
    refine zi_iload dX11_wasOf_68 rfl ?_
    refine zi_goto (tgt := 75) dX11_wasOf_70 (by decide) ?_
    refine zt_drop (lv' := [some (.ref 72), some (.int v1), some (.int v2), some (.int v3), some (.int v4), some (.int v5), some (.int v6)]) [true, true, true, true, true, true, true] rfl ?_
    exact h
set_option maxHeartbeats 2000000 in
theorem b_X11_wasOf_75 {v1 : Int32} {v2 : Int32} {v3 : Int32} {v4 : Int32} {v5 : Int32} {v6 : Int32} {w2 : Int32} {w1 : Int32} {X : Nat × (Nat → Int32)} {S : zS} {L : zL} {P : Int32 → zS → zL → Prop} (h : vp_in w1 11 ∧ ∀ S1 : zS, S1 = zc S 80 (upd (S 80) w1.toNatClampNeg w2) → zCi mX11_isSeen S1 L [.ref 72] (fun y1 S2 L1 => ((y1 = 0 → ∀ x1 : Int32, x1 = (v5 ||| (0 : Int32)) → ∀ x2 : Int32, x2 = v6 + (1 : Int32) → zU mX11_wasOf X S2 L1 25 [some (.ref 72), some (.int v1), some (.int v2), some (.int v3), some (.int v4), some (.int x1), some (.int x2)] [] (zpi P)) ∧ (¬ y1 = 0 → ∀ x1 : Int32, x1 = (v5 ||| ((1 : Int32) <<< (v6 &&& 31))) → ∀ x2 : Int32, x2 = v6 + (1 : Int32) → zU mX11_wasOf X S2 L1 25 [some (.ref 72), some (.int v1), some (.int v2), some (.int v3), some (.int v4), some (.int x1), some (.int x2)] [] (zpi P))))) : zU mX11_wasOf X S L 75 [some (.ref 72), some (.int v1), some (.int v2), some (.int v3), some (.int v4), some (.int v5), some (.int v6)] [.int w2, .int w1, .ref 80] (zpi P) := by
  refine zi_iast sk80 h.1 dX11_wasOf_75 ?_
  replace h := h.2
  refine zt_nmS (fun S1 eS1 => ?_)
  replace h := h S1 eS1
  refine zi_iload dX11_wasOf_76 rfl ?_
  refine zi_aload_n dX11_wasOf_78 rfl rfl ?_
  refine zt_Vi (As := []) dX11_wasOf_79 lk_X11_326 sk72 rfl ⟨⟨by decide, by decide⟩, rfl, rfl⟩ rfl ⟨Nat.le_of_ble_eq_true rfl, rfl, rfl⟩ h (fun y1 S2 L1 h => ?_)
  refine zi_if_eq (tgt := 92) dX11_wasOf_82 (by decide) (fun q9 => ?_) (fun q9 => ?_)
  · replace h := h.1 q9
    refine zi_iconst (v := 0) dX11_wasOf_92 (by decide) ?_
    refine zi_ior dX11_wasOf_93 ?_
    refine zt_nmi (fun x1 ex1 => ?_)
    replace h := h x1 ex1
    refine zi_istore dX11_wasOf_94 (by decide) rfl ?_
    obtain ⟨x2, ex2⟩ : ∃ y : Int32, y = v6 + (1 : Int32) := ⟨_, rfl⟩
    replace h := h x2 ex2
    refine zi_iinc (v := x2) dX11_wasOf_96 rfl (by rw [ex2]; rfl) (by decide) rfl ?_
    refine zi_goto (tgt := 25) dX11_wasOf_99 (by decide) ?_
    refine zt_drop (lv' := [some (.ref 72), some (.int v1), some (.int v2), some (.int v3), some (.int v4), some (.int x1), some (.int x2)]) [true, true, true, true, true, true, true] rfl ?_
    exact h
  · replace h := h.2 q9
    refine zi_iconst (v := 1) dX11_wasOf_85 (by decide) ?_
    refine zi_iload dX11_wasOf_86 rfl ?_
    refine zi_ishl dX11_wasOf_88 ?_
    refine zi_goto (tgt := 93) dX11_wasOf_89 (by decide) ?_
    refine zi_ior dX11_wasOf_93 ?_
    refine zt_nmi (fun x1 ex1 => ?_)
    replace h := h x1 ex1
    refine zi_istore dX11_wasOf_94 (by decide) rfl ?_
    obtain ⟨x2, ex2⟩ : ∃ y : Int32, y = v6 + (1 : Int32) := ⟨_, rfl⟩
    replace h := h x2 ex2
    refine zi_iinc (v := x2) dX11_wasOf_96 rfl (by rw [ex2]; rfl) (by decide) rfl ?_
    refine zi_goto (tgt := 25) dX11_wasOf_99 (by decide) ?_
    refine zt_drop (lv' := [some (.ref 72), some (.int v1), some (.int v2), some (.int v3), some (.int v4), some (.int x1), some (.int x2)]) [true, true, true, true, true, true, true] rfl ?_
    exact h
theorem e_X11_wasOf {d : Int32} {what : Int32} {S : zS} {L : zL} {P : Int32 → zS → zL → Prop} (h : ∀ X, zU mX11_wasOf X S L 0 [some (.ref 72), some (.int d), some (.int what), none, none, none, none] [] (zpi P)) : zCi mX11_wasOf S L [.ref 72, .int d, .int what] P := zCi_of pn_X11_wasOf (Nat.le_of_ble_eq_true rfl) (fun X => zt_pad (j := 4) rfl (h X))
set_option maxHeartbeats 2000000 in
theorem b_X11_was_0 {d : Int32} {what : Int32} {X : Nat × (Nat → Int32)} {S : zS} {L : zL} {P : Int32 → zS → zL → Prop} (h : zCi mX11_isDeed S L [.ref 72, .int d] (fun y1 S1 L1 => ((y1 = 0 → P (-2 : Int32) S1 L1) ∧ (¬ y1 = 0 → ((((0 : Int32) ≤ what ∧ what ≤ (1 : Int32)) → zCi mX11_wasOf S1 L1 [.ref 72, .int d, .int what] (fun y3 S2 L2 => P y3 S2 L2)) ∧ (¬ ((0 : Int32) ≤ what ∧ what ≤ (1 : Int32)) → P (-2 : Int32) S1 L1)))))) : zU mX11_was X S L 0 [some (.ref 72), some (.int d), some (.int what)] [] (zpi P) := by
  refine zi_aload_n dX11_was_0 rfl rfl ?_
  refine zi_iload_n dX11_was_1 rfl rfl ?_
  refine zt_Vi (As := [.int d]) dX11_was_2 lk_X11_180 sk72 rfl ⟨⟨by decide, by decide⟩, rfl, rfl⟩ rfl ⟨Nat.le_of_ble_eq_true rfl, rfl, rfl⟩ h (fun y1 S1 L1 h => ?_)
  refine zi_if_eq (tgt := 26) dX11_was_5 (by decide) (fun q9 => ?_) (fun q9 => ?_)
  · replace h := h.1 q9
    refine zi_bipush (v := -2) dX11_was_26 (by decide) ?_
    exact zt_iret dX11_was_28 rfl h
  · replace h := h.2 q9
    refine zi_iload_n dX11_was_8 rfl rfl ?_
    refine zi_iconst (v := 0) dX11_was_9 (by decide) ?_
    refine zi_iconst (v := 1) dX11_was_10 (by decide) ?_
    refine zt_Si (As := [.int what, .int (0 : Int32), .int (1 : Int32)]) dX11_was_11 lk_X11_140 ⟨⟨by decide, by decide⟩, rfl, rfl⟩ rfl ⟨Nat.le_of_ble_eq_true rfl, rfl, rfl⟩ (in_s (P := fun y S9 L9 => y = (if ((0 : Int32) ≤ what ∧ what ≤ (1 : Int32)) then (1 : Int32) else 0) ∧ S1 = S9 ∧ L1 = L9) ⟨rfl, rfl, rfl⟩) (fun y2 S9 L9 q9 => ?_)
    obtain ⟨ey2, rfl, rfl⟩ := q9
    by_cases q9 : ((0 : Int32) ≤ what ∧ what ≤ (1 : Int32))
    · replace h := h.1 q9
      rw [if_pos q9] at ey2
      subst ey2
      refine zi_if_eq (tgt := 26) dX11_was_14 (by decide) (fun z9 => absurd z9 (by decide)) (fun _ => ?_)
      refine zi_aload_n dX11_was_17 rfl rfl ?_
      refine zi_iload_n dX11_was_18 rfl rfl ?_
      refine zi_iload_n dX11_was_19 rfl rfl ?_
      refine zt_Vi (As := [.int d, .int what]) dX11_was_20 lk_X11_333 sk72 rfl ⟨⟨by decide, by decide⟩, rfl, rfl⟩ rfl ⟨Nat.le_of_ble_eq_true rfl, rfl, rfl⟩ h (fun y3 S2 L2 h => ?_)
      refine zi_goto (tgt := 28) dX11_was_23 (by decide) ?_
      exact zt_iret dX11_was_28 rfl h
    · replace h := h.2 q9
      rw [if_neg q9] at ey2
      subst ey2
      refine zi_if_eq (tgt := 26) dX11_was_14 (by decide) (fun _ => ?_) (fun z9 => absurd rfl z9)
      refine zi_bipush (v := -2) dX11_was_26 (by decide) ?_
      exact zt_iret dX11_was_28 rfl h
theorem e_X11_was {d : Int32} {what : Int32} {S : zS} {L : zL} {P : Int32 → zS → zL → Prop} (h : ∀ X, zU mX11_was X S L 0 [some (.ref 72), some (.int d), some (.int what)] [] (zpi P)) : zCi mX11_was S L [.ref 72, .int d, .int what] P := zCi_of pn_X11_was (Nat.le_of_ble_eq_true rfl) (fun X => zt_pad (j := 0) rfl (h X))
set_option maxHeartbeats 2000000 in
theorem b_X11_askOf_0 {p : Int32} {X : Nat × (Nat → Int32)} {S : zS} {L : zL} {P : Int32 → zS → zL → Prop} (h : zCi mX11_neverNow S L [.ref 72] (fun y1 S1 L1 => zU mX11_askOf X S1 L1 7 [some (.ref 72), some (.int p), some (.int y1), some (.int (0 : Int32)), none, none, none, none, none, none] [] (zpi P))) : zU mX11_askOf X S L 0 [some (.ref 72), some (.int p), none, none, none, none, none, none, none, none] [] (zpi P) := by
  refine zi_aload_n dX11_askOf_0 rfl rfl ?_
  refine zt_Vi (As := []) dX11_askOf_1 lk_X11_330 sk72 rfl ⟨⟨by decide, by decide⟩, rfl, rfl⟩ rfl ⟨Nat.le_of_ble_eq_true rfl, rfl, rfl⟩ h (fun y1 S1 L1 h => ?_)
  refine zi_istore_n dX11_askOf_4 rfl (by decide) rfl ?_
  refine zi_iconst (v := 0) dX11_askOf_5 (by decide) ?_
  refine zi_istore_n dX11_askOf_6 rfl (by decide) rfl ?_
  refine zt_drop (lv' := [some (.ref 72), some (.int p), some (.int y1), some (.int (0 : Int32)), none, none, none, none, none, none]) [true, true, true, true, false, false, false, false, false, false] rfl ?_
  exact h
set_option maxHeartbeats 2000000 in
theorem b_X11_askOf_7 {v1 : Int32} {v2 : Int32} {v3 : Int32} {X : Nat × (Nat → Int32)} {S : zS} {L : zL} {P : Int32 → zS → zL → Prop} (h : (((S 72 6) ≤ v3 → zU mX11_askOf X S L 80 [some (.ref 72), none, some (.int v2), some (.int (-1 : Int32)), some (.int (0 : Int32)), some (.int (0 : Int32)), none, none, none, none] [] (zpi P)) ∧ (¬ (S 72 6) ≤ v3 → ∀ S1 : zS, S1 = zc S 72 (upd (S 72) 22 ((1 : Int32) <<< (v3 &&& 31))) → zCv mX11_runs S1 L [.ref 72] (fun S2 L1 => zU mX11_askOf X S2 L1 29 [some (.ref 72), some (.int v1), some (.int v2), some (.int v3), some (.int (0 : Int32)), none, none, none, none, none] [] (zpi P))))) : zU mX11_askOf X S L 7 [some (.ref 72), some (.int v1), some (.int v2), some (.int v3), none, none, none, none, none, none] [] (zpi P) := by
  refine zi_iload_n dX11_askOf_7 rfl rfl ?_
  refine zi_aload_n dX11_askOf_8 rfl rfl ?_
  refine zi_geti fl_X11_155 sk72 rfl dX11_askOf_9 ?_
  refine zi_icmp_ge (tgt := 72) dX11_askOf_12 (by decide) (fun q9 => ?_) (fun q9 => ?_)
  · replace h := h.1 q9
    refine zi_iconst (v := -1) dX11_askOf_72 (by decide) ?_
    refine zi_istore_n dX11_askOf_73 rfl (by decide) rfl ?_
    refine zi_iconst (v := 0) dX11_askOf_74 (by decide) ?_
    refine zi_istore dX11_askOf_75 (by decide) rfl ?_
    refine zi_iconst (v := 0) dX11_askOf_77 (by decide) ?_
    refine zi_istore dX11_askOf_78 (by decide) rfl ?_
    refine zt_drop (lv' := [some (.ref 72), none, some (.int v2), some (.int (-1 : Int32)), some (.int (0 : Int32)), some (.int (0 : Int32)), none, none, none, none]) [true, false, true, true, true, true, false, false, false, false] rfl ?_
    exact h
  · replace h := h.2 q9
    refine zi_aload_n dX11_askOf_15 rfl rfl ?_
    refine zi_iconst (v := 1) dX11_askOf_16 (by decide) ?_
    refine zi_iload_n dX11_askOf_17 rfl rfl ?_
    refine zi_ishl dX11_askOf_18 ?_
    refine zi_puti fp_X11_211 sk72 rfl dX11_askOf_19 ?_
    refine zt_nmS (fun S1 eS1 => ?_)
    replace h := h S1 eS1
    refine zi_aload_n dX11_askOf_22 rfl rfl ?_
    refine zt_Vv (As := []) dX11_askOf_23 lk_X11_269 sk72 rfl ⟨⟨by decide, by decide⟩, rfl, rfl⟩ rfl ⟨Nat.le_of_ble_eq_true rfl, rfl, rfl⟩ h (fun S2 L1 h => ?_)
    refine zi_iconst (v := 0) dX11_askOf_26 (by decide) ?_
    refine zi_istore dX11_askOf_27 (by decide) rfl ?_
    refine zt_drop (lv' := [some (.ref 72), some (.int v1), some (.int v2), some (.int v3), some (.int (0 : Int32)), none, none, none, none, none]) [true, true, true, true, true, false, false, false, false, false] rfl ?_
    exact h
set_option maxHeartbeats 2000000 in
theorem b_X11_askOf_80 {v2 : Int32} {v3 : Int32} {v4 : Int32} {v5 : Int32} {X : Nat × (Nat → Int32)} {S : zS} {L : zL} {P : Int32 → zS → zL → Prop} (h : (((24 : Int32) ≤ v5 → P v3 S L) ∧ (¬ (24 : Int32) ≤ v5 → zU mX11_askOf X S L 93 [some (.ref 72), none, some (.int v2), some (.int v3), some (.int v4), some (.int v5), some (.int (0 : Int32)), some (.int (0 : Int32)), none, none] [] (zpi P)))) : zU mX11_askOf X S L 80 [some (.ref 72), none, some (.int v2), some (.int v3), some (.int v4), some (.int v5), none, none, none, none] [] (zpi P) := by
  refine zi_iload dX11_askOf_80 rfl ?_
  refine zi_bipush (v := 24) dX11_askOf_82 (by decide) ?_
  refine zi_icmp_ge (tgt := 253) dX11_askOf_84 (by decide) (fun q9 => ?_) (fun q9 => ?_)
  · replace h := h.1 q9
    refine zi_iload_n dX11_askOf_253 rfl rfl ?_
    exact zt_iret dX11_askOf_254 rfl h
  · replace h := h.2 q9
    refine zi_iconst (v := 0) dX11_askOf_87 (by decide) ?_
    refine zi_istore dX11_askOf_88 (by decide) rfl ?_
    refine zi_iconst (v := 0) dX11_askOf_90 (by decide) ?_
    refine zi_istore dX11_askOf_91 (by decide) rfl ?_
    refine zt_drop (lv' := [some (.ref 72), none, some (.int v2), some (.int v3), some (.int v4), some (.int v5), some (.int (0 : Int32)), some (.int (0 : Int32)), none, none]) [true, false, true, true, true, true, true, true, false, false] rfl ?_
    exact h
set_option maxHeartbeats 2000000 in
theorem b_X11_askOf_29 {v1 : Int32} {v2 : Int32} {v3 : Int32} {v4 : Int32} {X : Nat × (Nat → Int32)} {S : zS} {L : zL} {P : Int32 → zS → zL → Prop} (h : (((24 : Int32) ≤ v4 → ∀ x1 : Int32, x1 = v3 + (1 : Int32) → zU mX11_askOf X S L 7 [some (.ref 72), some (.int v1), some (.int v2), some (.int x1), none, none, none, none, none, none] [] (zpi P)) ∧ (¬ (24 : Int32) ≤ v4 → vp_in (((8 : Int32) * v4) + v1) 192 ∧ vp_in (((24 : Int32) * v3) + v4) 240 ∧ ∀ S1 : zS, S1 = zc S 107 (upd (S 107) (((24 : Int32) * v3) + v4).toNatClampNeg (S 95 (((8 : Int32) * v4) + v1).toNatClampNeg)) → ∀ x1 : Int32, x1 = v4 + (1 : Int32) → zU mX11_askOf X S1 L 29 [some (.ref 72), some (.int v1), some (.int v2), some (.int v3), some (.int x1), none, none, none, none, none] [] (zpi P)))) : zU mX11_askOf X S L 29 [some (.ref 72), some (.int v1), some (.int v2), some (.int v3), some (.int v4), none, none, none, none, none] [] (zpi P) := by
  refine zi_iload dX11_askOf_29 rfl ?_
  refine zi_bipush (v := 24) dX11_askOf_31 (by decide) ?_
  refine zi_icmp_ge (tgt := 66) dX11_askOf_33 (by decide) (fun q9 => ?_) (fun q9 => ?_)
  · replace h := h.1 q9
    obtain ⟨x1, ex1⟩ : ∃ y : Int32, y = v3 + (1 : Int32) := ⟨_, rfl⟩
    replace h := h x1 ex1
    refine zi_iinc (v := x1) dX11_askOf_66 rfl (by rw [ex1]; rfl) (by decide) rfl ?_
    refine zi_goto (tgt := 7) dX11_askOf_69 (by decide) ?_
    refine zt_drop (lv' := [some (.ref 72), some (.int v1), some (.int v2), some (.int x1), none, none, none, none, none, none]) [true, true, true, true, false, false, false, false, false, false] rfl ?_
    exact h
  · replace h := h.2 q9
    refine zi_aload_n dX11_askOf_36 rfl rfl ?_
    refine zi_getr fl_X11_112 sk72 rfl dX11_askOf_37 ?_
    refine zi_bipush (v := 24) dX11_askOf_40 (by decide) ?_
    refine zi_iload_n dX11_askOf_42 rfl rfl ?_
    refine zi_imul dX11_askOf_43 ?_
    refine zi_iload dX11_askOf_44 rfl ?_
    refine zi_iadd dX11_askOf_46 ?_
    refine zi_aload_n dX11_askOf_47 rfl rfl ?_
    refine zi_getr fl_X11_76 sk72 rfl dX11_askOf_48 ?_
    refine zi_bipush (v := 8) dX11_askOf_51 (by decide) ?_
    refine zi_iload dX11_askOf_53 rfl ?_
    refine zi_imul dX11_askOf_55 ?_
    refine zi_iload_n dX11_askOf_56 rfl rfl ?_
    refine zi_iadd dX11_askOf_57 ?_
    refine zi_iald sk95 h.1 dX11_askOf_58 ?_
    replace h := h.2
    refine zi_iast sk107 h.1 dX11_askOf_59 ?_
    replace h := h.2
    refine zt_nmS (fun S1 eS1 => ?_)
    replace h := h S1 eS1
    obtain ⟨x1, ex1⟩ : ∃ y : Int32, y = v4 + (1 : Int32) := ⟨_, rfl⟩
    replace h := h x1 ex1
    refine zi_iinc (v := x1) dX11_askOf_60 rfl (by rw [ex1]; rfl) (by decide) rfl ?_
    refine zi_goto (tgt := 29) dX11_askOf_63 (by decide) ?_
    refine zt_drop (lv' := [some (.ref 72), some (.int v1), some (.int v2), some (.int v3), some (.int x1), none, none, none, none, none]) [true, true, true, true, true, false, false, false, false, false] rfl ?_
    exact h
set_option maxHeartbeats 2000000 in
theorem b_X11_askOf_93 {v2 : Int32} {v3 : Int32} {v4 : Int32} {v5 : Int32} {v6 : Int32} {v7 : Int32} {X : Nat × (Nat → Int32)} {S : zS} {L : zL} {P : Int32 → zS → zL → Prop} (h : (((S 72 6) ≤ v7 → ((v3 = (-1 : Int32) → zU mX11_askOf X S L 214 [some (.ref 72), none, some (.int v2), some (.int v3), some (.int v4), some (.int v5), some (.int v6), none, none, none] [] (zpi P)) ∧ (¬ v3 = (-1 : Int32) → ((v4 ≤ v6 → zU mX11_askOf X S L 219 [some (.ref 72), none, some (.int v2), some (.int v3), some (.int v4), some (.int v5), some (.int v6), none, none, none] [.int (0 : Int32)] (zpi P)) ∧ (¬ v4 ≤ v6 → zU mX11_askOf X S L 214 [some (.ref 72), none, some (.int v2), some (.int v3), some (.int v4), some (.int v5), some (.int v6), none, none, none] [] (zpi P)))))) ∧ (¬ (S 72 6) ≤ v7 → zU mX11_askOf X S L 108 [some (.ref 72), none, some (.int v2), some (.int v3), some (.int v4), some (.int v5), some (.int v6), some (.int v7), some (.int (0 : Int32)), some (.int (0 : Int32))] [] (zpi P)))) : zU mX11_askOf X S L 93 [some (.ref 72), none, some (.int v2), some (.int v3), some (.int v4), some (.int v5), some (.int v6), some (.int v7), none, none] [] (zpi P) := by
  refine zi_iload dX11_askOf_93 rfl ?_
  refine zi_aload_n dX11_askOf_95 rfl rfl ?_
  refine zi_geti fl_X11_155 sk72 rfl dX11_askOf_96 ?_
  refine zi_icmp_ge (tgt := 202) dX11_askOf_99 (by decide) (fun q9 => ?_) (fun q9 => ?_)
  · replace h := h.1 q9
    refine zi_iload_n dX11_askOf_202 rfl rfl ?_
    refine zi_iconst (v := -1) dX11_askOf_203 (by decide) ?_
    refine zi_icmp_eq (tgt := 214) dX11_askOf_204 (by decide) (fun q9 => ?_) (fun q9 => ?_)
    · replace h := h.1 q9
      refine zt_drop (lv' := [some (.ref 72), none, some (.int v2), some (.int v3), some (.int v4), some (.int v5), some (.int v6), none, none, none]) [true, false, true, true, true, true, true, false, false, false] rfl ?_
      exact h
    · replace h := h.2 q9
      refine zi_iload dX11_askOf_207 rfl ?_
      refine zi_iload dX11_askOf_209 rfl ?_
      refine zi_icmp_ge (tgt := 218) dX11_askOf_211 (by decide) (fun q9 => ?_) (fun q9 => ?_)
      · replace h := h.1 q9
        refine zi_iconst (v := 0) dX11_askOf_218 (by decide) ?_
        refine zt_drop (lv' := [some (.ref 72), none, some (.int v2), some (.int v3), some (.int v4), some (.int v5), some (.int v6), none, none, none]) [true, false, true, true, true, true, true, false, false, false] rfl ?_
        exact h
      · replace h := h.2 q9
        refine zt_drop (lv' := [some (.ref 72), none, some (.int v2), some (.int v3), some (.int v4), some (.int v5), some (.int v6), none, none, none]) [true, false, true, true, true, true, true, false, false, false] rfl ?_
        exact h
  · replace h := h.2 q9
    refine zi_iconst (v := 0) dX11_askOf_102 (by decide) ?_
    refine zi_istore dX11_askOf_103 (by decide) rfl ?_
    refine zi_iconst (v := 0) dX11_askOf_105 (by decide) ?_
    refine zi_istore dX11_askOf_106 (by decide) rfl ?_
    refine zt_drop (lv' := [some (.ref 72), none, some (.int v2), some (.int v3), some (.int v4), some (.int v5), some (.int v6), some (.int v7), some (.int (0 : Int32)), some (.int (0 : Int32))]) [true, false, true, true, true, true, true, true, true, true] rfl ?_
    exact h
set_option maxHeartbeats 2000000 in
theorem b_X11_askOf_214 {v2 : Int32} {v3 : Int32} {v4 : Int32} {v5 : Int32} {v6 : Int32} {X : Nat × (Nat → Int32)} {S : zS} {L : zL} {P : Int32 → zS → zL → Prop} (h : zU mX11_askOf X S L 219 [some (.ref 72), none, some (.int v2), some (.int v3), some (.int v4), some (.int v5), some (.int v6), none, none, none] [.int (1 : Int32)] (zpi P)) : zU mX11_askOf X S L 214 [some (.ref 72), none, some (.int v2), some (.int v3), some (.int v4), some (.int v5), some (.int v6), none, none, none] [] (zpi P) := by
  refine zi_iconst (v := 1) dX11_askOf_214 (by decide) ?_
  refine zi_goto (tgt := 219) dX11_askOf_215 (by decide) ?_
  refine zt_drop (lv' := [some (.ref 72), none, some (.int v2), some (.int v3), some (.int v4), some (.int v5), some (.int v6), none, none, none]) [true, false, true, true, true, true, true, false, false, false] rfl ?_
  exact h
set_option maxHeartbeats 2000000 in
theorem b_X11_askOf_219 {v2 : Int32} {v3 : Int32} {v4 : Int32} {v5 : Int32} {v6 : Int32} {w0 : Int32} {X : Nat × (Nat → Int32)} {S : zS} {L : zL} {P : Int32 → zS → zL → Prop} (h : ((w0 = 0 → zU mX11_askOf X S L 232 [some (.ref 72), none, some (.int v2), none, some (.int v4), some (.int v5), some (.int v6), some (.int w0), none, none] [.int v3] (zpi P)) ∧ (¬ w0 = 0 → zU mX11_askOf X S L 232 [some (.ref 72), none, some (.int v2), none, some (.int v4), some (.int v5), some (.int v6), some (.int w0), none, none] [.int v5] (zpi P)))) : zU mX11_askOf X S L 219 [some (.ref 72), none, some (.int v2), some (.int v3), some (.int v4), some (.int v5), some (.int v6), none, none, none] [.int w0] (zpi P) := by
  refine zi_istore dX11_askOf_219 (by decide) rfl ?_
  refine zi_iload dX11_askOf_221 rfl ?_
  refine zi_if_eq (tgt := 231) dX11_askOf_223 (by decide) (fun q9 => ?_) (fun q9 => ?_)
  · replace h := h.1 q9
    refine zi_iload_n dX11_askOf_231 rfl rfl ?_
    refine zt_drop (lv' := [some (.ref 72), none, some (.int v2), none, some (.int v4), some (.int v5), some (.int v6), some (.int w0), none, none]) [true, false, true, false, true, true, true, true, false, false] rfl ?_
    exact h
  · replace h := h.2 q9
    refine zi_iload dX11_askOf_226 rfl ?_
    refine zi_goto (tgt := 232) dX11_askOf_228 (by decide) ?_
    refine zt_drop (lv' := [some (.ref 72), none, some (.int v2), none, some (.int v4), some (.int v5), some (.int v6), some (.int w0), none, none]) [true, false, true, false, true, true, true, true, false, false] rfl ?_
    exact h
set_option maxHeartbeats 2000000 in
theorem b_X11_askOf_108 {v2 : Int32} {v3 : Int32} {v4 : Int32} {v5 : Int32} {v6 : Int32} {v7 : Int32} {v8 : Int32} {v9 : Int32} {X : Nat × (Nat → Int32)} {S : zS} {L : zL} {P : Int32 → zS → zL → Prop} (h : (((S 72 6) ≤ v9 → ((v8 ≤ v6 → ∀ x1 : Int32, x1 = v7 + (1 : Int32) → zU mX11_askOf X S L 93 [some (.ref 72), none, some (.int v2), some (.int v3), some (.int v4), some (.int v5), some (.int v6), some (.int x1), none, none] [] (zpi P)) ∧ (¬ v8 ≤ v6 → ∀ x1 : Int32, x1 = v7 + (1 : Int32) → zU mX11_askOf X S L 93 [some (.ref 72), none, some (.int v2), some (.int v3), some (.int v4), some (.int v5), some (.int v8), some (.int x1), none, none] [] (zpi P)))) ∧ (¬ (S 72 6) ≤ v9 → ((((v2 >>> (v7 &&& 31)) &&& 1 = 1) → ((((v2 >>> (v9 &&& 31)) &&& 1 = 1) → vp_in (((24 : Int32) * v7) + v5) 240 ∧ vp_in (((24 : Int32) * v9) + v5) 240 ∧ ((¬ (S 107 (((24 : Int32) * v7) + v5).toNatClampNeg) = (S 107 (((24 : Int32) * v9) + v5).toNatClampNeg) → ∀ x1 : Int32, x1 = (v8 + (0 : Int32)) → ∀ x2 : Int32, x2 = v9 + (1 : Int32) → zU mX11_askOf X S L 108 [some (.ref 72), none, some (.int v2), some (.int v3), some (.int v4), some (.int v5), some (.int v6), some (.int v7), some (.int x1), some (.int x2)] [] (zpi P)) ∧ ((S 107 (((24 : Int32) * v7) + v5).toNatClampNeg) = (S 107 (((24 : Int32) * v9) + v5).toNatClampNeg) → ∀ x1 : Int32, x1 = (v8 + (1 : Int32)) → ∀ x2 : Int32, x2 = v9 + (1 : Int32) → zU mX11_askOf X S L 108 [some (.ref 72), none, some (.int v2), some (.int v3), some (.int v4), some (.int v5), some (.int v6), some (.int v7), some (.int x1), some (.int x2)] [] (zpi P)))) ∧ (¬ ((v2 >>> (v9 &&& 31)) &&& 1 = 1) → ∀ x1 : Int32, x1 = (v8 + (0 : Int32)) → ∀ x2 : Int32, x2 = v9 + (1 : Int32) → zU mX11_askOf X S L 108 [some (.ref 72), none, some (.int v2), some (.int v3), some (.int v4), some (.int v5), some (.int v6), some (.int v7), some (.int x1), some (.int x2)] [] (zpi P)))) ∧ (¬ ((v2 >>> (v7 &&& 31)) &&& 1 = 1) → ∀ x1 : Int32, x1 = (v8 + (0 : Int32)) → ∀ x2 : Int32, x2 = v9 + (1 : Int32) → zU mX11_askOf X S L 108 [some (.ref 72), none, some (.int v2), some (.int v3), some (.int v4), some (.int v5), some (.int v6), some (.int v7), some (.int x1), some (.int x2)] [] (zpi P)))))) : zU mX11_askOf X S L 108 [some (.ref 72), none, some (.int v2), some (.int v3), some (.int v4), some (.int v5), some (.int v6), some (.int v7), some (.int v8), some (.int v9)] [] (zpi P) := by
  refine zi_iload dX11_askOf_108 rfl ?_
  refine zi_aload_n dX11_askOf_110 rfl rfl ?_
  refine zi_geti fl_X11_155 sk72 rfl dX11_askOf_111 ?_
  refine zi_icmp_ge (tgt := 180) dX11_askOf_114 (by decide) (fun q9 => ?_) (fun q9 => ?_)
  · replace h := h.1 q9
    refine zi_iload dX11_askOf_180 rfl ?_
    refine zi_iload dX11_askOf_182 rfl ?_
    refine zi_icmp_le (tgt := 192) dX11_askOf_184 (by decide) (fun q9 => ?_) (fun q9 => ?_)
    · replace h := h.1 q9
      refine zi_iload dX11_askOf_192 rfl ?_
      refine zi_istore dX11_askOf_194 (by decide) rfl ?_
      obtain ⟨x1, ex1⟩ : ∃ y : Int32, y = v7 + (1 : Int32) := ⟨_, rfl⟩
      replace h := h x1 ex1
      refine zi_iinc (v := x1) dX11_askOf_196 rfl (by rw [ex1]; rfl) (by decide) rfl ?_
      refine zi_goto (tgt := 93) dX11_askOf_199 (by decide) ?_
      refine zt_drop (lv' := [some (.ref 72), none, some (.int v2), some (.int v3), some (.int v4), some (.int v5), some (.int v6), some (.int x1), none, none]) [true, false, true, true, true, true, true, true, false, false] rfl ?_
      exact h
    · replace h := h.2 q9
      refine zi_iload dX11_askOf_187 rfl ?_
      refine zi_goto (tgt := 194) dX11_askOf_189 (by decide) ?_
      refine zi_istore dX11_askOf_194 (by decide) rfl ?_
      obtain ⟨x1, ex1⟩ : ∃ y : Int32, y = v7 + (1 : Int32) := ⟨_, rfl⟩
      replace h := h x1 ex1
      refine zi_iinc (v := x1) dX11_askOf_196 rfl (by rw [ex1]; rfl) (by decide) rfl ?_
      refine zi_goto (tgt := 93) dX11_askOf_199 (by decide) ?_
      refine zt_drop (lv' := [some (.ref 72), none, some (.int v2), some (.int v3), some (.int v4), some (.int v5), some (.int v8), some (.int x1), none, none]) [true, false, true, true, true, true, true, true, false, false] rfl ?_
      exact h
  · replace h := h.2 q9
    refine zi_iload dX11_askOf_117 rfl ?_
    refine zi_iload_n dX11_askOf_119 rfl rfl ?_
    refine zi_iload dX11_askOf_120 rfl ?_
    refine zt_Si (As := [.int v2, .int v7]) dX11_askOf_122 lk_X11_223 ⟨⟨by decide, by decide⟩, rfl, rfl⟩ rfl ⟨Nat.le_of_ble_eq_true rfl, rfl, rfl⟩ (isIn_s (P := fun y S9 L9 => y = (if ((v2 >>> (v7 &&& 31)) &&& 1 = 1) then (1 : Int32) else 0) ∧ S = S9 ∧ L = L9) ⟨rfl, rfl, rfl⟩) (fun y1 S9 L9 q9 => ?_)
    obtain ⟨ey1, rfl, rfl⟩ := q9
    by_cases q9 : ((v2 >>> (v7 &&& 31)) &&& 1 = 1)
    · replace h := h.1 q9
      rw [if_pos q9] at ey1
      subst ey1
      refine zi_if_eq (tgt := 170) dX11_askOf_125 (by decide) (fun z9 => absurd z9 (by decide)) (fun _ => ?_)
      refine zi_iload_n dX11_askOf_128 rfl rfl ?_
      refine zi_iload dX11_askOf_129 rfl ?_
      refine zt_Si (As := [.int v2, .int v9]) dX11_askOf_131 lk_X11_223 ⟨⟨by decide, by decide⟩, rfl, rfl⟩ rfl ⟨Nat.le_of_ble_eq_true rfl, rfl, rfl⟩ (isIn_s (P := fun y S9 L9 => y = (if ((v2 >>> (v9 &&& 31)) &&& 1 = 1) then (1 : Int32) else 0) ∧ S = S9 ∧ L = L9) ⟨rfl, rfl, rfl⟩) (fun y2 S9 L9 q9 => ?_)
      obtain ⟨ey2, rfl, rfl⟩ := q9
      by_cases q9 : ((v2 >>> (v9 &&& 31)) &&& 1 = 1)
      · replace h := h.1 q9
        rw [if_pos q9] at ey2
        subst ey2
        refine zi_if_eq (tgt := 170) dX11_askOf_134 (by decide) (fun z9 => absurd z9 (by decide)) (fun _ => ?_)
        refine zi_aload_n dX11_askOf_137 rfl rfl ?_
        refine zi_getr fl_X11_112 sk72 rfl dX11_askOf_138 ?_
        refine zi_bipush (v := 24) dX11_askOf_141 (by decide) ?_
        refine zi_iload dX11_askOf_143 rfl ?_
        refine zi_imul dX11_askOf_145 ?_
        refine zi_iload dX11_askOf_146 rfl ?_
        refine zi_iadd dX11_askOf_148 ?_
        refine zi_iald sk107 h.1 dX11_askOf_149 ?_
        replace h := h.2
        refine zi_aload_n dX11_askOf_150 rfl rfl ?_
        refine zi_getr fl_X11_112 sk72 rfl dX11_askOf_151 ?_
        refine zi_bipush (v := 24) dX11_askOf_154 (by decide) ?_
        refine zi_iload dX11_askOf_156 rfl ?_
        refine zi_imul dX11_askOf_158 ?_
        refine zi_iload dX11_askOf_159 rfl ?_
        refine zi_iadd dX11_askOf_161 ?_
        refine zi_iald sk107 h.1 dX11_askOf_162 ?_
        replace h := h.2
        refine zi_icmp_ne (tgt := 170) dX11_askOf_163 (by decide) (fun q9 => ?_) (fun q9 => ?_)
        · replace h := h.1 q9
          refine zi_iconst (v := 0) dX11_askOf_170 (by decide) ?_
          refine zi_iadd dX11_askOf_171 ?_
          refine zt_nmi (fun x1 ex1 => ?_)
          replace h := h x1 ex1
          refine zi_istore dX11_askOf_172 (by decide) rfl ?_
          obtain ⟨x2, ex2⟩ : ∃ y : Int32, y = v9 + (1 : Int32) := ⟨_, rfl⟩
          replace h := h x2 ex2
          refine zi_iinc (v := x2) dX11_askOf_174 rfl (by rw [ex2]; rfl) (by decide) rfl ?_
          refine zi_goto (tgt := 108) dX11_askOf_177 (by decide) ?_
          refine zt_drop (lv' := [some (.ref 72), none, some (.int v2), some (.int v3), some (.int v4), some (.int v5), some (.int v6), some (.int v7), some (.int x1), some (.int x2)]) [true, false, true, true, true, true, true, true, true, true] rfl ?_
          exact h
        · replace h := h.2 q9
          refine zi_iconst (v := 1) dX11_askOf_166 (by decide) ?_
          refine zi_goto (tgt := 171) dX11_askOf_167 (by decide) ?_
          refine zi_iadd dX11_askOf_171 ?_
          refine zt_nmi (fun x1 ex1 => ?_)
          replace h := h x1 ex1
          refine zi_istore dX11_askOf_172 (by decide) rfl ?_
          obtain ⟨x2, ex2⟩ : ∃ y : Int32, y = v9 + (1 : Int32) := ⟨_, rfl⟩
          replace h := h x2 ex2
          refine zi_iinc (v := x2) dX11_askOf_174 rfl (by rw [ex2]; rfl) (by decide) rfl ?_
          refine zi_goto (tgt := 108) dX11_askOf_177 (by decide) ?_
          refine zt_drop (lv' := [some (.ref 72), none, some (.int v2), some (.int v3), some (.int v4), some (.int v5), some (.int v6), some (.int v7), some (.int x1), some (.int x2)]) [true, false, true, true, true, true, true, true, true, true] rfl ?_
          exact h
      · replace h := h.2 q9
        rw [if_neg q9] at ey2
        subst ey2
        refine zi_if_eq (tgt := 170) dX11_askOf_134 (by decide) (fun _ => ?_) (fun z9 => absurd rfl z9)
        refine zi_iconst (v := 0) dX11_askOf_170 (by decide) ?_
        refine zi_iadd dX11_askOf_171 ?_
        refine zt_nmi (fun x1 ex1 => ?_)
        replace h := h x1 ex1
        refine zi_istore dX11_askOf_172 (by decide) rfl ?_
        obtain ⟨x2, ex2⟩ : ∃ y : Int32, y = v9 + (1 : Int32) := ⟨_, rfl⟩
        replace h := h x2 ex2
        refine zi_iinc (v := x2) dX11_askOf_174 rfl (by rw [ex2]; rfl) (by decide) rfl ?_
        refine zi_goto (tgt := 108) dX11_askOf_177 (by decide) ?_
        refine zt_drop (lv' := [some (.ref 72), none, some (.int v2), some (.int v3), some (.int v4), some (.int v5), some (.int v6), some (.int v7), some (.int x1), some (.int x2)]) [true, false, true, true, true, true, true, true, true, true] rfl ?_
        exact h
    · replace h := h.2 q9
      rw [if_neg q9] at ey1
      subst ey1
      refine zi_if_eq (tgt := 170) dX11_askOf_125 (by decide) (fun _ => ?_) (fun z9 => absurd rfl z9)
      refine zi_iconst (v := 0) dX11_askOf_170 (by decide) ?_
      refine zi_iadd dX11_askOf_171 ?_
      refine zt_nmi (fun x1 ex1 => ?_)
      replace h := h x1 ex1
      refine zi_istore dX11_askOf_172 (by decide) rfl ?_
      obtain ⟨x2, ex2⟩ : ∃ y : Int32, y = v9 + (1 : Int32) := ⟨_, rfl⟩
      replace h := h x2 ex2
      refine zi_iinc (v := x2) dX11_askOf_174 rfl (by rw [ex2]; rfl) (by decide) rfl ?_
      refine zi_goto (tgt := 108) dX11_askOf_177 (by decide) ?_
      refine zt_drop (lv' := [some (.ref 72), none, some (.int v2), some (.int v3), some (.int v4), some (.int v5), some (.int v6), some (.int v7), some (.int x1), some (.int x2)]) [true, false, true, true, true, true, true, true, true, true] rfl ?_
      exact h
set_option maxHeartbeats 2000000 in
theorem b_X11_askOf_232 {v2 : Int32} {v4 : Int32} {v5 : Int32} {v6 : Int32} {v7 : Int32} {w0 : Int32} {X : Nat × (Nat → Int32)} {S : zS} {L : zL} {P : Int32 → zS → zL → Prop} (h : ((v7 = 0 → ∀ x1 : Int32, x1 = v5 + (1 : Int32) → zU mX11_askOf X S L 80 [some (.ref 72), none, some (.int v2), some (.int w0), some (.int v4), some (.int x1), none, none, none, none] [] (zpi P)) ∧ (¬ v7 = 0 → ∀ x1 : Int32, x1 = v5 + (1 : Int32) → zU mX11_askOf X S L 80 [some (.ref 72), none, some (.int v2), some (.int w0), some (.int v6), some (.int x1), none, none, none, none] [] (zpi P)))) : zU mX11_askOf X S L 232 [some (.ref 72), none, some (.int v2), none, some (.int v4), some (.int v5), some (.int v6), some (.int v7), none, none] [.int w0] (zpi P) := by
  refine zi_istore_n dX11_askOf_232 rfl (by decide) rfl ?_
  refine zi_iload dX11_askOf_233 rfl ?_
  refine zi_if_eq (tgt := 243) dX11_askOf_235 (by decide) (fun q9 => ?_) (fun q9 => ?_)
  · replace h := h.1 q9
    refine zi_iload dX11_askOf_243 rfl ?_
    refine zi_istore dX11_askOf_245 (by decide) rfl ?_
    obtain ⟨x1, ex1⟩ : ∃ y : Int32, y = v5 + (1 : Int32) := ⟨_, rfl⟩
    replace h := h x1 ex1
    refine zi_iinc (v := x1) dX11_askOf_247 rfl (by rw [ex1]; rfl) (by decide) rfl ?_
    refine zi_goto (tgt := 80) dX11_askOf_250 (by decide) ?_
    refine zt_drop (lv' := [some (.ref 72), none, some (.int v2), some (.int w0), some (.int v4), some (.int x1), none, none, none, none]) [true, false, true, true, true, true, false, false, false, false] rfl ?_
    exact h
  · replace h := h.2 q9
    refine zi_iload dX11_askOf_238 rfl ?_
    refine zi_goto (tgt := 245) dX11_askOf_240 (by decide) ?_
    refine zi_istore dX11_askOf_245 (by decide) rfl ?_
    obtain ⟨x1, ex1⟩ : ∃ y : Int32, y = v5 + (1 : Int32) := ⟨_, rfl⟩
    replace h := h x1 ex1
    refine zi_iinc (v := x1) dX11_askOf_247 rfl (by rw [ex1]; rfl) (by decide) rfl ?_
    refine zi_goto (tgt := 80) dX11_askOf_250 (by decide) ?_
    refine zt_drop (lv' := [some (.ref 72), none, some (.int v2), some (.int w0), some (.int v6), some (.int x1), none, none, none, none]) [true, false, true, true, true, true, false, false, false, false] rfl ?_
    exact h
theorem e_X11_askOf {p : Int32} {S : zS} {L : zL} {P : Int32 → zS → zL → Prop} (h : ∀ X, zU mX11_askOf X S L 0 [some (.ref 72), some (.int p), none, none, none, none, none, none, none, none] [] (zpi P)) : zCi mX11_askOf S L [.ref 72, .int p] P := zCi_of pn_X11_askOf (Nat.le_of_ble_eq_true rfl) (fun X => zt_pad (j := 8) rfl (h X))
set_option maxHeartbeats 2000000 in
theorem b_X11_ask_0 {p : Int32} {X : Nat × (Nat → Int32)} {S : zS} {L : zL} {P : Int32 → zS → zL → Prop} (h : zCi mX11_isPerson S L [.ref 72, .int p] (fun y1 S1 L1 => ((y1 = 0 → P (-2 : Int32) S1 L1) ∧ (¬ y1 = 0 → zCi mX11_askOf S1 L1 [.ref 72, .int p] (fun y2 S2 L2 => P y2 S2 L2))))) : zU mX11_ask X S L 0 [some (.ref 72), some (.int p)] [] (zpi P) := by
  refine zi_aload_n dX11_ask_0 rfl rfl ?_
  refine zi_iload_n dX11_ask_1 rfl rfl ?_
  refine zt_Vi (As := [.int p]) dX11_ask_2 lk_X11_174 sk72 rfl ⟨⟨by decide, by decide⟩, rfl, rfl⟩ rfl ⟨Nat.le_of_ble_eq_true rfl, rfl, rfl⟩ h (fun y1 S1 L1 h => ?_)
  refine zi_if_eq (tgt := 16) dX11_ask_5 (by decide) (fun q9 => ?_) (fun q9 => ?_)
  · replace h := h.1 q9
    refine zi_bipush (v := -2) dX11_ask_16 (by decide) ?_
    exact zt_iret dX11_ask_18 rfl h
  · replace h := h.2 q9
    refine zi_aload_n dX11_ask_8 rfl rfl ?_
    refine zi_iload_n dX11_ask_9 rfl rfl ?_
    refine zt_Vi (As := [.int p]) dX11_ask_10 lk_X11_336 sk72 rfl ⟨⟨by decide, by decide⟩, rfl, rfl⟩ rfl ⟨Nat.le_of_ble_eq_true rfl, rfl, rfl⟩ h (fun y2 S2 L2 h => ?_)
    refine zi_goto (tgt := 18) dX11_ask_13 (by decide) ?_
    exact zt_iret dX11_ask_18 rfl h
theorem e_X11_ask {p : Int32} {S : zS} {L : zL} {P : Int32 → zS → zL → Prop} (h : ∀ X, zU mX11_ask X S L 0 [some (.ref 72), some (.int p)] [] (zpi P)) : zCi mX11_ask S L [.ref 72, .int p] P := zCi_of pn_X11_ask (Nat.le_of_ble_eq_true rfl) (fun X => zt_pad (j := 0) rfl (h X))
set_option maxHeartbeats 2000000 in
theorem b_X11_no_0 {r : Int32} {X : Nat × (Nat → Int32)} {S : zS} {L : zL} {P : Int64 → zS → zL → Prop} (h : P ((-9223372036854775808 : Int64) - r.toInt64) S L) : zU mX11_no X S L 0 [some (.int r)] [] (zpl P) := by
  refine zi_ldc2 (v := -9223372036854775808) dX11_no_0 (zme 7 44 (by decide +kernel) rfl) ?_
  refine zi_iload_n dX11_no_3 rfl rfl ?_
  refine zi_i2l dX11_no_4 ?_
  refine zi_lsub dX11_no_5 ?_
  exact zt_lret dX11_no_6 rfl h
theorem e_X11_no {r : Int32} {S : zS} {L : zL} {P : Int64 → zS → zL → Prop} (h : ∀ X, zU mX11_no X S L 0 [some (.int r)] [] (zpl P)) : zCl mX11_no S L [.int r] P := zCl_of pn_X11_no (Nat.le_of_ble_eq_true rfl) (fun X => zt_pad (j := 0) rfl (h X))
set_option maxHeartbeats 2000000 in
theorem b_X11_lowest_0 {top : Int64} {bot : Int64} {what : Int32} {X : Nat × (Nat → Int32)} {S : zS} {L : zL} {P : Int64 → zS → zL → Prop} (h : zU mX11_lowest X S L 6 [some (.long top), none, some (.long bot), none, some (.int what), some (.long top), none, some (.long bot), none, none, none] [] (zpl P)) : zU mX11_lowest X S L 0 [some (.long top), none, some (.long bot), none, some (.int what), none, none, none, none, none, none] [] (zpl P) := by
  refine zi_lload_n dX11_lowest_0 rfl rfl ?_
  refine zi_lstore dX11_lowest_1 (by decide) rfl ?_
  refine zi_lload_n dX11_lowest_3 rfl rfl ?_
  refine zi_lstore dX11_lowest_4 (by decide) rfl ?_
  refine zt_drop (lv' := [some (.long top), none, some (.long bot), none, some (.int what), some (.long top), none, some (.long bot), none, none, none]) [true, false, true, false, true, true, false, true, false, false, false] rfl ?_
  exact h
set_option maxHeartbeats 2000000 in
theorem b_X11_lowest_6 {v0 : Int64} {v2 : Int64} {v4 : Int32} {v5 : Int64} {v7 : Int64} {X : Nat × (Nat → Int32)} {S : zS} {L : zL} {P : Int64 → zS → zL → Prop} (h : (((lg_cmp v7 (0 : Int64)) = 0 → ((¬ v4 = 0 → ¬ v5 = 0 ∧ P (v2 / v5) S L) ∧ (v4 = 0 → ¬ v5 = 0 ∧ P (v0 / v5) S L))) ∧ (¬ (lg_cmp v7 (0 : Int64)) = 0 → ¬ v7 = 0 ∧ ∀ z1 : Int64, z1 = (v5 - v5 / v7 * v7) → zU mX11_lowest X S L 6 [some (.long v0), none, some (.long v2), none, some (.int v4), some (.long v7), none, some (.long z1), none, none, none] [] (zpl P)))) : zU mX11_lowest X S L 6 [some (.long v0), none, some (.long v2), none, some (.int v4), some (.long v5), none, some (.long v7), none, none, none] [] (zpl P) := by
  refine zi_lload dX11_lowest_6 rfl ?_
  refine zi_lconst (v := 0) dX11_lowest_8 (by decide) ?_
  refine zi_lcmp dX11_lowest_9 ?_
  refine zi_if_eq (tgt := 31) dX11_lowest_10 (by decide) (fun q9 => ?_) (fun q9 => ?_)
  · replace h := h.1 q9
    refine zi_iload dX11_lowest_31 rfl ?_
    refine zi_if_ne (tgt := 43) dX11_lowest_33 (by decide) (fun q9 => ?_) (fun q9 => ?_)
    · replace h := h.1 q9
      refine zi_lload_n dX11_lowest_43 rfl rfl ?_
      refine zi_lload dX11_lowest_44 rfl ?_
      refine zi_ldiv dX11_lowest_46 h.1 ?_
      replace h := h.2
      exact zt_lret dX11_lowest_47 rfl h
    · replace h := h.2 q9
      refine zi_lload_n dX11_lowest_36 rfl rfl ?_
      refine zi_lload dX11_lowest_37 rfl ?_
      refine zi_ldiv dX11_lowest_39 h.1 ?_
      replace h := h.2
      refine zi_goto (tgt := 47) dX11_lowest_40 (by decide) ?_
      exact zt_lret dX11_lowest_47 rfl h
  · replace h := h.2 q9
    refine zi_lload dX11_lowest_13 rfl ?_
    refine zi_lload dX11_lowest_15 rfl ?_
    refine zi_lrem dX11_lowest_17 h.1 ?_
    replace h := h.2
    refine zt_nml (fun z1 ez1 => ?_)
    replace h := h z1 ez1
    refine zi_lstore dX11_lowest_18 (by decide) rfl ?_
    refine zi_lload dX11_lowest_20 rfl ?_
    refine zi_lstore dX11_lowest_22 (by decide) rfl ?_
    refine zi_lload dX11_lowest_24 rfl ?_
    refine zi_lstore dX11_lowest_26 (by decide) rfl ?_
    refine zi_goto (tgt := 6) dX11_lowest_28 (by decide) ?_
    refine zt_drop (lv' := [some (.long v0), none, some (.long v2), none, some (.int v4), some (.long v7), none, some (.long z1), none, none, none]) [true, false, true, false, true, true, false, true, false, false, false] rfl ?_
    exact h
theorem e_X11_lowest {top : Int64} {bot : Int64} {what : Int32} {S : zS} {L : zL} {P : Int64 → zS → zL → Prop} (h : ∀ X, zU mX11_lowest X S L 0 [some (.long top), none, some (.long bot), none, some (.int what), none, none, none, none, none, none] [] (zpl P)) : zCl mX11_lowest S L [.long top, .long bot, .int what] P := zCl_of pn_X11_lowest (Nat.le_of_ble_eq_true rfl) (fun X => zt_pad (j := 6) rfl (h X))
set_option maxHeartbeats 2000000 in
theorem b_X11_virtueOf_0 {np : Nat} {c : Int32} {last : Int32} {p : Int32} {what : Int32} {X : Nat × (Nat → Int32)} {S : zS} {L : zL} {P : Int64 → zS → zL → Prop} (h : zCv mX11_asTold S L [.ref 72] (fun S1 L1 => zU mX11_virtueOf X S1 L1 10 [some (.ref 72), some (.int c), some (.int last), some (.int p), some (.int what), some (.long (0 : Int64)), none, some (.int (0 : Int32)), none, none, none] [] (zpl P))) : zU mX11_virtueOf X S L 0 [some (.ref 72), some (.int c), some (.int last), some (.int p), some (.int what), none, none, none, none, none, none] [] (zpl P) := by
  refine zi_aload_n dX11_virtueOf_0 rfl rfl ?_
  refine zt_Vv (As := []) dX11_virtueOf_1 lk_X11_266 sk72 rfl ⟨⟨by decide, by decide⟩, rfl, rfl⟩ rfl ⟨Nat.le_of_ble_eq_true rfl, rfl, rfl⟩ h (fun S1 L1 h => ?_)
  refine zi_lconst (v := 0) dX11_virtueOf_4 (by decide) ?_
  refine zi_lstore dX11_virtueOf_5 (by decide) rfl ?_
  refine zi_iconst (v := 0) dX11_virtueOf_7 (by decide) ?_
  refine zi_istore dX11_virtueOf_8 (by decide) rfl ?_
  refine zt_drop (lv' := [some (.ref 72), some (.int c), some (.int last), some (.int p), some (.int what), some (.long (0 : Int64)), none, some (.int (0 : Int32)), none, none, none]) [true, true, true, true, true, true, false, true, false, false, false] rfl ?_
  exact h
set_option maxHeartbeats 2000000 in
theorem b_X11_virtueOf_10 {np : Nat} {v1 : Int32} {v2 : Int32} {v3 : Int32} {v4 : Int32} {v5 : Int64} {v7 : Int32} {X : Nat × (Nat → Int32)} {S : zS} {L : zL} {P : Int64 → zS → zL → Prop} (h : ((((1 : Int32) <<< ((v2 + (1 : Int32)) &&& 31)) ≤ v7 → zCl mX11_lowest S L [.long v5, .long ((1 : Int64) <<< (((4 : Int32) * (v2 + (1 : Int32))).toInt64 &&& 63)), .int v4] (fun y1 S1 L1 => P y1 S1 L1)) ∧ (¬ ((1 : Int32) <<< ((v2 + (1 : Int32)) &&& 31)) ≤ v7 → zU mX11_virtueOf X S L 26 [some (.ref 72), some (.int v1), some (.int v2), some (.int v3), some (.int v4), some (.long v5), none, some (.int v7), some (.long (1 : Int64)), none, some (.int (0 : Int32))] [] (zpl P)))) : zU mX11_virtueOf X S L 10 [some (.ref 72), some (.int v1), some (.int v2), some (.int v3), some (.int v4), some (.long v5), none, some (.int v7), none, none, none] [] (zpl P) := by
  refine zi_iload dX11_virtueOf_10 rfl ?_
  refine zi_iconst (v := 1) dX11_virtueOf_12 (by decide) ?_
  refine zi_iload_n dX11_virtueOf_13 rfl rfl ?_
  refine zi_iconst (v := 1) dX11_virtueOf_14 (by decide) ?_
  refine zi_iadd dX11_virtueOf_15 ?_
  refine zi_ishl dX11_virtueOf_16 ?_
  refine zi_icmp_ge (tgt := 105) dX11_virtueOf_17 (by decide) (fun q9 => ?_) (fun q9 => ?_)
  · replace h := h.1 q9
    refine zi_lload dX11_virtueOf_105 rfl ?_
    refine zi_lconst (v := 1) dX11_virtueOf_107 (by decide) ?_
    refine zi_iconst (v := 4) dX11_virtueOf_108 (by decide) ?_
    refine zi_iload_n dX11_virtueOf_109 rfl rfl ?_
    refine zi_iconst (v := 1) dX11_virtueOf_110 (by decide) ?_
    refine zi_iadd dX11_virtueOf_111 ?_
    refine zi_imul dX11_virtueOf_112 ?_
    refine zi_lshl dX11_virtueOf_113 ?_
    refine zi_iload dX11_virtueOf_114 rfl ?_
    refine zt_Sl (As := [.long v5, .long ((1 : Int64) <<< (((4 : Int32) * (v2 + (1 : Int32))).toInt64 &&& 63)), .int v4]) dX11_virtueOf_116 lk_X11_339 ⟨⟨by decide, by decide⟩, rfl, rfl⟩ rfl ⟨Nat.le_of_ble_eq_true rfl, rfl, rfl⟩ h (fun y1 S1 L1 h => ?_)
    exact zt_lret dX11_virtueOf_119 rfl h
  · replace h := h.2 q9
    refine zi_lconst (v := 1) dX11_virtueOf_20 (by decide) ?_
    refine zi_lstore dX11_virtueOf_21 (by decide) rfl ?_
    refine zi_iconst (v := 0) dX11_virtueOf_23 (by decide) ?_
    refine zi_istore dX11_virtueOf_24 (by decide) rfl ?_
    refine zt_drop (lv' := [some (.ref 72), some (.int v1), some (.int v2), some (.int v3), some (.int v4), some (.long v5), none, some (.int v7), some (.long (1 : Int64)), none, some (.int (0 : Int32))]) [true, true, true, true, true, true, false, true, true, false, true] rfl ?_
    exact h
set_option maxHeartbeats 2000000 in
theorem b_X11_virtueOf_26 {np : Nat} {v1 : Int32} {v2 : Int32} {v3 : Int32} {v4 : Int32} {v5 : Int64} {v7 : Int32} {v8 : Int64} {v10 : Int32} {X : Nat × (Nat → Int32)} {S : zS} {L : zL} {P : Int64 → zS → zL → Prop} (h : ((v2 < v10 → (((lg_cmp v8 (0 : Int64)) ≤ 0 → ∀ x1 : Int32, x1 = v7 + (1 : Int32) → zU mX11_virtueOf X S L 10 [some (.ref 72), some (.int v1), some (.int v2), some (.int v3), some (.int v4), some (.long v5), none, some (.int x1), none, none, none] [] (zpl P)) ∧ (¬ (lg_cmp v8 (0 : Int64)) ≤ 0 → ∀ S1 : zS, S1 = zc S 72 (upd (S 72) 24 v7) → zCv mX11_runs S1 L [.ref 72] (fun S2 L1 => (S2 72 2 = nI np ∧ np ≤ 8) ∧ (((pLv np (S2 92) v3) → ∀ z1 : Int64, z1 = (v5 + v8) → ∀ x1 : Int32, x1 = v7 + (1 : Int32) → zU mX11_virtueOf X S2 L1 10 [some (.ref 72), some (.int v1), some (.int v2), some (.int v3), some (.int v4), some (.long z1), none, some (.int x1), none, none, none] [] (zpl P)) ∧ (¬ (pLv np (S2 92) v3) → ∀ z1 : Int64, z1 = (v5 + (0 : Int64)) → ∀ x1 : Int32, x1 = v7 + (1 : Int32) → zU mX11_virtueOf X S2 L1 10 [some (.ref 72), some (.int v1), some (.int v2), some (.int v3), some (.int v4), some (.long z1), none, some (.int x1), none, none, none] [] (zpl P))))))) ∧ (¬ v2 < v10 → ((((v7 >>> (v10 &&& 31)) &&& 1 = 1) → ∀ z1 : Int64, z1 = (v8 * v1.toInt64) → ∀ x1 : Int32, x1 = v10 + (1 : Int32) → zU mX11_virtueOf X S L 26 [some (.ref 72), some (.int v1), some (.int v2), some (.int v3), some (.int v4), some (.long v5), none, some (.int v7), some (.long z1), none, some (.int x1)] [] (zpl P)) ∧ (¬ ((v7 >>> (v10 &&& 31)) &&& 1 = 1) → ∀ z1 : Int64, z1 = (v8 * ((16 : Int32) - v1).toInt64) → ∀ x1 : Int32, x1 = v10 + (1 : Int32) → zU mX11_virtueOf X S L 26 [some (.ref 72), some (.int v1), some (.int v2), some (.int v3), some (.int v4), some (.long v5), none, some (.int v7), some (.long z1), none, some (.int x1)] [] (zpl P)))))) : zU mX11_virtueOf X S L 26 [some (.ref 72), some (.int v1), some (.int v2), some (.int v3), some (.int v4), some (.long v5), none, some (.int v7), some (.long v8), none, some (.int v10)] [] (zpl P) := by
  refine zi_iload dX11_virtueOf_26 rfl ?_
  refine zi_iload_n dX11_virtueOf_28 rfl rfl ?_
  refine zi_icmp_gt (tgt := 63) dX11_virtueOf_29 (by decide) (fun q9 => ?_) (fun q9 => ?_)
  · replace h := h.1 q9
    refine zi_lload dX11_virtueOf_63 rfl ?_
    refine zi_lconst (v := 0) dX11_virtueOf_65 (by decide) ?_
    refine zi_lcmp dX11_virtueOf_66 ?_
    refine zi_if_le (tgt := 99) dX11_virtueOf_67 (by decide) (fun q9 => ?_) (fun q9 => ?_)
    · replace h := h.1 q9
      obtain ⟨x1, ex1⟩ : ∃ y : Int32, y = v7 + (1 : Int32) := ⟨_, rfl⟩
      replace h := h x1 ex1
      refine zi_iinc (v := x1) dX11_virtueOf_99 rfl (by rw [ex1]; rfl) (by decide) rfl ?_
      refine zi_goto (tgt := 10) dX11_virtueOf_102 (by decide) ?_
      refine zt_drop (lv' := [some (.ref 72), some (.int v1), some (.int v2), some (.int v3), some (.int v4), some (.long v5), none, some (.int x1), none, none, none]) [true, true, true, true, true, true, false, true, false, false, false] rfl ?_
      exact h
    · replace h := h.2 q9
      refine zi_aload_n dX11_virtueOf_70 rfl rfl ?_
      refine zi_iload dX11_virtueOf_71 rfl ?_
      refine zi_puti fp_X11_217 sk72 rfl dX11_virtueOf_73 ?_
      refine zt_nmS (fun S1 eS1 => ?_)
      replace h := h S1 eS1
      refine zi_aload_n dX11_virtueOf_76 rfl rfl ?_
      refine zt_Vv (As := []) dX11_virtueOf_77 lk_X11_269 sk72 rfl ⟨⟨by decide, by decide⟩, rfl, rfl⟩ rfl ⟨Nat.le_of_ble_eq_true rfl, rfl, rfl⟩ h (fun S2 L1 h => ?_)
      refine zi_lload dX11_virtueOf_80 rfl ?_
      refine zi_aload_n dX11_virtueOf_82 rfl rfl ?_
      refine zi_iload_n dX11_virtueOf_83 rfl rfl ?_
      refine zt_Vi (As := [.int v3]) dX11_virtueOf_84 lk_X11_227 sk72 rfl ⟨⟨by decide, by decide⟩, rfl, rfl⟩ rfl ⟨Nat.le_of_ble_eq_true rfl, rfl, rfl⟩ (mlives_s h.1.1 h.1.2 (P := fun y S9 L9 => y = (if (pLv np (S2 92) v3) then (1 : Int32) else 0) ∧ S2 = S9 ∧ L1 = L9) ⟨rfl, rfl, rfl⟩) (fun y2 S9 L9 q9 => ?_)
      obtain ⟨ey2, rfl, rfl⟩ := q9
      replace h := h.2
      by_cases q9 : (pLv np (S2 92) v3)
      · replace h := h.1 q9
        rw [if_pos q9] at ey2
        subst ey2
        refine zi_if_eq (tgt := 95) dX11_virtueOf_87 (by decide) (fun z9 => absurd z9 (by decide)) (fun _ => ?_)
        refine zi_lload dX11_virtueOf_90 rfl ?_
        refine zi_goto (tgt := 96) dX11_virtueOf_92 (by decide) ?_
        refine zi_ladd dX11_virtueOf_96 ?_
        refine zt_nml (fun z1 ez1 => ?_)
        replace h := h z1 ez1
        refine zi_lstore dX11_virtueOf_97 (by decide) rfl ?_
        obtain ⟨x1, ex1⟩ : ∃ y : Int32, y = v7 + (1 : Int32) := ⟨_, rfl⟩
        replace h := h x1 ex1
        refine zi_iinc (v := x1) dX11_virtueOf_99 rfl (by rw [ex1]; rfl) (by decide) rfl ?_
        refine zi_goto (tgt := 10) dX11_virtueOf_102 (by decide) ?_
        refine zt_drop (lv' := [some (.ref 72), some (.int v1), some (.int v2), some (.int v3), some (.int v4), some (.long z1), none, some (.int x1), none, none, none]) [true, true, true, true, true, true, false, true, false, false, false] rfl ?_
        exact h
      · replace h := h.2 q9
        rw [if_neg q9] at ey2
        subst ey2
        refine zi_if_eq (tgt := 95) dX11_virtueOf_87 (by decide) (fun _ => ?_) (fun z9 => absurd rfl z9)
        refine zi_lconst (v := 0) dX11_virtueOf_95 (by decide) ?_
        refine zi_ladd dX11_virtueOf_96 ?_
        refine zt_nml (fun z1 ez1 => ?_)
        replace h := h z1 ez1
        refine zi_lstore dX11_virtueOf_97 (by decide) rfl ?_
        obtain ⟨x1, ex1⟩ : ∃ y : Int32, y = v7 + (1 : Int32) := ⟨_, rfl⟩
        replace h := h x1 ex1
        refine zi_iinc (v := x1) dX11_virtueOf_99 rfl (by rw [ex1]; rfl) (by decide) rfl ?_
        refine zi_goto (tgt := 10) dX11_virtueOf_102 (by decide) ?_
        refine zt_drop (lv' := [some (.ref 72), some (.int v1), some (.int v2), some (.int v3), some (.int v4), some (.long z1), none, some (.int x1), none, none, none]) [true, true, true, true, true, true, false, true, false, false, false] rfl ?_
        exact h
  · replace h := h.2 q9
    refine zi_lload dX11_virtueOf_32 rfl ?_
    refine zi_iload dX11_virtueOf_34 rfl ?_
    refine zi_iload dX11_virtueOf_36 rfl ?_
    refine zt_Si (As := [.int v7, .int v10]) dX11_virtueOf_38 lk_X11_223 ⟨⟨by decide, by decide⟩, rfl, rfl⟩ rfl ⟨Nat.le_of_ble_eq_true rfl, rfl, rfl⟩ (isIn_s (P := fun y S9 L9 => y = (if ((v7 >>> (v10 &&& 31)) &&& 1 = 1) then (1 : Int32) else 0) ∧ S = S9 ∧ L = L9) ⟨rfl, rfl, rfl⟩) (fun y1 S9 L9 q9 => ?_)
    obtain ⟨ey1, rfl, rfl⟩ := q9
    by_cases q9 : ((v7 >>> (v10 &&& 31)) &&& 1 = 1)
    · replace h := h.1 q9
      rw [if_pos q9] at ey1
      subst ey1
      refine zi_if_eq (tgt := 49) dX11_virtueOf_41 (by decide) (fun z9 => absurd z9 (by decide)) (fun _ => ?_)
      refine zi_iload_n dX11_virtueOf_44 rfl rfl ?_
      refine zi_i2l dX11_virtueOf_45 ?_
      refine zi_goto (tgt := 54) dX11_virtueOf_46 (by decide) ?_
      refine zi_lmul dX11_virtueOf_54 ?_
      refine zt_nml (fun z1 ez1 => ?_)
      replace h := h z1 ez1
      refine zi_lstore dX11_virtueOf_55 (by decide) rfl ?_
      obtain ⟨x1, ex1⟩ : ∃ y : Int32, y = v10 + (1 : Int32) := ⟨_, rfl⟩
      replace h := h x1 ex1
      refine zi_iinc (v := x1) dX11_virtueOf_57 rfl (by rw [ex1]; rfl) (by decide) rfl ?_
      refine zi_goto (tgt := 26) dX11_virtueOf_60 (by decide) ?_
      refine zt_drop (lv' := [some (.ref 72), some (.int v1), some (.int v2), some (.int v3), some (.int v4), some (.long v5), none, some (.int v7), some (.long z1), none, some (.int x1)]) [true, true, true, true, true, true, false, true, true, false, true] rfl ?_
      exact h
    · replace h := h.2 q9
      rw [if_neg q9] at ey1
      subst ey1
      refine zi_if_eq (tgt := 49) dX11_virtueOf_41 (by decide) (fun _ => ?_) (fun z9 => absurd rfl z9)
      refine zi_bipush (v := 16) dX11_virtueOf_49 (by decide) ?_
      refine zi_iload_n dX11_virtueOf_51 rfl rfl ?_
      refine zi_isub dX11_virtueOf_52 ?_
      refine zi_i2l dX11_virtueOf_53 ?_
      refine zi_lmul dX11_virtueOf_54 ?_
      refine zt_nml (fun z1 ez1 => ?_)
      replace h := h z1 ez1
      refine zi_lstore dX11_virtueOf_55 (by decide) rfl ?_
      obtain ⟨x1, ex1⟩ : ∃ y : Int32, y = v10 + (1 : Int32) := ⟨_, rfl⟩
      replace h := h x1 ex1
      refine zi_iinc (v := x1) dX11_virtueOf_57 rfl (by rw [ex1]; rfl) (by decide) rfl ?_
      refine zi_goto (tgt := 26) dX11_virtueOf_60 (by decide) ?_
      refine zt_drop (lv' := [some (.ref 72), some (.int v1), some (.int v2), some (.int v3), some (.int v4), some (.long v5), none, some (.int v7), some (.long z1), none, some (.int x1)]) [true, true, true, true, true, true, false, true, true, false, true] rfl ?_
      exact h
theorem e_X11_virtueOf {c : Int32} {last : Int32} {p : Int32} {what : Int32} {S : zS} {L : zL} {P : Int64 → zS → zL → Prop} (h : ∀ X, zU mX11_virtueOf X S L 0 [some (.ref 72), some (.int c), some (.int last), some (.int p), some (.int what), none, none, none, none, none, none] [] (zpl P)) : zCl mX11_virtueOf S L [.ref 72, .int c, .int last, .int p, .int what] P := zCl_of pn_X11_virtueOf (Nat.le_of_ble_eq_true rfl) (fun X => zt_pad (j := 6) rfl (h X))
set_option maxHeartbeats 2000000 in
theorem b_X11_virtue_0 {c : Int32} {last : Int32} {p : Int32} {what : Int32} {X : Nat × (Nat → Int32)} {S : zS} {L : zL} {P : Int64 → zS → zL → Prop} (h : ((((0 : Int32) ≤ c ∧ c ≤ (16 : Int32)) → ((((0 : Int32) ≤ last ∧ last ≤ (9 : Int32)) → zCi mX11_isPerson S L [.ref 72, .int p] (fun y3 S1 L1 => ((y3 = 0 → zCl mX11_no S1 L1 [.int (-2 : Int32)] (fun y4 S2 L2 => P y4 S2 L2)) ∧ (¬ y3 = 0 → ((((0 : Int32) ≤ what ∧ what ≤ (1 : Int32)) → zCl mX11_virtueOf S1 L1 [.ref 72, .int c, .int last, .int p, .int what] (fun y5 S2 L2 => P y5 S2 L2)) ∧ (¬ ((0 : Int32) ≤ what ∧ what ≤ (1 : Int32)) → zCl mX11_no S1 L1 [.int (-2 : Int32)] (fun y5 S2 L2 => P y5 S2 L2))))))) ∧ (¬ ((0 : Int32) ≤ last ∧ last ≤ (9 : Int32)) → zCl mX11_no S L [.int (-2 : Int32)] (fun y3 S1 L1 => P y3 S1 L1)))) ∧ (¬ ((0 : Int32) ≤ c ∧ c ≤ (16 : Int32)) → zCl mX11_no S L [.int (-2 : Int32)] (fun y2 S1 L1 => P y2 S1 L1)))) : zU mX11_virtue X S L 0 [some (.ref 72), some (.int c), some (.int last), some (.int p), some (.int what)] [] (zpl P) := by
  refine zi_iload_n dX11_virtue_0 rfl rfl ?_
  refine zi_iconst (v := 0) dX11_virtue_1 (by decide) ?_
  refine zi_bipush (v := 16) dX11_virtue_2 (by decide) ?_
  refine zt_Si (As := [.int c, .int (0 : Int32), .int (16 : Int32)]) dX11_virtue_4 lk_X11_140 ⟨⟨by decide, by decide⟩, rfl, rfl⟩ rfl ⟨Nat.le_of_ble_eq_true rfl, rfl, rfl⟩ (in_s (P := fun y S9 L9 => y = (if ((0 : Int32) ≤ c ∧ c ≤ (16 : Int32)) then (1 : Int32) else 0) ∧ S = S9 ∧ L = L9) ⟨rfl, rfl, rfl⟩) (fun y1 S9 L9 q9 => ?_)
  obtain ⟨ey1, rfl, rfl⟩ := q9
  by_cases q9 : ((0 : Int32) ≤ c ∧ c ≤ (16 : Int32))
  · replace h := h.1 q9
    rw [if_pos q9] at ey1
    subst ey1
    refine zi_if_eq (tgt := 50) dX11_virtue_7 (by decide) (fun z9 => absurd z9 (by decide)) (fun _ => ?_)
    refine zi_iload_n dX11_virtue_10 rfl rfl ?_
    refine zi_iconst (v := 0) dX11_virtue_11 (by decide) ?_
    refine zi_bipush (v := 9) dX11_virtue_12 (by decide) ?_
    refine zt_Si (As := [.int last, .int (0 : Int32), .int (9 : Int32)]) dX11_virtue_14 lk_X11_140 ⟨⟨by decide, by decide⟩, rfl, rfl⟩ rfl ⟨Nat.le_of_ble_eq_true rfl, rfl, rfl⟩ (in_s (P := fun y S9 L9 => y = (if ((0 : Int32) ≤ last ∧ last ≤ (9 : Int32)) then (1 : Int32) else 0) ∧ S = S9 ∧ L = L9) ⟨rfl, rfl, rfl⟩) (fun y2 S9 L9 q9 => ?_)
    obtain ⟨ey2, rfl, rfl⟩ := q9
    by_cases q9 : ((0 : Int32) ≤ last ∧ last ≤ (9 : Int32))
    · replace h := h.1 q9
      rw [if_pos q9] at ey2
      subst ey2
      refine zi_if_eq (tgt := 50) dX11_virtue_17 (by decide) (fun z9 => absurd z9 (by decide)) (fun _ => ?_)
      refine zi_aload_n dX11_virtue_20 rfl rfl ?_
      refine zi_iload_n dX11_virtue_21 rfl rfl ?_
      refine zt_Vi (As := [.int p]) dX11_virtue_22 lk_X11_174 sk72 rfl ⟨⟨by decide, by decide⟩, rfl, rfl⟩ rfl ⟨Nat.le_of_ble_eq_true rfl, rfl, rfl⟩ h (fun y3 S1 L1 h => ?_)
      refine zi_if_eq (tgt := 50) dX11_virtue_25 (by decide) (fun q9 => ?_) (fun q9 => ?_)
      · replace h := h.1 q9
        refine zi_bipush (v := -2) dX11_virtue_50 (by decide) ?_
        refine zt_Sl (As := [.int (-2 : Int32)]) dX11_virtue_52 lk_X11_347 ⟨⟨by decide, by decide⟩, rfl, rfl⟩ rfl ⟨Nat.le_of_ble_eq_true rfl, rfl, rfl⟩ h (fun y4 S2 L2 h => ?_)
        exact zt_lret dX11_virtue_55 rfl h
      · replace h := h.2 q9
        refine zi_iload dX11_virtue_28 rfl ?_
        refine zi_iconst (v := 0) dX11_virtue_30 (by decide) ?_
        refine zi_iconst (v := 1) dX11_virtue_31 (by decide) ?_
        refine zt_Si (As := [.int what, .int (0 : Int32), .int (1 : Int32)]) dX11_virtue_32 lk_X11_140 ⟨⟨by decide, by decide⟩, rfl, rfl⟩ rfl ⟨Nat.le_of_ble_eq_true rfl, rfl, rfl⟩ (in_s (P := fun y S9 L9 => y = (if ((0 : Int32) ≤ what ∧ what ≤ (1 : Int32)) then (1 : Int32) else 0) ∧ S1 = S9 ∧ L1 = L9) ⟨rfl, rfl, rfl⟩) (fun y4 S9 L9 q9 => ?_)
        obtain ⟨ey4, rfl, rfl⟩ := q9
        by_cases q9 : ((0 : Int32) ≤ what ∧ what ≤ (1 : Int32))
        · replace h := h.1 q9
          rw [if_pos q9] at ey4
          subst ey4
          refine zi_if_eq (tgt := 50) dX11_virtue_35 (by decide) (fun z9 => absurd z9 (by decide)) (fun _ => ?_)
          refine zi_aload_n dX11_virtue_38 rfl rfl ?_
          refine zi_iload_n dX11_virtue_39 rfl rfl ?_
          refine zi_iload_n dX11_virtue_40 rfl rfl ?_
          refine zi_iload_n dX11_virtue_41 rfl rfl ?_
          refine zi_iload dX11_virtue_42 rfl ?_
          refine zt_Vl (As := [.int c, .int last, .int p, .int what]) dX11_virtue_44 lk_X11_343 sk72 rfl ⟨⟨by decide, by decide⟩, rfl, rfl⟩ rfl ⟨Nat.le_of_ble_eq_true rfl, rfl, rfl⟩ h (fun y5 S2 L2 h => ?_)
          refine zi_goto (tgt := 55) dX11_virtue_47 (by decide) ?_
          exact zt_lret dX11_virtue_55 rfl h
        · replace h := h.2 q9
          rw [if_neg q9] at ey4
          subst ey4
          refine zi_if_eq (tgt := 50) dX11_virtue_35 (by decide) (fun _ => ?_) (fun z9 => absurd rfl z9)
          refine zi_bipush (v := -2) dX11_virtue_50 (by decide) ?_
          refine zt_Sl (As := [.int (-2 : Int32)]) dX11_virtue_52 lk_X11_347 ⟨⟨by decide, by decide⟩, rfl, rfl⟩ rfl ⟨Nat.le_of_ble_eq_true rfl, rfl, rfl⟩ h (fun y5 S2 L2 h => ?_)
          exact zt_lret dX11_virtue_55 rfl h
    · replace h := h.2 q9
      rw [if_neg q9] at ey2
      subst ey2
      refine zi_if_eq (tgt := 50) dX11_virtue_17 (by decide) (fun _ => ?_) (fun z9 => absurd rfl z9)
      refine zi_bipush (v := -2) dX11_virtue_50 (by decide) ?_
      refine zt_Sl (As := [.int (-2 : Int32)]) dX11_virtue_52 lk_X11_347 ⟨⟨by decide, by decide⟩, rfl, rfl⟩ rfl ⟨Nat.le_of_ble_eq_true rfl, rfl, rfl⟩ h (fun y3 S1 L1 h => ?_)
      exact zt_lret dX11_virtue_55 rfl h
  · replace h := h.2 q9
    rw [if_neg q9] at ey1
    subst ey1
    refine zi_if_eq (tgt := 50) dX11_virtue_7 (by decide) (fun _ => ?_) (fun z9 => absurd rfl z9)
    refine zi_bipush (v := -2) dX11_virtue_50 (by decide) ?_
    refine zt_Sl (As := [.int (-2 : Int32)]) dX11_virtue_52 lk_X11_347 ⟨⟨by decide, by decide⟩, rfl, rfl⟩ rfl ⟨Nat.le_of_ble_eq_true rfl, rfl, rfl⟩ h (fun y2 S1 L1 h => ?_)
    exact zt_lret dX11_virtue_55 rfl h
theorem e_X11_virtue {c : Int32} {last : Int32} {p : Int32} {what : Int32} {S : zS} {L : zL} {P : Int64 → zS → zL → Prop} (h : ∀ X, zU mX11_virtue X S L 0 [some (.ref 72), some (.int c), some (.int last), some (.int p), some (.int what)] [] (zpl P)) : zCl mX11_virtue S L [.ref 72, .int c, .int last, .int p, .int what] P := zCl_of pn_X11_virtue (Nat.le_of_ble_eq_true rfl) (fun X => zt_pad (j := 0) rfl (h X))
set_option maxHeartbeats 2000000 in
theorem b_X11_yearsOf_0 {seed : Int32} {n : Int32} {what : Int32} {X : Nat × (Nat → Int32)} {S : zS} {L : zL} {P : Int32 → zS → zL → Prop} (h : zCv mX11_asTold S L [.ref 72] (fun S1 L1 => ((¬ (S1 72 2) = 0 → ∀ S2 : zS, S2 = zc S1 72 (upd (S1 72) 6 n) → zU mX11_yearsOf X S2 L1 26 [some (.ref 72), none, none, some (.int what), some (.int seed), some (.int (0 : Int32))] [] (zpi P)) ∧ ((S1 72 2) = 0 → ∀ S2 : zS, S2 = zc S1 72 (upd (S1 72) 6 (0 : Int32)) → zU mX11_yearsOf X S2 L1 26 [some (.ref 72), none, none, some (.int what), some (.int seed), some (.int (0 : Int32))] [] (zpi P))))) : zU mX11_yearsOf X S L 0 [some (.ref 72), some (.int seed), some (.int n), some (.int what), none, none] [] (zpi P) := by
  refine zi_aload_n dX11_yearsOf_0 rfl rfl ?_
  refine zt_Vv (As := []) dX11_yearsOf_1 lk_X11_266 sk72 rfl ⟨⟨by decide, by decide⟩, rfl, rfl⟩ rfl ⟨Nat.le_of_ble_eq_true rfl, rfl, rfl⟩ h (fun S1 L1 h => ?_)
  refine zi_iload_n dX11_yearsOf_4 rfl rfl ?_
  refine zi_istore dX11_yearsOf_5 (by decide) rfl ?_
  refine zi_aload_n dX11_yearsOf_7 rfl rfl ?_
  refine zi_aload_n dX11_yearsOf_8 rfl rfl ?_
  refine zi_geti fl_X11_152 sk72 rfl dX11_yearsOf_9 ?_
  refine zi_if_ne (tgt := 19) dX11_yearsOf_12 (by decide) (fun q9 => ?_) (fun q9 => ?_)
  · replace h := h.1 q9
    refine zi_iload_n dX11_yearsOf_19 rfl rfl ?_
    refine zi_puti fp_X11_155 sk72 rfl dX11_yearsOf_20 ?_
    refine zt_nmS (fun S2 eS2 => ?_)
    replace h := h S2 eS2
    refine zi_iconst (v := 0) dX11_yearsOf_23 (by decide) ?_
    refine zi_istore dX11_yearsOf_24 (by decide) rfl ?_
    refine zt_drop (lv' := [some (.ref 72), none, none, some (.int what), some (.int seed), some (.int (0 : Int32))]) [true, false, false, true, true, true] rfl ?_
    exact h
  · replace h := h.2 q9
    refine zi_iconst (v := 0) dX11_yearsOf_15 (by decide) ?_
    refine zi_goto (tgt := 20) dX11_yearsOf_16 (by decide) ?_
    refine zi_puti fp_X11_155 sk72 rfl dX11_yearsOf_20 ?_
    refine zt_nmS (fun S2 eS2 => ?_)
    replace h := h S2 eS2
    refine zi_iconst (v := 0) dX11_yearsOf_23 (by decide) ?_
    refine zi_istore dX11_yearsOf_24 (by decide) rfl ?_
    refine zt_drop (lv' := [some (.ref 72), none, none, some (.int what), some (.int seed), some (.int (0 : Int32))]) [true, false, false, true, true, true] rfl ?_
    exact h
set_option maxHeartbeats 2000000 in
theorem b_X11_yearsOf_26 {v3 : Int32} {v4 : Int32} {v5 : Int32} {X : Nat × (Nat → Int32)} {S : zS} {L : zL} {P : Int32 → zS → zL → Prop} (h : (((S 72 6) ≤ v5 → zCv mX11_runs S L [.ref 72] (fun S1 L1 => ((¬ v3 = 0 → vp_in (0 : Int32) 2 ∧ vp_in (1 : Int32) 2 ∧ P ((S1 102 (0 : Int32).toNatClampNeg) + (S1 102 (1 : Int32).toNatClampNeg)) S1 L1) ∧ (v3 = 0 → zCi mX11_worthAll S1 L1 [.ref 72] (fun y2 S2 L2 => P y2 S2 L2))))) ∧ (¬ (S 72 6) ≤ v5 → ∀ x1 : Int32, x1 = (((1103515245 : Int32) * v4) + (12345 : Int32)) → vp_in v5 11 ∧ ∀ S1 : zS, S1 = zc S 78 (upd (S 78) v5.toNatClampNeg ((x1.toUInt32 >>> ((16 : Int32).toUInt32 &&& Int32.toUInt32 31)).toInt32 - (x1.toUInt32 >>> ((16 : Int32).toUInt32 &&& Int32.toUInt32 31)).toInt32 / (24 : Int32) * (24 : Int32))) → ∀ x2 : Int32, x2 = (((1103515245 : Int32) * x1) + (12345 : Int32)) → ¬ (S1 72 2) = 0 ∧ vp_in v5 11 ∧ ∀ S2 : zS, S2 = zc S1 79 (upd (S1 79) v5.toNatClampNeg ((x2.toUInt32 >>> ((16 : Int32).toUInt32 &&& Int32.toUInt32 31)).toInt32 - (x2.toUInt32 >>> ((16 : Int32).toUInt32 &&& Int32.toUInt32 31)).toInt32 / (S1 72 2) * (S1 72 2))) → ∀ x3 : Int32, x3 = (((1103515245 : Int32) * x2) + (12345 : Int32)) → vp_in v5 11 ∧ ∀ S3 : zS, S3 = zc S2 80 (upd (S2 80) v5.toNatClampNeg ((x3.toUInt32 >>> ((16 : Int32).toUInt32 &&& Int32.toUInt32 31)).toInt32 - (x3.toUInt32 >>> ((16 : Int32).toUInt32 &&& Int32.toUInt32 31)).toInt32 / (4 : Int32) * (4 : Int32))) → ∀ x4 : Int32, x4 = v5 + (1 : Int32) → zU mX11_yearsOf X S3 L 26 [some (.ref 72), none, none, some (.int v3), some (.int x3), some (.int x4)] [] (zpi P)))) : zU mX11_yearsOf X S L 26 [some (.ref 72), none, none, some (.int v3), some (.int v4), some (.int v5)] [] (zpi P) := by
  refine zi_iload dX11_yearsOf_26 rfl ?_
  refine zi_aload_n dX11_yearsOf_28 rfl rfl ?_
  refine zi_geti fl_X11_155 sk72 rfl dX11_yearsOf_29 ?_
  refine zi_icmp_ge (tgt := 123) dX11_yearsOf_32 (by decide) (fun q9 => ?_) (fun q9 => ?_)
  · replace h := h.1 q9
    refine zi_aload_n dX11_yearsOf_123 rfl rfl ?_
    refine zt_Vv (As := []) dX11_yearsOf_124 lk_X11_269 sk72 rfl ⟨⟨by decide, by decide⟩, rfl, rfl⟩ rfl ⟨Nat.le_of_ble_eq_true rfl, rfl, rfl⟩ h (fun S1 L1 h => ?_)
    refine zi_iload_n dX11_yearsOf_127 rfl rfl ?_
    refine zi_if_ne (tgt := 138) dX11_yearsOf_128 (by decide) (fun q9 => ?_) (fun q9 => ?_)
    · replace h := h.1 q9
      refine zi_aload_n dX11_yearsOf_138 rfl rfl ?_
      refine zi_getr fl_X11_97 sk72 rfl dX11_yearsOf_139 ?_
      refine zi_iconst (v := 0) dX11_yearsOf_142 (by decide) ?_
      refine zi_iald sk102 h.1 dX11_yearsOf_143 ?_
      replace h := h.2
      refine zi_aload_n dX11_yearsOf_144 rfl rfl ?_
      refine zi_getr fl_X11_97 sk72 rfl dX11_yearsOf_145 ?_
      refine zi_iconst (v := 1) dX11_yearsOf_148 (by decide) ?_
      refine zi_iald sk102 h.1 dX11_yearsOf_149 ?_
      replace h := h.2
      refine zi_iadd dX11_yearsOf_150 ?_
      exact zt_iret dX11_yearsOf_151 rfl h
    · replace h := h.2 q9
      refine zi_aload_n dX11_yearsOf_131 rfl rfl ?_
      refine zt_Vi (As := []) dX11_yearsOf_132 lk_X11_296 sk72 rfl ⟨⟨by decide, by decide⟩, rfl, rfl⟩ rfl ⟨Nat.le_of_ble_eq_true rfl, rfl, rfl⟩ h (fun y2 S2 L2 h => ?_)
      refine zi_goto (tgt := 151) dX11_yearsOf_135 (by decide) ?_
      exact zt_iret dX11_yearsOf_151 rfl h
  · replace h := h.2 q9
    refine zi_ldcw (v := 1103515245) dX11_yearsOf_35 (zme 7 53 (by decide +kernel) rfl) ?_
    refine zi_iload dX11_yearsOf_38 rfl ?_
    refine zi_imul dX11_yearsOf_40 ?_
    refine zi_sipush (v := 12345) dX11_yearsOf_41 (by decide) ?_
    refine zi_iadd dX11_yearsOf_44 ?_
    refine zt_nmi (fun x1 ex1 => ?_)
    replace h := h x1 ex1
    refine zi_istore dX11_yearsOf_45 (by decide) rfl ?_
    refine zi_aload_n dX11_yearsOf_47 rfl rfl ?_
    refine zi_getr fl_X11_25 sk72 rfl dX11_yearsOf_48 ?_
    refine zi_iload dX11_yearsOf_51 rfl ?_
    refine zi_iload dX11_yearsOf_53 rfl ?_
    refine zi_bipush (v := 16) dX11_yearsOf_55 (by decide) ?_
    refine zi_iushr dX11_yearsOf_57 ?_
    refine zi_bipush (v := 24) dX11_yearsOf_58 (by decide) ?_
    refine zi_irem dX11_yearsOf_60 (by decide) ?_
    refine zi_iast sk78 h.1 dX11_yearsOf_61 ?_
    replace h := h.2
    refine zt_nmS (fun S1 eS1 => ?_)
    replace h := h S1 eS1
    refine zi_ldcw (v := 1103515245) dX11_yearsOf_62 (zme 7 53 (by decide +kernel) rfl) ?_
    refine zi_iload dX11_yearsOf_65 rfl ?_
    refine zi_imul dX11_yearsOf_67 ?_
    refine zi_sipush (v := 12345) dX11_yearsOf_68 (by decide) ?_
    refine zi_iadd dX11_yearsOf_71 ?_
    refine zt_nmi (fun x2 ex2 => ?_)
    replace h := h x2 ex2
    refine zi_istore dX11_yearsOf_72 (by decide) rfl ?_
    refine zi_aload_n dX11_yearsOf_74 rfl rfl ?_
    refine zi_getr fl_X11_28 sk72 rfl dX11_yearsOf_75 ?_
    refine zi_iload dX11_yearsOf_78 rfl ?_
    refine zi_iload dX11_yearsOf_80 rfl ?_
    refine zi_bipush (v := 16) dX11_yearsOf_82 (by decide) ?_
    refine zi_iushr dX11_yearsOf_84 ?_
    refine zi_aload_n dX11_yearsOf_85 rfl rfl ?_
    refine zi_geti fl_X11_152 sk72 rfl dX11_yearsOf_86 ?_
    refine zi_irem dX11_yearsOf_89 h.1 ?_
    replace h := h.2
    refine zi_iast sk79 h.1 dX11_yearsOf_90 ?_
    replace h := h.2
    refine zt_nmS (fun S2 eS2 => ?_)
    replace h := h S2 eS2
    refine zi_ldcw (v := 1103515245) dX11_yearsOf_91 (zme 7 53 (by decide +kernel) rfl) ?_
    refine zi_iload dX11_yearsOf_94 rfl ?_
    refine zi_imul dX11_yearsOf_96 ?_
    refine zi_sipush (v := 12345) dX11_yearsOf_97 (by decide) ?_
    refine zi_iadd dX11_yearsOf_100 ?_
    refine zt_nmi (fun x3 ex3 => ?_)
    replace h := h x3 ex3
    refine zi_istore dX11_yearsOf_101 (by decide) rfl ?_
    refine zi_aload_n dX11_yearsOf_103 rfl rfl ?_
    refine zi_getr fl_X11_31 sk72 rfl dX11_yearsOf_104 ?_
    refine zi_iload dX11_yearsOf_107 rfl ?_
    refine zi_iload dX11_yearsOf_109 rfl ?_
    refine zi_bipush (v := 16) dX11_yearsOf_111 (by decide) ?_
    refine zi_iushr dX11_yearsOf_113 ?_
    refine zi_iconst (v := 4) dX11_yearsOf_114 (by decide) ?_
    refine zi_irem dX11_yearsOf_115 (by decide) ?_
    refine zi_iast sk80 h.1 dX11_yearsOf_116 ?_
    replace h := h.2
    refine zt_nmS (fun S3 eS3 => ?_)
    replace h := h S3 eS3
    obtain ⟨x4, ex4⟩ : ∃ y : Int32, y = v5 + (1 : Int32) := ⟨_, rfl⟩
    replace h := h x4 ex4
    refine zi_iinc (v := x4) dX11_yearsOf_117 rfl (by rw [ex4]; rfl) (by decide) rfl ?_
    refine zi_goto (tgt := 26) dX11_yearsOf_120 (by decide) ?_
    refine zt_drop (lv' := [some (.ref 72), none, none, some (.int v3), some (.int x3), some (.int x4)]) [true, false, false, true, true, true] rfl ?_
    exact h
theorem e_X11_yearsOf {seed : Int32} {n : Int32} {what : Int32} {S : zS} {L : zL} {P : Int32 → zS → zL → Prop} (h : ∀ X, zU mX11_yearsOf X S L 0 [some (.ref 72), some (.int seed), some (.int n), some (.int what), none, none] [] (zpi P)) : zCi mX11_yearsOf S L [.ref 72, .int seed, .int n, .int what] P := zCi_of pn_X11_yearsOf (Nat.le_of_ble_eq_true rfl) (fun X => zt_pad (j := 2) rfl (h X))
set_option maxHeartbeats 2000000 in
theorem b_X11_years_0 {seed : Int32} {n : Int32} {what : Int32} {X : Nat × (Nat → Int32)} {S : zS} {L : zL} {P : Int32 → zS → zL → Prop} (h : ((((1 : Int32) ≤ n ∧ n ≤ (10 : Int32)) → ((((0 : Int32) ≤ what ∧ what ≤ (1 : Int32)) → zCi mX11_yearsOf S L [.ref 72, .int seed, .int n, .int what] (fun y3 S1 L1 => P y3 S1 L1)) ∧ (¬ ((0 : Int32) ≤ what ∧ what ≤ (1 : Int32)) → P (-2 : Int32) S L))) ∧ (¬ ((1 : Int32) ≤ n ∧ n ≤ (10 : Int32)) → P (-2 : Int32) S L))) : zU mX11_years X S L 0 [some (.ref 72), some (.int seed), some (.int n), some (.int what)] [] (zpi P) := by
  refine zi_iload_n dX11_years_0 rfl rfl ?_
  refine zi_iconst (v := 1) dX11_years_1 (by decide) ?_
  refine zi_bipush (v := 10) dX11_years_2 (by decide) ?_
  refine zt_Si (As := [.int n, .int (1 : Int32), .int (10 : Int32)]) dX11_years_4 lk_X11_140 ⟨⟨by decide, by decide⟩, rfl, rfl⟩ rfl ⟨Nat.le_of_ble_eq_true rfl, rfl, rfl⟩ (in_s (P := fun y S9 L9 => y = (if ((1 : Int32) ≤ n ∧ n ≤ (10 : Int32)) then (1 : Int32) else 0) ∧ S = S9 ∧ L = L9) ⟨rfl, rfl, rfl⟩) (fun y1 S9 L9 q9 => ?_)
  obtain ⟨ey1, rfl, rfl⟩ := q9
  by_cases q9 : ((1 : Int32) ≤ n ∧ n ≤ (10 : Int32))
  · replace h := h.1 q9
    rw [if_pos q9] at ey1
    subst ey1
    refine zi_if_eq (tgt := 29) dX11_years_7 (by decide) (fun z9 => absurd z9 (by decide)) (fun _ => ?_)
    refine zi_iload_n dX11_years_10 rfl rfl ?_
    refine zi_iconst (v := 0) dX11_years_11 (by decide) ?_
    refine zi_iconst (v := 1) dX11_years_12 (by decide) ?_
    refine zt_Si (As := [.int what, .int (0 : Int32), .int (1 : Int32)]) dX11_years_13 lk_X11_140 ⟨⟨by decide, by decide⟩, rfl, rfl⟩ rfl ⟨Nat.le_of_ble_eq_true rfl, rfl, rfl⟩ (in_s (P := fun y S9 L9 => y = (if ((0 : Int32) ≤ what ∧ what ≤ (1 : Int32)) then (1 : Int32) else 0) ∧ S = S9 ∧ L = L9) ⟨rfl, rfl, rfl⟩) (fun y2 S9 L9 q9 => ?_)
    obtain ⟨ey2, rfl, rfl⟩ := q9
    by_cases q9 : ((0 : Int32) ≤ what ∧ what ≤ (1 : Int32))
    · replace h := h.1 q9
      rw [if_pos q9] at ey2
      subst ey2
      refine zi_if_eq (tgt := 29) dX11_years_16 (by decide) (fun z9 => absurd z9 (by decide)) (fun _ => ?_)
      refine zi_aload_n dX11_years_19 rfl rfl ?_
      refine zi_iload_n dX11_years_20 rfl rfl ?_
      refine zi_iload_n dX11_years_21 rfl rfl ?_
      refine zi_iload_n dX11_years_22 rfl rfl ?_
      refine zt_Vi (As := [.int seed, .int n, .int what]) dX11_years_23 lk_X11_352 sk72 rfl ⟨⟨by decide, by decide⟩, rfl, rfl⟩ rfl ⟨Nat.le_of_ble_eq_true rfl, rfl, rfl⟩ h (fun y3 S1 L1 h => ?_)
      refine zi_goto (tgt := 31) dX11_years_26 (by decide) ?_
      exact zt_iret dX11_years_31 rfl h
    · replace h := h.2 q9
      rw [if_neg q9] at ey2
      subst ey2
      refine zi_if_eq (tgt := 29) dX11_years_16 (by decide) (fun _ => ?_) (fun z9 => absurd rfl z9)
      refine zi_bipush (v := -2) dX11_years_29 (by decide) ?_
      exact zt_iret dX11_years_31 rfl h
  · replace h := h.2 q9
    rw [if_neg q9] at ey1
    subst ey1
    refine zi_if_eq (tgt := 29) dX11_years_7 (by decide) (fun _ => ?_) (fun z9 => absurd rfl z9)
    refine zi_bipush (v := -2) dX11_years_29 (by decide) ?_
    exact zt_iret dX11_years_31 rfl h
theorem e_X11_years {seed : Int32} {n : Int32} {what : Int32} {S : zS} {L : zL} {P : Int32 → zS → zL → Prop} (h : ∀ X, zU mX11_years X S L 0 [some (.ref 72), some (.int seed), some (.int n), some (.int what)] [] (zpi P)) : zCi mX11_years S L [.ref 72, .int seed, .int n, .int what] P := zCi_of pn_X11_years (Nat.le_of_ble_eq_true rfl) (fun X => zt_pad (j := 0) rfl (h X))
