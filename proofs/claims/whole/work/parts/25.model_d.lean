set_option maxHeartbeats 2000000 in
theorem b_X11_nextIn_0 {np : Nat} {cty : Int32} {X : Nat × (Nat → Int32)} {S : zS} {L : zL} {P : Int32 → zS → zL → Prop} (h : zU mX11_nextIn X S L 4 [some (.ref 72), some (.int cty), some (.int (-1 : Int32)), some (.int (0 : Int32)), none] [] (zpi P)) : zU mX11_nextIn X S L 0 [some (.ref 72), some (.int cty), none, none, none] [] (zpi P) := by
  refine zi_iconst (v := -1) dX11_nextIn_0 (by decide) ?_
  refine zi_istore_n dX11_nextIn_1 rfl (by decide) rfl ?_
  refine zi_iconst (v := 0) dX11_nextIn_2 (by decide) ?_
  refine zi_istore_n dX11_nextIn_3 rfl (by decide) rfl ?_
  refine zt_drop (lv' := [some (.ref 72), some (.int cty), some (.int (-1 : Int32)), some (.int (0 : Int32)), none]) [true, true, true, true, false] rfl ?_
  exact h
set_option maxHeartbeats 2000000 in
theorem b_X11_nextIn_4 {np : Nat} {v1 : Int32} {v2 : Int32} {v3 : Int32} {X : Nat × (Nat → Int32)} {S : zS} {L : zL} {P : Int32 → zS → zL → Prop} (h : (((S 72 2) ≤ v3 → P v2 S L) ∧ (¬ (S 72 2) ≤ v3 → (S 72 2 = nI np ∧ np ≤ 8) ∧ (((pLv np (S 92) v3) → vp_in v3 8 ∧ ((¬ (S 89 v3.toNatClampNeg) = v1 → zU mX11_nextIn X S L 43 [some (.ref 72), some (.int v1), some (.int v2), some (.int v3), none] [] (zpi P)) ∧ ((S 89 v3.toNatClampNeg) = v1 → vp_in v3 8 ∧ (((S 88 v3.toNatClampNeg) ≤ 0 → zU mX11_nextIn X S L 43 [some (.ref 72), some (.int v1), some (.int v2), some (.int v3), none] [] (zpi P)) ∧ (¬ (S 88 v3.toNatClampNeg) ≤ 0 → zU mX11_nextIn X S L 44 [some (.ref 72), some (.int v1), some (.int v2), some (.int v3), none] [.int (1 : Int32)] (zpi P)))))) ∧ (¬ (pLv np (S 92) v3) → zU mX11_nextIn X S L 43 [some (.ref 72), some (.int v1), some (.int v2), some (.int v3), none] [] (zpi P)))))) : zU mX11_nextIn X S L 4 [some (.ref 72), some (.int v1), some (.int v2), some (.int v3), none] [] (zpi P) := by
  refine zi_iload_n dX11_nextIn_4 rfl rfl ?_
  refine zi_aload_n dX11_nextIn_5 rfl rfl ?_
  refine zi_geti fl_X11_152 sk72 rfl dX11_nextIn_6 ?_
  refine zi_icmp_ge (tgt := 83) dX11_nextIn_9 (by decide) (fun q9 => ?_) (fun q9 => ?_)
  · replace h := h.1 q9
    refine zi_iload_n dX11_nextIn_83 rfl rfl ?_
    exact zt_iret dX11_nextIn_84 rfl h
  · replace h := h.2 q9
    refine zi_aload_n dX11_nextIn_12 rfl rfl ?_
    refine zi_iload_n dX11_nextIn_13 rfl rfl ?_
    refine zt_Vi (As := [.int v3]) dX11_nextIn_14 lk_X11_227 sk72 rfl ⟨⟨by decide, by decide⟩, rfl, rfl⟩ rfl ⟨Nat.le_of_ble_eq_true rfl, rfl, rfl⟩ (mlives_s h.1.1 h.1.2 (P := fun y S9 L9 => y = (if (pLv np (S 92) v3) then (1 : Int32) else 0) ∧ S = S9 ∧ L = L9) ⟨rfl, rfl, rfl⟩) (fun y1 S9 L9 q9 => ?_)
    obtain ⟨ey1, rfl, rfl⟩ := q9
    replace h := h.2
    by_cases q9 : (pLv np (S 92) v3)
    · replace h := h.1 q9
      rw [if_pos q9] at ey1
      subst ey1
      refine zi_if_eq (tgt := 43) dX11_nextIn_17 (by decide) (fun z9 => absurd z9 (by decide)) (fun _ => ?_)
      refine zi_aload_n dX11_nextIn_20 rfl rfl ?_
      refine zi_getr fl_X11_58 sk72 rfl dX11_nextIn_21 ?_
      refine zi_iload_n dX11_nextIn_24 rfl rfl ?_
      refine zi_iald sk89 h.1 dX11_nextIn_25 ?_
      replace h := h.2
      refine zi_iload_n dX11_nextIn_26 rfl rfl ?_
      refine zi_icmp_ne (tgt := 43) dX11_nextIn_27 (by decide) (fun q9 => ?_) (fun q9 => ?_)
      · replace h := h.1 q9
        refine zt_drop (lv' := [some (.ref 72), some (.int v1), some (.int v2), some (.int v3), none]) [true, true, true, true, false] rfl ?_
        exact h
      · replace h := h.2 q9
        refine zi_aload_n dX11_nextIn_30 rfl rfl ?_
        refine zi_getr fl_X11_55 sk72 rfl dX11_nextIn_31 ?_
        refine zi_iload_n dX11_nextIn_34 rfl rfl ?_
        refine zi_iald sk88 h.1 dX11_nextIn_35 ?_
        replace h := h.2
        refine zi_if_le (tgt := 43) dX11_nextIn_36 (by decide) (fun q9 => ?_) (fun q9 => ?_)
        · replace h := h.1 q9
          refine zt_drop (lv' := [some (.ref 72), some (.int v1), some (.int v2), some (.int v3), none]) [true, true, true, true, false] rfl ?_
          exact h
        · replace h := h.2 q9
          refine zi_iconst (v := 1) dX11_nextIn_39 (by decide) ?_
          refine zi_goto (tgt := 44) dX11_nextIn_40 (by decide) ?_
          refine zt_drop (lv' := [some (.ref 72), some (.int v1), some (.int v2), some (.int v3), none]) [true, true, true, true, false] rfl ?_
          exact h
    · replace h := h.2 q9
      rw [if_neg q9] at ey1
      subst ey1
      refine zi_if_eq (tgt := 43) dX11_nextIn_17 (by decide) (fun _ => ?_) (fun z9 => absurd rfl z9)
      refine zt_drop (lv' := [some (.ref 72), some (.int v1), some (.int v2), some (.int v3), none]) [true, true, true, true, false] rfl ?_
      exact h
set_option maxHeartbeats 2000000 in
theorem b_X11_nextIn_43 {np : Nat} {v1 : Int32} {v2 : Int32} {v3 : Int32} {X : Nat × (Nat → Int32)} {S : zS} {L : zL} {P : Int32 → zS → zL → Prop} (h : zU mX11_nextIn X S L 44 [some (.ref 72), some (.int v1), some (.int v2), some (.int v3), none] [.int (0 : Int32)] (zpi P)) : zU mX11_nextIn X S L 43 [some (.ref 72), some (.int v1), some (.int v2), some (.int v3), none] [] (zpi P) := by
  refine zi_iconst (v := 0) dX11_nextIn_43 (by decide) ?_
  refine zt_drop (lv' := [some (.ref 72), some (.int v1), some (.int v2), some (.int v3), none]) [true, true, true, true, false] rfl ?_
  exact h
set_option maxHeartbeats 2000000 in
theorem b_X11_nextIn_44 {np : Nat} {v1 : Int32} {v2 : Int32} {v3 : Int32} {w0 : Int32} {X : Nat × (Nat → Int32)} {S : zS} {L : zL} {P : Int32 → zS → zL → Prop} (h : ((w0 = 0 → ∀ x1 : Int32, x1 = v3 + (1 : Int32) → zU mX11_nextIn X S L 4 [some (.ref 72), some (.int v1), some (.int v2), some (.int x1), none] [] (zpi P)) ∧ (¬ w0 = 0 → ((v2 = (-1 : Int32) → ∀ x1 : Int32, x1 = v3 + (1 : Int32) → zU mX11_nextIn X S L 4 [some (.ref 72), some (.int v1), some (.int v3), some (.int x1), none] [] (zpi P)) ∧ (¬ v2 = (-1 : Int32) → vp_in v3 8 ∧ vp_in v2 8 ∧ (((S 88 v3.toNatClampNeg) ≤ (S 88 v2.toNatClampNeg) → ∀ x1 : Int32, x1 = v3 + (1 : Int32) → zU mX11_nextIn X S L 4 [some (.ref 72), some (.int v1), some (.int v2), some (.int x1), none] [] (zpi P)) ∧ (¬ (S 88 v3.toNatClampNeg) ≤ (S 88 v2.toNatClampNeg) → ∀ x1 : Int32, x1 = v3 + (1 : Int32) → zU mX11_nextIn X S L 4 [some (.ref 72), some (.int v1), some (.int v3), some (.int x1), none] [] (zpi P)))))))) : zU mX11_nextIn X S L 44 [some (.ref 72), some (.int v1), some (.int v2), some (.int v3), none] [.int w0] (zpi P) := by
  refine zi_istore dX11_nextIn_44 (by decide) rfl ?_
  refine zi_iload dX11_nextIn_46 rfl ?_
  refine zi_if_eq (tgt := 75) dX11_nextIn_48 (by decide) (fun q9 => ?_) (fun q9 => ?_)
  · replace h := h.1 q9
    refine zi_iload_n dX11_nextIn_75 rfl rfl ?_
    refine zi_istore_n dX11_nextIn_76 rfl (by decide) rfl ?_
    obtain ⟨x1, ex1⟩ : ∃ y : Int32, y = v3 + (1 : Int32) := ⟨_, rfl⟩
    replace h := h x1 ex1
    refine zi_iinc (v := x1) dX11_nextIn_77 rfl (by rw [ex1]; rfl) (by decide) rfl ?_
    refine zi_goto (tgt := 4) dX11_nextIn_80 (by decide) ?_
    refine zt_drop (lv' := [some (.ref 72), some (.int v1), some (.int v2), some (.int x1), none]) [true, true, true, true, false] rfl ?_
    exact h
  · replace h := h.2 q9
    refine zi_iload_n dX11_nextIn_51 rfl rfl ?_
    refine zi_iconst (v := -1) dX11_nextIn_52 (by decide) ?_
    refine zi_icmp_eq (tgt := 71) dX11_nextIn_53 (by decide) (fun q9 => ?_) (fun q9 => ?_)
    · replace h := h.1 q9
      refine zi_iload_n dX11_nextIn_71 rfl rfl ?_
      refine zi_goto (tgt := 76) dX11_nextIn_72 (by decide) ?_
      refine zi_istore_n dX11_nextIn_76 rfl (by decide) rfl ?_
      obtain ⟨x1, ex1⟩ : ∃ y : Int32, y = v3 + (1 : Int32) := ⟨_, rfl⟩
      replace h := h x1 ex1
      refine zi_iinc (v := x1) dX11_nextIn_77 rfl (by rw [ex1]; rfl) (by decide) rfl ?_
      refine zi_goto (tgt := 4) dX11_nextIn_80 (by decide) ?_
      refine zt_drop (lv' := [some (.ref 72), some (.int v1), some (.int v3), some (.int x1), none]) [true, true, true, true, false] rfl ?_
      exact h
    · replace h := h.2 q9
      refine zi_aload_n dX11_nextIn_56 rfl rfl ?_
      refine zi_getr fl_X11_55 sk72 rfl dX11_nextIn_57 ?_
      refine zi_iload_n dX11_nextIn_60 rfl rfl ?_
      refine zi_iald sk88 h.1 dX11_nextIn_61 ?_
      replace h := h.2
      refine zi_aload_n dX11_nextIn_62 rfl rfl ?_
      refine zi_getr fl_X11_55 sk72 rfl dX11_nextIn_63 ?_
      refine zi_iload_n dX11_nextIn_66 rfl rfl ?_
      refine zi_iald sk88 h.1 dX11_nextIn_67 ?_
      replace h := h.2
      refine zi_icmp_le (tgt := 75) dX11_nextIn_68 (by decide) (fun q9 => ?_) (fun q9 => ?_)
      · replace h := h.1 q9
        refine zi_iload_n dX11_nextIn_75 rfl rfl ?_
        refine zi_istore_n dX11_nextIn_76 rfl (by decide) rfl ?_
        obtain ⟨x1, ex1⟩ : ∃ y : Int32, y = v3 + (1 : Int32) := ⟨_, rfl⟩
        replace h := h x1 ex1
        refine zi_iinc (v := x1) dX11_nextIn_77 rfl (by rw [ex1]; rfl) (by decide) rfl ?_
        refine zi_goto (tgt := 4) dX11_nextIn_80 (by decide) ?_
        refine zt_drop (lv' := [some (.ref 72), some (.int v1), some (.int v2), some (.int x1), none]) [true, true, true, true, false] rfl ?_
        exact h
      · replace h := h.2 q9
        refine zi_iload_n dX11_nextIn_71 rfl rfl ?_
        refine zi_goto (tgt := 76) dX11_nextIn_72 (by decide) ?_
        refine zi_istore_n dX11_nextIn_76 rfl (by decide) rfl ?_
        obtain ⟨x1, ex1⟩ : ∃ y : Int32, y = v3 + (1 : Int32) := ⟨_, rfl⟩
        replace h := h x1 ex1
        refine zi_iinc (v := x1) dX11_nextIn_77 rfl (by rw [ex1]; rfl) (by decide) rfl ?_
        refine zi_goto (tgt := 4) dX11_nextIn_80 (by decide) ?_
        refine zt_drop (lv' := [some (.ref 72), some (.int v1), some (.int v3), some (.int x1), none]) [true, true, true, true, false] rfl ?_
        exact h
theorem e_X11_nextIn {cty : Int32} {S : zS} {L : zL} {P : Int32 → zS → zL → Prop} (h : ∀ X, zU mX11_nextIn X S L 0 [some (.ref 72), some (.int cty), none, none, none] [] (zpi P)) : zCi mX11_nextIn S L [.ref 72, .int cty] P := zCi_of pn_X11_nextIn (Nat.le_of_ble_eq_true rfl) (fun X => zt_pad (j := 3) rfl (h X))
set_option maxHeartbeats 2000000 in
theorem b_X11_heaviestNow_0 {np : Nat} {X : Nat × (Nat → Int32)} {S : zS} {L : zL} {P : Int32 → zS → zL → Prop} (h : zU mX11_heaviestNow X S L 4 [some (.ref 72), some (.int (-1 : Int32)), some (.int (0 : Int32))] [] (zpi P)) : zU mX11_heaviestNow X S L 0 [some (.ref 72), none, none] [] (zpi P) := by
  refine zi_iconst (v := -1) dX11_heaviestNow_0 (by decide) ?_
  refine zi_istore_n dX11_heaviestNow_1 rfl (by decide) rfl ?_
  refine zi_iconst (v := 0) dX11_heaviestNow_2 (by decide) ?_
  refine zi_istore_n dX11_heaviestNow_3 rfl (by decide) rfl ?_
  refine zt_drop (lv' := [some (.ref 72), some (.int (-1 : Int32)), some (.int (0 : Int32))]) [true, true, true] rfl ?_
  exact h
set_option maxHeartbeats 2000000 in
theorem b_X11_heaviestNow_4 {np : Nat} {v1 : Int32} {v2 : Int32} {X : Nat × (Nat → Int32)} {S : zS} {L : zL} {P : Int32 → zS → zL → Prop} (h : (((S 72 2) ≤ v2 → P v1 S L) ∧ (¬ (S 72 2) ≤ v2 → (S 72 2 = nI np ∧ np ≤ 8) ∧ (((pLv np (S 92) v2) → ((v1 = (-1 : Int32) → ∀ x1 : Int32, x1 = v2 + (1 : Int32) → zU mX11_heaviestNow X S L 4 [some (.ref 72), some (.int v2), some (.int x1)] [] (zpi P)) ∧ (¬ v1 = (-1 : Int32) → vp_in v2 8 ∧ vp_in v1 8 ∧ (((S 88 v2.toNatClampNeg) ≤ (S 88 v1.toNatClampNeg) → ∀ x1 : Int32, x1 = v2 + (1 : Int32) → zU mX11_heaviestNow X S L 4 [some (.ref 72), some (.int v1), some (.int x1)] [] (zpi P)) ∧ (¬ (S 88 v2.toNatClampNeg) ≤ (S 88 v1.toNatClampNeg) → ∀ x1 : Int32, x1 = v2 + (1 : Int32) → zU mX11_heaviestNow X S L 4 [some (.ref 72), some (.int v2), some (.int x1)] [] (zpi P)))))) ∧ (¬ (pLv np (S 92) v2) → ∀ x1 : Int32, x1 = v2 + (1 : Int32) → zU mX11_heaviestNow X S L 4 [some (.ref 72), some (.int v1), some (.int x1)] [] (zpi P)))))) : zU mX11_heaviestNow X S L 4 [some (.ref 72), some (.int v1), some (.int v2)] [] (zpi P) := by
  refine zi_iload_n dX11_heaviestNow_4 rfl rfl ?_
  refine zi_aload_n dX11_heaviestNow_5 rfl rfl ?_
  refine zi_geti fl_X11_152 sk72 rfl dX11_heaviestNow_6 ?_
  refine zi_icmp_ge (tgt := 52) dX11_heaviestNow_9 (by decide) (fun q9 => ?_) (fun q9 => ?_)
  · replace h := h.1 q9
    refine zi_iload_n dX11_heaviestNow_52 rfl rfl ?_
    exact zt_iret dX11_heaviestNow_53 rfl h
  · replace h := h.2 q9
    refine zi_aload_n dX11_heaviestNow_12 rfl rfl ?_
    refine zi_iload_n dX11_heaviestNow_13 rfl rfl ?_
    refine zt_Vi (As := [.int v2]) dX11_heaviestNow_14 lk_X11_227 sk72 rfl ⟨⟨by decide, by decide⟩, rfl, rfl⟩ rfl ⟨Nat.le_of_ble_eq_true rfl, rfl, rfl⟩ (mlives_s h.1.1 h.1.2 (P := fun y S9 L9 => y = (if (pLv np (S 92) v2) then (1 : Int32) else 0) ∧ S = S9 ∧ L = L9) ⟨rfl, rfl, rfl⟩) (fun y1 S9 L9 q9 => ?_)
    obtain ⟨ey1, rfl, rfl⟩ := q9
    replace h := h.2
    by_cases q9 : (pLv np (S 92) v2)
    · replace h := h.1 q9
      rw [if_pos q9] at ey1
      subst ey1
      refine zi_if_eq (tgt := 44) dX11_heaviestNow_17 (by decide) (fun z9 => absurd z9 (by decide)) (fun _ => ?_)
      refine zi_iload_n dX11_heaviestNow_20 rfl rfl ?_
      refine zi_iconst (v := -1) dX11_heaviestNow_21 (by decide) ?_
      refine zi_icmp_eq (tgt := 40) dX11_heaviestNow_22 (by decide) (fun q9 => ?_) (fun q9 => ?_)
      · replace h := h.1 q9
        refine zi_iload_n dX11_heaviestNow_40 rfl rfl ?_
        refine zi_goto (tgt := 45) dX11_heaviestNow_41 (by decide) ?_
        refine zi_istore_n dX11_heaviestNow_45 rfl (by decide) rfl ?_
        obtain ⟨x1, ex1⟩ : ∃ y : Int32, y = v2 + (1 : Int32) := ⟨_, rfl⟩
        replace h := h x1 ex1
        refine zi_iinc (v := x1) dX11_heaviestNow_46 rfl (by rw [ex1]; rfl) (by decide) rfl ?_
        refine zi_goto (tgt := 4) dX11_heaviestNow_49 (by decide) ?_
        refine zt_drop (lv' := [some (.ref 72), some (.int v2), some (.int x1)]) [true, true, true] rfl ?_
        exact h
      · replace h := h.2 q9
        refine zi_aload_n dX11_heaviestNow_25 rfl rfl ?_
        refine zi_getr fl_X11_55 sk72 rfl dX11_heaviestNow_26 ?_
        refine zi_iload_n dX11_heaviestNow_29 rfl rfl ?_
        refine zi_iald sk88 h.1 dX11_heaviestNow_30 ?_
        replace h := h.2
        refine zi_aload_n dX11_heaviestNow_31 rfl rfl ?_
        refine zi_getr fl_X11_55 sk72 rfl dX11_heaviestNow_32 ?_
        refine zi_iload_n dX11_heaviestNow_35 rfl rfl ?_
        refine zi_iald sk88 h.1 dX11_heaviestNow_36 ?_
        replace h := h.2
        refine zi_icmp_le (tgt := 44) dX11_heaviestNow_37 (by decide) (fun q9 => ?_) (fun q9 => ?_)
        · replace h := h.1 q9
          refine zi_iload_n dX11_heaviestNow_44 rfl rfl ?_
          refine zi_istore_n dX11_heaviestNow_45 rfl (by decide) rfl ?_
          obtain ⟨x1, ex1⟩ : ∃ y : Int32, y = v2 + (1 : Int32) := ⟨_, rfl⟩
          replace h := h x1 ex1
          refine zi_iinc (v := x1) dX11_heaviestNow_46 rfl (by rw [ex1]; rfl) (by decide) rfl ?_
          refine zi_goto (tgt := 4) dX11_heaviestNow_49 (by decide) ?_
          refine zt_drop (lv' := [some (.ref 72), some (.int v1), some (.int x1)]) [true, true, true] rfl ?_
          exact h
        · replace h := h.2 q9
          refine zi_iload_n dX11_heaviestNow_40 rfl rfl ?_
          refine zi_goto (tgt := 45) dX11_heaviestNow_41 (by decide) ?_
          refine zi_istore_n dX11_heaviestNow_45 rfl (by decide) rfl ?_
          obtain ⟨x1, ex1⟩ : ∃ y : Int32, y = v2 + (1 : Int32) := ⟨_, rfl⟩
          replace h := h x1 ex1
          refine zi_iinc (v := x1) dX11_heaviestNow_46 rfl (by rw [ex1]; rfl) (by decide) rfl ?_
          refine zi_goto (tgt := 4) dX11_heaviestNow_49 (by decide) ?_
          refine zt_drop (lv' := [some (.ref 72), some (.int v2), some (.int x1)]) [true, true, true] rfl ?_
          exact h
    · replace h := h.2 q9
      rw [if_neg q9] at ey1
      subst ey1
      refine zi_if_eq (tgt := 44) dX11_heaviestNow_17 (by decide) (fun _ => ?_) (fun z9 => absurd rfl z9)
      refine zi_iload_n dX11_heaviestNow_44 rfl rfl ?_
      refine zi_istore_n dX11_heaviestNow_45 rfl (by decide) rfl ?_
      obtain ⟨x1, ex1⟩ : ∃ y : Int32, y = v2 + (1 : Int32) := ⟨_, rfl⟩
      replace h := h x1 ex1
      refine zi_iinc (v := x1) dX11_heaviestNow_46 rfl (by rw [ex1]; rfl) (by decide) rfl ?_
      refine zi_goto (tgt := 4) dX11_heaviestNow_49 (by decide) ?_
      refine zt_drop (lv' := [some (.ref 72), some (.int v1), some (.int x1)]) [true, true, true] rfl ?_
      exact h
theorem e_X11_heaviestNow {S : zS} {L : zL} {P : Int32 → zS → zL → Prop} (h : ∀ X, zU mX11_heaviestNow X S L 0 [some (.ref 72), none, none] [] (zpi P)) : zCi mX11_heaviestNow S L [.ref 72] P := zCi_of pn_X11_heaviestNow (Nat.le_of_ble_eq_true rfl) (fun X => zt_pad (j := 2) rfl (h X))
