set_option maxHeartbeats 2000000 in
theorem b_X8_become_0 {X : Nat × (Nat → Int32)} {S : zS} {L : zL} {P : zS → zL → Prop} (h : zCv mX5_become S L [.ref 32, .ref 6] (fun S1 L1 => zCv mX5_become S1 L1 [.ref 36, .ref 10] (fun S2 L2 => zCv mX5_become S2 L2 [.ref 40, .ref 14] (fun S3 L3 => zCv mX5_become S3 L3 [.ref 44, .ref 18] (fun S4 L4 => zCv mX5_become S4 L4 [.ref 48, .ref 22] (fun S5 L5 => ∀ S6 : zS, S6 = zc S5 31 (upd (S5 31) 5 (S5 5 5)) → ∀ S7 : zS, S7 = zc S6 31 (upd (S6 31) 6 (S6 5 6)) → P S7 L5)))))) : zU mX8_become X S L 0 [some (.ref 31), some (.ref 5)] [] (zpv P) := by
  refine zi_aload_n dX8_become_0 rfl rfl ?_
  refine zi_getr fl_X8_14 sk31 rfl dX8_become_1 ?_
  refine zi_aload_n dX8_become_4 rfl rfl ?_
  refine zi_getr fl_X8_14 sk5 rfl dX8_become_5 ?_
  refine zt_Vv (As := [.ref 6]) dX8_become_8 lk_X8_39 sk32 rfl ⟨⟨by decide, by decide⟩, rfl, rfl⟩ rfl ⟨Nat.le_of_ble_eq_true rfl, rfl, rfl⟩ h (fun S1 L1 h => ?_)
  refine zi_aload_n dX8_become_11 rfl rfl ?_
  refine zi_getr fl_X8_20 sk31 rfl dX8_become_12 ?_
  refine zi_aload_n dX8_become_15 rfl rfl ?_
  refine zi_getr fl_X8_20 sk5 rfl dX8_become_16 ?_
  refine zt_Vv (As := [.ref 10]) dX8_become_19 lk_X8_39 sk36 rfl ⟨⟨by decide, by decide⟩, rfl, rfl⟩ rfl ⟨Nat.le_of_ble_eq_true rfl, rfl, rfl⟩ h (fun S2 L2 h => ?_)
  refine zi_aload_n dX8_become_22 rfl rfl ?_
  refine zi_getr fl_X8_23 sk31 rfl dX8_become_23 ?_
  refine zi_aload_n dX8_become_26 rfl rfl ?_
  refine zi_getr fl_X8_23 sk5 rfl dX8_become_27 ?_
  refine zt_Vv (As := [.ref 14]) dX8_become_30 lk_X8_39 sk40 rfl ⟨⟨by decide, by decide⟩, rfl, rfl⟩ rfl ⟨Nat.le_of_ble_eq_true rfl, rfl, rfl⟩ h (fun S3 L3 h => ?_)
  refine zi_aload_n dX8_become_33 rfl rfl ?_
  refine zi_getr fl_X8_26 sk31 rfl dX8_become_34 ?_
  refine zi_aload_n dX8_become_37 rfl rfl ?_
  refine zi_getr fl_X8_26 sk5 rfl dX8_become_38 ?_
  refine zt_Vv (As := [.ref 18]) dX8_become_41 lk_X8_39 sk44 rfl ⟨⟨by decide, by decide⟩, rfl, rfl⟩ rfl ⟨Nat.le_of_ble_eq_true rfl, rfl, rfl⟩ h (fun S4 L4 h => ?_)
  refine zi_aload_n dX8_become_44 rfl rfl ?_
  refine zi_getr fl_X8_29 sk31 rfl dX8_become_45 ?_
  refine zi_aload_n dX8_become_48 rfl rfl ?_
  refine zi_getr fl_X8_29 sk5 rfl dX8_become_49 ?_
  refine zt_Vv (As := [.ref 22]) dX8_become_52 lk_X8_39 sk48 rfl ⟨⟨by decide, by decide⟩, rfl, rfl⟩ rfl ⟨Nat.le_of_ble_eq_true rfl, rfl, rfl⟩ h (fun S5 L5 h => ?_)
  refine zi_aload_n dX8_become_55 rfl rfl ?_
  refine zi_aload_n dX8_become_56 rfl rfl ?_
  refine zi_geti fl_X8_32 sk5 rfl dX8_become_57 ?_
  refine zi_puti fp_X8_32 sk31 rfl dX8_become_60 ?_
  refine zt_nmS (fun S6 eS6 => ?_)
  replace h := h S6 eS6
  refine zi_aload_n dX8_become_63 rfl rfl ?_
  refine zi_aload_n dX8_become_64 rfl rfl ?_
  refine zi_geti fl_X8_36 sk5 rfl dX8_become_65 ?_
  refine zi_puti fp_X8_36 sk31 rfl dX8_become_68 ?_
  refine zt_nmS (fun S7 eS7 => ?_)
  replace h := h S7 eS7
  exact zt_vret dX8_become_71 rfl h
theorem e_X8_become {S : zS} {L : zL} {P : zS → zL → Prop} (h : ∀ X, zU mX8_become X S L 0 [some (.ref 31), some (.ref 5)] [] (zpv P)) : zCv mX8_become S L [.ref 31, .ref 5] P := zCv_of pn_X8_become (Nat.le_of_ble_eq_true rfl) (fun X => zt_pad (j := 0) rfl (h X))
set_option maxHeartbeats 2000000 in
theorem b_X3_afresh_0 {X : Nat × (Nat → Int32)} {S : zS} {L : zL} {P : zS → zL → Prop} (h : zCv mX8_become S L [.ref 31, .ref 5] (fun S1 L1 => P S1 L1)) : zU mX3_afresh X S L 0 [some (.ref 30)] [] (zpv P) := by
  refine zi_aload_n dX3_afresh_0 rfl rfl ?_
  refine zi_getr fl_X3_10 sk30 rfl dX3_afresh_1 ?_
  refine zi_aload_n dX3_afresh_4 rfl rfl ?_
  refine zi_getr fl_X3_25 sk30 rfl dX3_afresh_5 ?_
  refine zt_Vv (As := [.ref 5]) dX3_afresh_8 lk_X3_28 sk31 rfl ⟨⟨by decide, by decide⟩, rfl, rfl⟩ rfl ⟨Nat.le_of_ble_eq_true rfl, rfl, rfl⟩ h (fun S1 L1 h => ?_)
  exact zt_vret dX3_afresh_11 rfl h
theorem e_X3_afresh {S : zS} {L : zL} {P : zS → zL → Prop} (h : ∀ X, zU mX3_afresh X S L 0 [some (.ref 30)] [] (zpv P)) : zCv mX3_afresh S L [.ref 30] P := zCv_of pn_X3_afresh (Nat.le_of_ble_eq_true rfl) (fun X => zt_pad (j := 0) rfl (h X))
set_option maxHeartbeats 2000000 in
theorem b_X2_taxBehind_0 {k t : Nat} {month : Int32} (hC : zCo k t) {X : Nat × (Nat → Int32)} {S : zS} {L : zL} {P : Int32 → zS → zL → Prop} (h : zU mX2_taxBehind X S L 4 [some (.ref k), some (.int month), some (.int (0 : Int32)), some (.int (0 : Int32))] [] (zpi P)) : zU mX2_taxBehind X S L 0 [some (.ref k), some (.int month), none, none] [] (zpi P) := by
  obtain ⟨hkb, htb, -⟩ := hC.2.2.2.2.2
  refine zi_iconst (v := 0) dX2_taxBehind_0 (by decide) ?_
  refine zi_istore_n dX2_taxBehind_1 rfl (by decide) rfl ?_
  refine zi_iconst (v := 0) dX2_taxBehind_2 (by decide) ?_
  refine zi_istore_n dX2_taxBehind_3 rfl (by decide) rfl ?_
  refine zt_drop (lv' := [some (.ref k), some (.int month), some (.int (0 : Int32)), some (.int (0 : Int32))]) [true, true, true, true] rfl ?_
  exact h
set_option maxHeartbeats 2000000 in
theorem b_X2_taxBehind_4 {k t : Nat} {v1 : Int32} {v2 : Int32} {v3 : Int32} (hC : zCo k t) {X : Nat × (Nat → Int32)} {S : zS} {L : zL} {P : Int32 → zS → zL → Prop} (h : (((S (t + 1) 3) ≤ v3 → P v2 S L) ∧ (¬ (S (t + 1) 3) ≤ v3 → zCi mX2_livesBehind S L [.ref k, .int v1, .int v3] (fun y1 S1 L1 => ((y1 = 0 → ∀ x1 : Int32, x1 = (v2 + (0 : Int32)) → ∀ x2 : Int32, x2 = v3 + (1 : Int32) → zU mX2_taxBehind X S1 L1 4 [some (.ref k), some (.int v1), some (.int x1), some (.int x2)] [] (zpi P)) ∧ (¬ y1 = 0 → zCi mX2_behind S1 L1 [.ref k, .int v1, .int ((0 : Int32) + v3)] (fun y2 S2 L2 => ∀ x1 : Int32, x1 = (v2 + y2) → ∀ x2 : Int32, x2 = v3 + (1 : Int32) → zU mX2_taxBehind X S2 L2 4 [some (.ref k), some (.int v1), some (.int x1), some (.int x2)] [] (zpi P)))))))) : zU mX2_taxBehind X S L 4 [some (.ref k), some (.int v1), some (.int v2), some (.int v3)] [] (zpi P) := by
  obtain ⟨hkb, htb, -⟩ := hC.2.2.2.2.2
  refine zi_iload_n dX2_taxBehind_4 rfl rfl ?_
  refine zi_aload_n dX2_taxBehind_5 rfl rfl ?_
  refine zi_getr fl_X2_28 hC.1 rfl dX2_taxBehind_6 ?_
  refine zi_getr fl_X2_81 hC.2.2.2.2.1.1 rfl dX2_taxBehind_9 ?_
  refine zi_geti fl_X2_84 hC.2.2.2.2.1.2.1.1 rfl dX2_taxBehind_12 ?_
  refine zi_icmp_ge (tgt := 48) dX2_taxBehind_15 (by decide) (fun q9 => ?_) (fun q9 => ?_)
  · replace h := h.1 q9
    refine zi_iload_n dX2_taxBehind_48 rfl rfl ?_
    exact zt_iret dX2_taxBehind_49 rfl h
  · replace h := h.2 q9
    refine zi_iload_n dX2_taxBehind_18 rfl rfl ?_
    refine zi_aload_n dX2_taxBehind_19 rfl rfl ?_
    refine zi_iload_n dX2_taxBehind_20 rfl rfl ?_
    refine zi_iload_n dX2_taxBehind_21 rfl rfl ?_
    refine zt_Vi (As := [.int v1, .int v3]) dX2_taxBehind_22 lk_X2_124 hC.1 rfl ⟨⟨by decide, by decide⟩, rfl, rfl⟩ rfl ⟨Nat.le_of_ble_eq_true rfl, by (show zokL 113 [some (.ref k), some (.int v1), some (.int v2), some (.int v3)] = true; (simp [zokL, zok_i, zok_l, zok_r] <;> omega)), by (show List.all ([.int v2] : List Value) (zok 113) = true; (simp [zokL, zok_i, zok_l, zok_r] <;> omega))⟩ h (fun y1 S1 L1 h => ?_)
    refine zi_if_eq (tgt := 39) dX2_taxBehind_25 (by decide) (fun q9 => ?_) (fun q9 => ?_)
    · replace h := h.1 q9
      refine zi_iconst (v := 0) dX2_taxBehind_39 (by decide) ?_
      refine zi_iadd dX2_taxBehind_40 ?_
      refine zt_nmi (fun x1 ex1 => ?_)
      replace h := h x1 ex1
      refine zi_istore_n dX2_taxBehind_41 rfl (by decide) rfl ?_
      obtain ⟨x2, ex2⟩ : ∃ y : Int32, y = v3 + (1 : Int32) := ⟨_, rfl⟩
      replace h := h x2 ex2
      refine zi_iinc (v := x2) dX2_taxBehind_42 rfl (by rw [ex2]; rfl) (by decide) rfl ?_
      refine zi_goto (tgt := 4) dX2_taxBehind_45 (by decide) ?_
      refine zt_drop (lv' := [some (.ref k), some (.int v1), some (.int x1), some (.int x2)]) [true, true, true, true] rfl ?_
      exact h
    · replace h := h.2 q9
      refine zi_aload_n dX2_taxBehind_28 rfl rfl ?_
      refine zi_iload_n dX2_taxBehind_29 rfl rfl ?_
      refine zi_iconst (v := 0) dX2_taxBehind_30 (by decide) ?_
      refine zi_iload_n dX2_taxBehind_31 rfl rfl ?_
      refine zi_iadd dX2_taxBehind_32 ?_
      refine zt_Vi (As := [.int v1, .int ((0 : Int32) + v3)]) dX2_taxBehind_33 lk_X2_128 hC.1 rfl ⟨⟨by decide, by decide⟩, rfl, rfl⟩ rfl ⟨Nat.le_of_ble_eq_true rfl, by (show zokL 113 [some (.ref k), some (.int v1), some (.int v2), some (.int v3)] = true; (simp [zokL, zok_i, zok_l, zok_r] <;> omega)), by (show List.all ([.int v2] : List Value) (zok 113) = true; (simp [zokL, zok_i, zok_l, zok_r] <;> omega))⟩ h (fun y2 S2 L2 h => ?_)
      refine zi_goto (tgt := 40) dX2_taxBehind_36 (by decide) ?_
      refine zi_iadd dX2_taxBehind_40 ?_
      refine zt_nmi (fun x1 ex1 => ?_)
      replace h := h x1 ex1
      refine zi_istore_n dX2_taxBehind_41 rfl (by decide) rfl ?_
      obtain ⟨x2, ex2⟩ : ∃ y : Int32, y = v3 + (1 : Int32) := ⟨_, rfl⟩
      replace h := h x2 ex2
      refine zi_iinc (v := x2) dX2_taxBehind_42 rfl (by rw [ex2]; rfl) (by decide) rfl ?_
      refine zi_goto (tgt := 4) dX2_taxBehind_45 (by decide) ?_
      refine zt_drop (lv' := [some (.ref k), some (.int v1), some (.int x1), some (.int x2)]) [true, true, true, true] rfl ?_
      exact h
theorem e_X2_taxBehind {k : Nat} {month : Int32} {S : zS} {L : zL} {P : Int32 → zS → zL → Prop} (h : ∀ X, zU mX2_taxBehind X S L 0 [some (.ref k), some (.int month), none, none] [] (zpi P)) : zCi mX2_taxBehind S L [.ref k, .int month] P := zCi_of pn_X2_taxBehind (Nat.le_of_ble_eq_true rfl) (fun X => zt_pad (j := 2) rfl (h X))
set_option maxHeartbeats 2000000 in
theorem b_X2_heaviestBehind_0 {k t : Nat} {month : Int32} (hC : zCo k t) {X : Nat × (Nat → Int32)} {S : zS} {L : zL} {P : Int32 → zS → zL → Prop} (h : zU mX2_heaviestBehind X S L 7 [some (.ref k), some (.int month), some (.int (-1 : Int32)), some (.int (-1 : Int32)), some (.int (0 : Int32))] [] (zpi P)) : zU mX2_heaviestBehind X S L 0 [some (.ref k), some (.int month), none, none, none] [] (zpi P) := by
  obtain ⟨hkb, htb, -⟩ := hC.2.2.2.2.2
  refine zi_iconst (v := -1) dX2_heaviestBehind_0 (by decide) ?_
  refine zi_istore_n dX2_heaviestBehind_1 rfl (by decide) rfl ?_
  refine zi_iconst (v := -1) dX2_heaviestBehind_2 (by decide) ?_
  refine zi_istore_n dX2_heaviestBehind_3 rfl (by decide) rfl ?_
  refine zi_iconst (v := 0) dX2_heaviestBehind_4 (by decide) ?_
  refine zi_istore dX2_heaviestBehind_5 (by decide) rfl ?_
  refine zt_drop (lv' := [some (.ref k), some (.int month), some (.int (-1 : Int32)), some (.int (-1 : Int32)), some (.int (0 : Int32))]) [true, true, true, true, true] rfl ?_
  exact h
set_option maxHeartbeats 2000000 in
theorem b_X2_heaviestBehind_7 {k t : Nat} {v1 : Int32} {v2 : Int32} {v3 : Int32} {v4 : Int32} (hC : zCo k t) {X : Nat × (Nat → Int32)} {S : zS} {L : zL} {P : Int32 → zS → zL → Prop} (h : (((S (t + 1) 3) ≤ v4 → P v2 S L) ∧ (¬ (S (t + 1) 3) ≤ v4 → zCi mX2_livesBehind S L [.ref k, .int v1, .int v4] (fun y1 S1 L1 => ((y1 = 0 → ∀ x1 : Int32, x1 = v4 + (1 : Int32) → zU mX2_heaviestBehind X S1 L1 7 [some (.ref k), some (.int v1), some (.int v2), some (.int v3), some (.int x1)] [] (zpi P)) ∧ (¬ y1 = 0 → zCi mX2_behind S1 L1 [.ref k, .int v1, .int ((0 : Int32) + v4)] (fun y2 S2 L2 => ((y2 ≤ v3 → ∀ x1 : Int32, x1 = v4 + (1 : Int32) → zU mX2_heaviestBehind X S2 L2 7 [some (.ref k), some (.int v1), some (.int v2), some (.int v3), some (.int x1)] [] (zpi P)) ∧ (¬ y2 ≤ v3 → zCi mX2_behind S2 L2 [.ref k, .int v1, .int ((0 : Int32) + v4)] (fun y3 S3 L3 => ∀ x1 : Int32, x1 = v4 + (1 : Int32) → zU mX2_heaviestBehind X S3 L3 7 [some (.ref k), some (.int v1), some (.int v4), some (.int y3), some (.int x1)] [] (zpi P))))))))))) : zU mX2_heaviestBehind X S L 7 [some (.ref k), some (.int v1), some (.int v2), some (.int v3), some (.int v4)] [] (zpi P) := by
  obtain ⟨hkb, htb, -⟩ := hC.2.2.2.2.2
  refine zi_iload dX2_heaviestBehind_7 rfl ?_
  refine zi_aload_n dX2_heaviestBehind_9 rfl rfl ?_
  refine zi_getr fl_X2_28 hC.1 rfl dX2_heaviestBehind_10 ?_
  refine zi_getr fl_X2_81 hC.2.2.2.2.1.1 rfl dX2_heaviestBehind_13 ?_
  refine zi_geti fl_X2_84 hC.2.2.2.2.1.2.1.1 rfl dX2_heaviestBehind_16 ?_
  refine zi_icmp_ge (tgt := 64) dX2_heaviestBehind_19 (by decide) (fun q9 => ?_) (fun q9 => ?_)
  · replace h := h.1 q9
    refine zi_iload_n dX2_heaviestBehind_64 rfl rfl ?_
    exact zt_iret dX2_heaviestBehind_65 rfl h
  · replace h := h.2 q9
    refine zi_aload_n dX2_heaviestBehind_22 rfl rfl ?_
    refine zi_iload_n dX2_heaviestBehind_23 rfl rfl ?_
    refine zi_iload dX2_heaviestBehind_24 rfl ?_
    refine zt_Vi (As := [.int v1, .int v4]) dX2_heaviestBehind_26 lk_X2_124 hC.1 rfl ⟨⟨by decide, by decide⟩, rfl, rfl⟩ rfl ⟨Nat.le_of_ble_eq_true rfl, by (show zokL 113 [some (.ref k), some (.int v1), some (.int v2), some (.int v3), some (.int v4)] = true; (simp [zokL, zok_i, zok_l, zok_r] <;> omega)), by (show List.all ([] : List Value) (zok 113) = true; (simp [zokL, zok_i, zok_l, zok_r] <;> omega))⟩ h (fun y1 S1 L1 h => ?_)
    refine zi_if_eq (tgt := 58) dX2_heaviestBehind_29 (by decide) (fun q9 => ?_) (fun q9 => ?_)
    · replace h := h.1 q9
      obtain ⟨x1, ex1⟩ : ∃ y : Int32, y = v4 + (1 : Int32) := ⟨_, rfl⟩
      replace h := h x1 ex1
      refine zi_iinc (v := x1) dX2_heaviestBehind_58 rfl (by rw [ex1]; rfl) (by decide) rfl ?_
      refine zi_goto (tgt := 7) dX2_heaviestBehind_61 (by decide) ?_
      refine zt_drop (lv' := [some (.ref k), some (.int v1), some (.int v2), some (.int v3), some (.int x1)]) [true, true, true, true, true] rfl ?_
      exact h
    · replace h := h.2 q9
      refine zi_aload_n dX2_heaviestBehind_32 rfl rfl ?_
      refine zi_iload_n dX2_heaviestBehind_33 rfl rfl ?_
      refine zi_iconst (v := 0) dX2_heaviestBehind_34 (by decide) ?_
      refine zi_iload dX2_heaviestBehind_35 rfl ?_
      refine zi_iadd dX2_heaviestBehind_37 ?_
      refine zt_Vi (As := [.int v1, .int ((0 : Int32) + v4)]) dX2_heaviestBehind_38 lk_X2_128 hC.1 rfl ⟨⟨by decide, by decide⟩, rfl, rfl⟩ rfl ⟨Nat.le_of_ble_eq_true rfl, by (show zokL 113 [some (.ref k), some (.int v1), some (.int v2), some (.int v3), some (.int v4)] = true; (simp [zokL, zok_i, zok_l, zok_r] <;> omega)), by (show List.all ([] : List Value) (zok 113) = true; (simp [zokL, zok_i, zok_l, zok_r] <;> omega))⟩ h (fun y2 S2 L2 h => ?_)
      refine zi_iload_n dX2_heaviestBehind_41 rfl rfl ?_
      refine zi_icmp_le (tgt := 58) dX2_heaviestBehind_42 (by decide) (fun q9 => ?_) (fun q9 => ?_)
      · replace h := h.1 q9
        obtain ⟨x1, ex1⟩ : ∃ y : Int32, y = v4 + (1 : Int32) := ⟨_, rfl⟩
        replace h := h x1 ex1
        refine zi_iinc (v := x1) dX2_heaviestBehind_58 rfl (by rw [ex1]; rfl) (by decide) rfl ?_
        refine zi_goto (tgt := 7) dX2_heaviestBehind_61 (by decide) ?_
        refine zt_drop (lv' := [some (.ref k), some (.int v1), some (.int v2), some (.int v3), some (.int x1)]) [true, true, true, true, true] rfl ?_
        exact h
      · replace h := h.2 q9
        refine zi_iload dX2_heaviestBehind_45 rfl ?_
        refine zi_istore_n dX2_heaviestBehind_47 rfl (by decide) rfl ?_
        refine zi_aload_n dX2_heaviestBehind_48 rfl rfl ?_
        refine zi_iload_n dX2_heaviestBehind_49 rfl rfl ?_
        refine zi_iconst (v := 0) dX2_heaviestBehind_50 (by decide) ?_
        refine zi_iload dX2_heaviestBehind_51 rfl ?_
        refine zi_iadd dX2_heaviestBehind_53 ?_
        refine zt_Vi (As := [.int v1, .int ((0 : Int32) + v4)]) dX2_heaviestBehind_54 lk_X2_128 hC.1 rfl ⟨⟨by decide, by decide⟩, rfl, rfl⟩ rfl ⟨Nat.le_of_ble_eq_true rfl, by (show zokL 113 [some (.ref k), some (.int v1), some (.int v4), some (.int v3), some (.int v4)] = true; (simp [zokL, zok_i, zok_l, zok_r] <;> omega)), by (show List.all ([] : List Value) (zok 113) = true; (simp [zokL, zok_i, zok_l, zok_r] <;> omega))⟩ h (fun y3 S3 L3 h => ?_)
        refine zi_istore_n dX2_heaviestBehind_57 rfl (by decide) rfl ?_
        obtain ⟨x1, ex1⟩ : ∃ y : Int32, y = v4 + (1 : Int32) := ⟨_, rfl⟩
        replace h := h x1 ex1
        refine zi_iinc (v := x1) dX2_heaviestBehind_58 rfl (by rw [ex1]; rfl) (by decide) rfl ?_
        refine zi_goto (tgt := 7) dX2_heaviestBehind_61 (by decide) ?_
        refine zt_drop (lv' := [some (.ref k), some (.int v1), some (.int v4), some (.int y3), some (.int x1)]) [true, true, true, true, true] rfl ?_
        exact h
theorem e_X2_heaviestBehind {k : Nat} {month : Int32} {S : zS} {L : zL} {P : Int32 → zS → zL → Prop} (h : ∀ X, zU mX2_heaviestBehind X S L 0 [some (.ref k), some (.int month), none, none, none] [] (zpi P)) : zCi mX2_heaviestBehind S L [.ref k, .int month] P := zCi_of pn_X2_heaviestBehind (Nat.le_of_ble_eq_true rfl) (fun X => zt_pad (j := 3) rfl (h X))
set_option maxHeartbeats 2000000 in
theorem b_X2_worthInAll_0 {k t : Nat} (hC : zCo k t) {X : Nat × (Nat → Int32)} {S : zS} {L : zL} {P : Int32 → zS → zL → Prop} (h : zU mX2_worthInAll X S L 4 [some (.ref k), some (.int (0 : Int32)), some (.int (0 : Int32))] [] (zpi P)) : zU mX2_worthInAll X S L 0 [some (.ref k), none, none] [] (zpi P) := by
  obtain ⟨hkb, htb, -⟩ := hC.2.2.2.2.2
  refine zi_iconst (v := 0) dX2_worthInAll_0 (by decide) ?_
  refine zi_istore_n dX2_worthInAll_1 rfl (by decide) rfl ?_
  refine zi_iconst (v := 0) dX2_worthInAll_2 (by decide) ?_
  refine zi_istore_n dX2_worthInAll_3 rfl (by decide) rfl ?_
  refine zt_drop (lv' := [some (.ref k), some (.int (0 : Int32)), some (.int (0 : Int32))]) [true, true, true] rfl ?_
  exact h
set_option maxHeartbeats 2000000 in
theorem b_X2_worthInAll_4 {k t : Nat} {v1 : Int32} {v2 : Int32} (hC : zCo k t) {X : Nat × (Nat → Int32)} {S : zS} {L : zL} {P : Int32 → zS → zL → Prop} (h : (((4 : Int32) ≤ v2 → P v1 S L) ∧ (¬ (4 : Int32) ≤ v2 → zCi mX2_behind S L [.ref k, .int (23 : Int32), .int ((28 : Int32) + v2)] (fun y1 S1 L1 => ∀ x1 : Int32, x1 = (v1 + y1) → ∀ x2 : Int32, x2 = v2 + (1 : Int32) → zU mX2_worthInAll X S1 L1 4 [some (.ref k), some (.int x1), some (.int x2)] [] (zpi P))))) : zU mX2_worthInAll X S L 4 [some (.ref k), some (.int v1), some (.int v2)] [] (zpi P) := by
  obtain ⟨hkb, htb, -⟩ := hC.2.2.2.2.2
  refine zi_iload_n dX2_worthInAll_4 rfl rfl ?_
  refine zi_iconst (v := 4) dX2_worthInAll_5 (by decide) ?_
  refine zi_icmp_ge (tgt := 28) dX2_worthInAll_6 (by decide) (fun q9 => ?_) (fun q9 => ?_)
  · replace h := h.1 q9
    refine zi_iload_n dX2_worthInAll_28 rfl rfl ?_
    exact zt_iret dX2_worthInAll_29 rfl h
  · replace h := h.2 q9
    refine zi_iload_n dX2_worthInAll_9 rfl rfl ?_
    refine zi_aload_n dX2_worthInAll_10 rfl rfl ?_
    refine zi_bipush (v := 23) dX2_worthInAll_11 (by decide) ?_
    refine zi_bipush (v := 28) dX2_worthInAll_13 (by decide) ?_
    refine zi_iload_n dX2_worthInAll_15 rfl rfl ?_
    refine zi_iadd dX2_worthInAll_16 ?_
    refine zt_Vi (As := [.int (23 : Int32), .int ((28 : Int32) + v2)]) dX2_worthInAll_17 lk_X2_128 hC.1 rfl ⟨⟨by decide, by decide⟩, rfl, rfl⟩ rfl ⟨Nat.le_of_ble_eq_true rfl, by (show zokL 113 [some (.ref k), some (.int v1), some (.int v2)] = true; (simp [zokL, zok_i, zok_l, zok_r] <;> omega)), by (show List.all ([.int v1] : List Value) (zok 113) = true; (simp [zokL, zok_i, zok_l, zok_r] <;> omega))⟩ h (fun y1 S1 L1 h => ?_)
    refine zi_iadd dX2_worthInAll_20 ?_
    refine zt_nmi (fun x1 ex1 => ?_)
    replace h := h x1 ex1
    refine zi_istore_n dX2_worthInAll_21 rfl (by decide) rfl ?_
    obtain ⟨x2, ex2⟩ : ∃ y : Int32, y = v2 + (1 : Int32) := ⟨_, rfl⟩
    replace h := h x2 ex2
    refine zi_iinc (v := x2) dX2_worthInAll_22 rfl (by rw [ex2]; rfl) (by decide) rfl ?_
    refine zi_goto (tgt := 4) dX2_worthInAll_25 (by decide) ?_
    refine zt_drop (lv' := [some (.ref k), some (.int x1), some (.int x2)]) [true, true, true] rfl ?_
    exact h
theorem e_X2_worthInAll {k : Nat} {S : zS} {L : zL} {P : Int32 → zS → zL → Prop} (h : ∀ X, zU mX2_worthInAll X S L 0 [some (.ref k), none, none] [] (zpi P)) : zCi mX2_worthInAll S L [.ref k] P := zCi_of pn_X2_worthInAll (Nat.le_of_ble_eq_true rfl) (fun X => zt_pad (j := 2) rfl (h X))
