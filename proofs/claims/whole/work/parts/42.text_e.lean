set_option maxHeartbeats 2000000 in
theorem b_J0_indexOf_7cf53_0 {i : Nat} {ch : Int32} {fr : Int32} (hi : i < zSn) {X : Nat × (Nat → Int32)} {S : zS} {L : zL} {P : Int32 → zS → zL → Prop} (h : ∀ y2 : Int32, y2 = (nI (zSl.getD i 0)) → zCi mJ1_indexOf_4cfef S L [.ref (1100 + i), .int ch, .int fr, .int y2] (fun y3 S1 L1 => P y3 S1 L1)) : zU mJ0_indexOf_7cf53 X S L 0 [some (.ref (1000 + i)), some (.int ch), some (.int fr)] [] (zpi P) := by
  refine zi_aload_n dJ0_indexOf_7cf53_0 rfl rfl ?_
  refine zt_Ti (As := []) dJ0_indexOf_7cf53_1 lk_J0_492 hi rfl ⟨⟨by decide, by decide⟩, rfl, rfl⟩ rfl ⟨Nat.le_of_ble_eq_true rfl, by (show zokL 113 [some (.ref (1000 + i)), some (.int ch), some (.int fr)] = true; (simp [zokL, zok_i, zok_l, zok_r] <;> omega)), by (show List.all ([] : List Value) (zok 113) = true; (simp [zokL, zok_i, zok_l, zok_r] <;> omega))⟩ (isLatin1_s hi (P := fun y S9 L9 => y = (1 : Int32) ∧ S = S9 ∧ L = L9) ⟨rfl, rfl, rfl⟩) (fun y1 S9 L9 q9 => ?_)
  obtain ⟨ey1, rfl, rfl⟩ := q9
  subst ey1
  refine zi_if_eq (tgt := 23) dJ0_indexOf_7cf53_4 (by decide) (fun q9 => absurd q9 (by decide)) (fun q9 => ?_)
  refine zi_aload_n dJ0_indexOf_7cf53_7 rfl rfl ?_
  refine zi_tval hi dJ0_indexOf_7cf53_8 (zme 7 123 (by decide +kernel) rfl) ?_
  refine zi_iload_n dJ0_indexOf_7cf53_11 rfl rfl ?_
  refine zi_iload_n dJ0_indexOf_7cf53_12 rfl rfl ?_
  refine zi_aload_n dJ0_indexOf_7cf53_13 rfl rfl ?_
  refine zt_Ti (As := []) dJ0_indexOf_7cf53_14 lk_J0_505 hi rfl ⟨⟨by decide, by decide⟩, rfl, rfl⟩ rfl ⟨Nat.le_of_ble_eq_true rfl, by (show zokL 113 [some (.ref (1000 + i)), some (.int ch), some (.int fr)] = true; (simp [zokL, zok_i, zok_l, zok_r] <;> omega)), by (show List.all ([.int fr, .int ch, .ref (1100 + i)] : List Value) (zok 113) = true; (simp [zokL, zok_i, zok_l, zok_r] <;> omega))⟩ (slen_s hi (P := fun y S9 L9 => y = (nI (zSl.getD i 0)) ∧ S = S9 ∧ L = L9) ⟨rfl, rfl, rfl⟩) (fun y2 S9 L9 q9 => ?_)
  obtain ⟨ey2, rfl, rfl⟩ := q9
  replace h := h y2 ey2
  refine zt_Si (As := [.ref (1100 + i), .int ch, .int fr, .int y2]) dJ0_indexOf_7cf53_17 lk_J0_637 ⟨⟨by decide, by decide⟩, rfl, rfl⟩ rfl ⟨Nat.le_of_ble_eq_true rfl, by (show zokL 113 [some (.ref (1000 + i)), some (.int ch), some (.int fr)] = true; (simp [zokL, zok_i, zok_l, zok_r] <;> omega)), by (show List.all ([] : List Value) (zok 113) = true; (simp [zokL, zok_i, zok_l, zok_r] <;> omega))⟩ h (fun y3 S1 L1 h => ?_)
  refine zi_goto (tgt := 36) dJ0_indexOf_7cf53_20 (by decide) ?_
  exact zt_iret dJ0_indexOf_7cf53_36 rfl h
theorem e_J0_indexOf_7cf53 {i : Nat} {ch : Int32} {fr : Int32} {S : zS} {L : zL} {P : Int32 → zS → zL → Prop} (h : ∀ X, zU mJ0_indexOf_7cf53 X S L 0 [some (.ref (1000 + i)), some (.int ch), some (.int fr)] [] (zpi P)) : zCi mJ0_indexOf_7cf53 S L [.ref (1000 + i), .int ch, .int fr] P := zCi_of pn_J0_indexOf_7cf53 (Nat.le_of_ble_eq_true rfl) (fun X => zt_pad (j := 0) rfl (h X))
set_option maxHeartbeats 2000000 in
theorem b_J0_indexOf_0f7a4_0 {i : Nat} {ch : Int32} (hi : i < zSn) {X : Nat × (Nat → Int32)} {S : zS} {L : zL} {P : Int32 → zS → zL → Prop} (h : zCi mJ0_indexOf_7cf53 S L [.ref (1000 + i), .int ch, .int (0 : Int32)] (fun y1 S1 L1 => P y1 S1 L1)) : zU mJ0_indexOf_0f7a4 X S L 0 [some (.ref (1000 + i)), some (.int ch)] [] (zpi P) := by
  refine zi_aload_n dJ0_indexOf_0f7a4_0 rfl rfl ?_
  refine zi_iload_n dJ0_indexOf_0f7a4_1 rfl rfl ?_
  refine zi_iconst (v := 0) dJ0_indexOf_0f7a4_2 (by decide) ?_
  refine zt_Ti (As := [.int ch, .int (0 : Int32)]) (i := i) dJ0_indexOf_0f7a4_3 lk_J0_633 hi rfl ⟨⟨by decide, by decide⟩, rfl, rfl⟩ rfl ⟨Nat.le_of_ble_eq_true rfl, by (show zokL 113 [some (.ref (1000 + i)), some (.int ch)] = true; (simp [zokL, zok_i, zok_l, zok_r] <;> omega)), by (show List.all ([] : List Value) (zok 113) = true; (simp [zokL, zok_i, zok_l, zok_r] <;> omega))⟩ h (fun y1 S1 L1 h => ?_)
  exact zt_iret dJ0_indexOf_0f7a4_6 rfl h
theorem e_J0_indexOf_0f7a4 {i : Nat} {ch : Int32} {S : zS} {L : zL} {P : Int32 → zS → zL → Prop} (h : ∀ X, zU mJ0_indexOf_0f7a4 X S L 0 [some (.ref (1000 + i)), some (.int ch)] [] (zpi P)) : zCi mJ0_indexOf_0f7a4 S L [.ref (1000 + i), .int ch] P := zCi_of pn_J0_indexOf_0f7a4 (Nat.le_of_ble_eq_true rfl) (fun X => zt_pad (j := 0) rfl (h X))
