set_option maxHeartbeats 2000000 in
theorem b_J1_indexOf_4cfef_0 {i : Nat} {ch : Int32} {fr : Int32} {to : Int32} (hi : i < zSn) {X : Nat × (Nat → Int32)} {S : zS} {L : zL} {P : Int32 → zS → zL → Prop} (h : (((¬ ch < 0 ∧ ¬ (255 : Int32) < ch) → ∀ x1 : Int32, x1 = (if fr < (0 : Int32) then (0 : Int32) else fr) → ∀ x2 : Int32, x2 = (if (nI (zSl.getD i 0)) < to then (nI (zSl.getD i 0)) else to) → ((x1 < x2 → zCi mJ1_indexOfChar_4cfef S L [.ref (1100 + i), .int ch, .int x1, .int x2] (fun y2 S1 L1 => P y2 S1 L1)) ∧ (¬ x1 < x2 → P (-1 : Int32) S L))) ∧ (¬ (¬ ch < 0 ∧ ¬ (255 : Int32) < ch) → P (-1 : Int32) S L))) : zU mJ1_indexOf_4cfef X S L 0 [some (.ref (1100 + i)), some (.int ch), some (.int fr), some (.int to)] [] (zpi P) := by
  refine zi_iload_n dJ1_indexOf_4cfef_0 rfl rfl ?_
  refine zt_Si (As := [.int ch]) dJ1_indexOf_4cfef_1 lk_J1_88 ⟨⟨by decide, by decide⟩, rfl, rfl⟩ rfl ⟨Nat.le_of_ble_eq_true rfl, by (show zokL 113 [some (.ref (1100 + i)), some (.int ch), some (.int fr), some (.int to)] = true; (simp [zokL, zok_i, zok_l, zok_r] <;> omega)), by (show List.all ([] : List Value) (zok 113) = true; (simp [zokL, zok_i, zok_l, zok_r] <;> omega))⟩ (canEnc_s (P := fun y S9 L9 => y = (if (¬ ch < 0 ∧ ¬ (255 : Int32) < ch) then (1 : Int32) else 0) ∧ S = S9 ∧ L = L9) ⟨rfl, rfl, rfl⟩) (fun y1 S9 L9 q9 => ?_)
  obtain ⟨ey1, rfl, rfl⟩ := q9
  by_cases q9 : (¬ ch < 0 ∧ ¬ (255 : Int32) < ch)
  · replace h := h.1 q9
    rw [if_pos q9] at ey1
    subst ey1
    refine zi_if_ne (tgt := 9) dJ1_indexOf_4cfef_4 (by decide) (fun _ => ?_) (fun z9 => absurd z9 (by decide))
    refine zi_iload_n dJ1_indexOf_4cfef_9 rfl rfl ?_
    refine zi_iconst (v := 0) dJ1_indexOf_4cfef_10 (by decide) ?_
    refine zi_mmax dJ1_indexOf_4cfef_11 lm_J1_92 ⟨by decide, by decide, by decide⟩ (Nat.le_of_ble_eq_true rfl) ?_
    refine zt_nmi (fun x1 ex1 => ?_)
    replace h := h x1 ex1
    refine zi_istore_n dJ1_indexOf_4cfef_14 rfl (by decide) rfl ?_
    refine zi_iload_n dJ1_indexOf_4cfef_15 rfl rfl ?_
    refine zi_aload_n dJ1_indexOf_4cfef_16 rfl rfl ?_
    refine zi_tlen (v := nI (zSl.getD i 0)) hi rfl dJ1_indexOf_4cfef_17 ?_
    refine zi_mmin dJ1_indexOf_4cfef_18 lm_J1_38 ⟨by decide, by decide, by decide⟩ (Nat.le_of_ble_eq_true rfl) ?_
    refine zt_nmi (fun x2 ex2 => ?_)
    replace h := h x2 ex2
    refine zi_istore_n dJ1_indexOf_4cfef_21 rfl (by decide) rfl ?_
    refine zi_iload_n dJ1_indexOf_4cfef_22 rfl rfl ?_
    refine zi_iload_n dJ1_indexOf_4cfef_23 rfl rfl ?_
    refine zi_icmp_lt (tgt := 29) dJ1_indexOf_4cfef_24 (by decide) (fun q9 => ?_) (fun q9 => ?_)
    · replace h := h.1 q9
      refine zi_aload_n dJ1_indexOf_4cfef_29 rfl rfl ?_
      refine zi_iload_n dJ1_indexOf_4cfef_30 rfl rfl ?_
      refine zi_iload_n dJ1_indexOf_4cfef_31 rfl rfl ?_
      refine zi_iload_n dJ1_indexOf_4cfef_32 rfl rfl ?_
      refine zt_Si (As := [.ref (1100 + i), .int ch, .int x1, .int x2]) dJ1_indexOf_4cfef_33 lk_J1_95 ⟨⟨by decide, by decide⟩, rfl, rfl⟩ rfl ⟨Nat.le_of_ble_eq_true rfl, by (show zokL 113 [some (.ref (1100 + i)), some (.int ch), some (.int x1), some (.int x2)] = true; (simp [zokL, zok_i, zok_l, zok_r] <;> omega)), by (show List.all ([] : List Value) (zok 113) = true; (simp [zokL, zok_i, zok_l, zok_r] <;> omega))⟩ h (fun y2 S1 L1 h => ?_)
      exact zt_iret dJ1_indexOf_4cfef_36 rfl h
    · replace h := h.2 q9
      refine zi_iconst (v := -1) dJ1_indexOf_4cfef_27 (by decide) ?_
      exact zt_iret dJ1_indexOf_4cfef_28 rfl h
  · replace h := h.2 q9
    rw [if_neg q9] at ey1
    subst ey1
    refine zi_if_ne (tgt := 9) dJ1_indexOf_4cfef_4 (by decide) (fun z9 => absurd rfl z9) (fun _ => ?_)
    refine zi_iconst (v := -1) dJ1_indexOf_4cfef_7 (by decide) ?_
    exact zt_iret dJ1_indexOf_4cfef_8 rfl h
theorem e_J1_indexOf_4cfef {i : Nat} {ch : Int32} {fr : Int32} {to : Int32} {S : zS} {L : zL} {P : Int32 → zS → zL → Prop} (h : ∀ X, zU mJ1_indexOf_4cfef X S L 0 [some (.ref (1100 + i)), some (.int ch), some (.int fr), some (.int to)] [] (zpi P)) : zCi mJ1_indexOf_4cfef S L [.ref (1100 + i), .int ch, .int fr, .int to] P := zCi_of pn_J1_indexOf_4cfef (Nat.le_of_ble_eq_true rfl) (fun X => zt_pad (j := 0) rfl (h X))
