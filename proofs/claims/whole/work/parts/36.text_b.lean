set_option maxHeartbeats 2000000 in
theorem b_J0_isLatin1_aae02_0 {i : Nat} (hi : i < zSn) {X : Nat × (Nat → Int32)} {S : zS} {L : zL} {P : Int32 → zS → zL → Prop} (h : P (1 : Int32) S L) : zU mJ0_isLatin1_aae02 X S L 0 [some (.ref (1000 + i))] [] (zpi P) := by
  refine zi_tcmp dJ0_isLatin1_aae02_0 (zme 2 176 (by decide +kernel) rfl) ?_
  refine zi_if_eq (tgt := 17) dJ0_isLatin1_aae02_3 (by decide) (fun q9 => absurd q9 (by decide)) (fun q9 => ?_)
  refine zi_aload_n dJ0_isLatin1_aae02_6 rfl rfl ?_
  refine zi_tcod hi dJ0_isLatin1_aae02_7 (zme 7 122 (by decide +kernel) rfl) ?_
  refine zi_if_ne (tgt := 17) dJ0_isLatin1_aae02_10 (by decide) (fun q9 => absurd q9 (by decide)) (fun q9 => ?_)
  refine zi_iconst (v := 1) dJ0_isLatin1_aae02_13 (by decide) ?_
  refine zi_goto (tgt := 18) dJ0_isLatin1_aae02_14 (by decide) ?_
  exact zt_zret (ty := .boolean) dJ0_isLatin1_aae02_18 rfl rfl h
theorem e_J0_isLatin1_aae02 {i : Nat} {S : zS} {L : zL} {P : Int32 → zS → zL → Prop} (h : ∀ X, zU mJ0_isLatin1_aae02 X S L 0 [some (.ref (1000 + i))] [] (zpi P)) : zCi mJ0_isLatin1_aae02 S L [.ref (1000 + i)] P := zCi_of pn_J0_isLatin1_aae02 (Nat.le_of_ble_eq_true rfl) (fun X => zt_pad (j := 0) rfl (h X))
set_option maxHeartbeats 2000000 in
theorem b_J0_coder_7d493_0 {i : Nat} (hi : i < zSn) {X : Nat × (Nat → Int32)} {S : zS} {L : zL} {P : Int32 → zS → zL → Prop} (h : P (0 : Int32) S L) : zU mJ0_coder_7d493 X S L 0 [some (.ref (1000 + i))] [] (zpi P) := by
  refine zi_tcmp dJ0_coder_7d493_0 (zme 2 176 (by decide +kernel) rfl) ?_
  refine zi_if_eq (tgt := 13) dJ0_coder_7d493_3 (by decide) (fun q9 => absurd q9 (by decide)) (fun q9 => ?_)
  refine zi_aload_n dJ0_coder_7d493_6 rfl rfl ?_
  refine zi_tcod hi dJ0_coder_7d493_7 (zme 7 122 (by decide +kernel) rfl) ?_
  refine zi_goto (tgt := 14) dJ0_coder_7d493_10 (by decide) ?_
  exact zt_zret (ty := .byte) dJ0_coder_7d493_14 rfl rfl h
theorem e_J0_coder_7d493 {i : Nat} {S : zS} {L : zL} {P : Int32 → zS → zL → Prop} (h : ∀ X, zU mJ0_coder_7d493 X S L 0 [some (.ref (1000 + i))] [] (zpi P)) : zCi mJ0_coder_7d493 S L [.ref (1000 + i)] P := zCi_of pn_J0_coder_7d493 (Nat.le_of_ble_eq_true rfl) (fun X => zt_pad (j := 0) rfl (h X))
set_option maxHeartbeats 2000000 in
theorem b_J1_canEncode_9a6ad_0 {ch : Int32} {X : Nat × (Nat → Int32)} {S : zS} {L : zL} {P : Int32 → zS → zL → Prop} (h : ((ch < 0 → P (0 : Int32) S L) ∧ (¬ ch < 0 → (((255 : Int32) < ch → P (0 : Int32) S L) ∧ (¬ (255 : Int32) < ch → P (1 : Int32) S L))))) : zU mJ1_canEncode_9a6ad X S L 0 [some (.int ch)] [] (zpi P) := by
  refine zi_iload_n dJ1_canEncode_9a6ad_0 rfl rfl ?_
  refine zi_if_lt (tgt := 15) dJ1_canEncode_9a6ad_1 (by decide) (fun q9 => ?_) (fun q9 => ?_)
  · replace h := h.1 q9
    refine zi_iconst (v := 0) dJ1_canEncode_9a6ad_15 (by decide) ?_
    exact zt_zret (ty := .boolean) dJ1_canEncode_9a6ad_16 rfl rfl h
  · replace h := h.2 q9
    refine zi_iload_n dJ1_canEncode_9a6ad_4 rfl rfl ?_
    refine zi_sipush (v := 255) dJ1_canEncode_9a6ad_5 (by decide) ?_
    refine zi_icmp_gt (tgt := 15) dJ1_canEncode_9a6ad_8 (by decide) (fun q9 => ?_) (fun q9 => ?_)
    · replace h := h.1 q9
      refine zi_iconst (v := 0) dJ1_canEncode_9a6ad_15 (by decide) ?_
      exact zt_zret (ty := .boolean) dJ1_canEncode_9a6ad_16 rfl rfl h
    · replace h := h.2 q9
      refine zi_iconst (v := 1) dJ1_canEncode_9a6ad_11 (by decide) ?_
      refine zi_goto (tgt := 16) dJ1_canEncode_9a6ad_12 (by decide) ?_
      exact zt_zret (ty := .boolean) dJ1_canEncode_9a6ad_16 rfl rfl h
theorem e_J1_canEncode_9a6ad {ch : Int32} {S : zS} {L : zL} {P : Int32 → zS → zL → Prop} (h : ∀ X, zU mJ1_canEncode_9a6ad X S L 0 [some (.int ch)] [] (zpi P)) : zCi mJ1_canEncode_9a6ad S L [.int ch] P := zCi_of pn_J1_canEncode_9a6ad (Nat.le_of_ble_eq_true rfl) (fun X => zt_pad (j := 0) rfl (h X))
