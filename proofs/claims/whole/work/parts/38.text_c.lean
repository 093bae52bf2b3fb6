set_option maxHeartbeats 2000000 in
theorem b_J0_length_8abf5_0 {i : Nat} (hi : i < zSn) {X : Nat × (Nat → Int32)} {S : zS} {L : zL} {P : Int32 → zS → zL → Prop} (h : P ((nI (zSl.getD i 0)) >>> ((0 : Int32) &&& 31)) S L) : zU mJ0_length_8abf5 X S L 0 [some (.ref (1000 + i))] [] (zpi P) := by
  refine zi_aload_n dJ0_length_8abf5_0 rfl rfl ?_
  refine zi_tval hi dJ0_length_8abf5_1 (zme 7 123 (by decide +kernel) rfl) ?_
  refine zi_tlen (v := nI (zSl.getD i 0)) hi rfl dJ0_length_8abf5_4 ?_
  refine zi_aload_n dJ0_length_8abf5_5 rfl rfl ?_
  refine zt_Ti (As := []) dJ0_length_8abf5_6 lk_J0_335 hi rfl ⟨⟨by decide, by decide⟩, rfl, rfl⟩ rfl ⟨Nat.le_of_ble_eq_true rfl, by (show zokL 113 [some (.ref (1000 + i))] = true; (simp [zokL, zok_i, zok_l, zok_r] <;> omega)), by (show List.all ([.int (nI (zSl.getD i 0))] : List Value) (zok 113) = true; (simp [zokL, zok_i, zok_l, zok_r] <;> omega))⟩ (coder_s hi (P := fun y S9 L9 => y = (0 : Int32) ∧ S = S9 ∧ L = L9) ⟨rfl, rfl, rfl⟩) (fun y1 S9 L9 q9 => ?_)
  obtain ⟨ey1, rfl, rfl⟩ := q9
  subst ey1
  refine zi_ishr dJ0_length_8abf5_9 ?_
  exact zt_iret dJ0_length_8abf5_10 rfl h
theorem e_J0_length_8abf5 {i : Nat} {S : zS} {L : zL} {P : Int32 → zS → zL → Prop} (h : ∀ X, zU mJ0_length_8abf5 X S L 0 [some (.ref (1000 + i))] [] (zpi P)) : zCi mJ0_length_8abf5 S L [.ref (1000 + i)] P := zCi_of pn_J0_length_8abf5 (Nat.le_of_ble_eq_true rfl) (fun X => zt_pad (j := 0) rfl (h X))
set_option maxHeartbeats 2000000 in
theorem b_J1_indexOfChar_4cfef_0 {i : Nat} {ch : Int32} {fr : Int32} {to : Int32} (hi : i < zSn) {X : Nat × (Nat → Int32)} {S : zS} {L : zL} {P : Int32 → zS → zL → Prop} (h : ∀ x1 : Int32, x1 = ch.toInt8.toInt32 → zU mJ1_indexOfChar_4cfef X S L 7 [some (.ref (1100 + i)), none, none, some (.int to), some (.int x1), some (.int fr)] [] (zpi P)) : zU mJ1_indexOfChar_4cfef X S L 0 [some (.ref (1100 + i)), some (.int ch), some (.int fr), some (.int to), none, none] [] (zpi P) := by
  refine zi_iload_n dJ1_indexOfChar_4cfef_0 rfl rfl ?_
  refine zi_i2b dJ1_indexOfChar_4cfef_1 ?_
  refine zt_nmi (fun x1 ex1 => ?_)
  replace h := h x1 ex1
  refine zi_istore dJ1_indexOfChar_4cfef_2 (by decide) rfl ?_
  refine zi_iload_n dJ1_indexOfChar_4cfef_4 rfl rfl ?_
  refine zi_istore dJ1_indexOfChar_4cfef_5 (by decide) rfl ?_
  refine zt_drop (lv' := [some (.ref (1100 + i)), none, none, some (.int to), some (.int x1), some (.int fr)]) [true, false, false, true, true, true] rfl ?_
  exact h
set_option maxHeartbeats 2000000 in
theorem b_J1_indexOfChar_4cfef_7 {i : Nat} {v3 : Int32} {v4 : Int32} {v5 : Int32} (hi : i < zSn) {X : Nat × (Nat → Int32)} {S : zS} {L : zL} {P : Int32 → zS → zL → Prop} (h : ((v3 ≤ v5 → P (-1 : Int32) S L) ∧ (¬ v3 ≤ v5 → vp_in v5 (zSl.getD i 0) ∧ ((¬ ((zSb.getD i []).getD v5.toNatClampNeg 0) = v4 → ∀ x1 : Int32, x1 = v5 + (1 : Int32) → zU mJ1_indexOfChar_4cfef X S L 7 [some (.ref (1100 + i)), none, none, some (.int v3), some (.int v4), some (.int x1)] [] (zpi P)) ∧ (((zSb.getD i []).getD v5.toNatClampNeg 0) = v4 → P v5 S L))))) : zU mJ1_indexOfChar_4cfef X S L 7 [some (.ref (1100 + i)), none, none, some (.int v3), some (.int v4), some (.int v5)] [] (zpi P) := by
  refine zi_iload dJ1_indexOfChar_4cfef_7 rfl ?_
  refine zi_iload_n dJ1_indexOfChar_4cfef_9 rfl rfl ?_
  refine zi_icmp_ge (tgt := 31) dJ1_indexOfChar_4cfef_10 (by decide) (fun q9 => ?_) (fun q9 => ?_)
  · replace h := h.1 q9
    refine zi_iconst (v := -1) dJ1_indexOfChar_4cfef_31 (by decide) ?_
    exact zt_iret dJ1_indexOfChar_4cfef_32 rfl h
  · replace h := h.2 q9
    refine zi_aload_n dJ1_indexOfChar_4cfef_13 rfl rfl ?_
    refine zi_iload dJ1_indexOfChar_4cfef_14 rfl ?_
    refine zi_tald hi h.1 dJ1_indexOfChar_4cfef_16 ?_
    replace h := h.2
    refine zi_iload dJ1_indexOfChar_4cfef_17 rfl ?_
    refine zi_icmp_ne (tgt := 25) dJ1_indexOfChar_4cfef_19 (by decide) (fun q9 => ?_) (fun q9 => ?_)
    · replace h := h.1 q9
      obtain ⟨x1, ex1⟩ : ∃ y : Int32, y = v5 + (1 : Int32) := ⟨_, rfl⟩
      replace h := h x1 ex1
      refine zi_iinc (v := x1) dJ1_indexOfChar_4cfef_25 rfl (by rw [ex1]; rfl) (by decide) rfl ?_
      refine zi_goto (tgt := 7) dJ1_indexOfChar_4cfef_28 (by decide) ?_
      refine zt_drop (lv' := [some (.ref (1100 + i)), none, none, some (.int v3), some (.int v4), some (.int x1)]) [true, false, false, true, true, true] rfl ?_
      exact h
    · replace h := h.2 q9
      refine zi_iload dJ1_indexOfChar_4cfef_22 rfl ?_
      exact zt_iret dJ1_indexOfChar_4cfef_24 rfl h
theorem e_J1_indexOfChar_4cfef {i : Nat} {ch : Int32} {fr : Int32} {to : Int32} {S : zS} {L : zL} {P : Int32 → zS → zL → Prop} (h : ∀ X, zU mJ1_indexOfChar_4cfef X S L 0 [some (.ref (1100 + i)), some (.int ch), some (.int fr), some (.int to), none, none] [] (zpi P)) : zCi mJ1_indexOfChar_4cfef S L [.ref (1100 + i), .int ch, .int fr, .int to] P := zCi_of pn_J1_indexOfChar_4cfef (Nat.le_of_ble_eq_true rfl) (fun X => zt_pad (j := 2) rfl (h X))
