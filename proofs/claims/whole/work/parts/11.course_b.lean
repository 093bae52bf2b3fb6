/-- a Told object at t: its five Rows behind it -/
def zTo (t : Nat) : Prop := SK[t]? = some (.inr (8, [some (some (t + 1)), some (some (t + 5)), some (some (t + 9)), some (some (t + 13)), some (some (t + 17)), none, none])) ∧ zRo (t + 1) 8 ∧ zRo (t + 5) 10 ∧ zRo (t + 9) 9 ∧ zRo (t + 13) 8 ∧ zRo (t + 17) 8
/-- a Course object at k over the Told at t -/
def zCo (k t : Nat) : Prop := SK[k]? = some (.inr (2, [some (some t), some (some (k + 1)), some (some (k + 2)), some (some (k + 3)), none, none])) ∧ SK[k + 1]? = some (.inl (0, 41)) ∧ SK[k + 2]? = some (.inl (0, 984)) ∧ SK[k + 3]? = some (.inl (0, 8)) ∧ zTo t ∧ k < 109 ∧ t < 92 ∧ (k + 3 < t ∨ t + 20 < k)
theorem zTo5 : zTo 5 := ⟨rfl, ⟨rfl, rfl, rfl, rfl⟩, ⟨rfl, rfl, rfl, rfl⟩, ⟨rfl, rfl, rfl, rfl⟩, ⟨rfl, rfl, rfl, rfl⟩, ⟨rfl, rfl, rfl, rfl⟩⟩
theorem zTo31 : zTo 31 := ⟨rfl, ⟨rfl, rfl, rfl, rfl⟩, ⟨rfl, rfl, rfl, rfl⟩, ⟨rfl, rfl, rfl, rfl⟩, ⟨rfl, rfl, rfl, rfl⟩, ⟨rfl, rfl, rfl, rfl⟩⟩
theorem zCo1 : zCo 26 5 := ⟨rfl, rfl, rfl, rfl, zTo5, by decide, by decide, by decide⟩
theorem zCo2 : zCo 52 31 := ⟨rfl, rfl, rfl, rfl, zTo31, by decide, by decide, by decide⟩
set_option maxHeartbeats 2000000 in
theorem b_X2_lives_0 {k t : Nat} {who : Int32} (hC : zCo k t) {X : Nat × (Nat → Int32)} {S : zS} {L : zL} {P : Int32 → zS → zL → Prop} (h : ((who < 0 → P (0 : Int32) S L) ∧ (¬ who < 0 → (((S (t + 1) 3) ≤ who → P (0 : Int32) S L) ∧ (¬ (S (t + 1) 3) ≤ who → vp_in who 8 ∧ ((¬ (S (k + 3) who.toNatClampNeg) = (-1 : Int32) → P (0 : Int32) S L) ∧ ((S (k + 3) who.toNatClampNeg) = (-1 : Int32) → P (1 : Int32) S L))))))) : zU mX2_lives X S L 0 [some (.ref k), some (.int who)] [] (zpi P) := by
  obtain ⟨hkb, htb, -⟩ := hC.2.2.2.2.2
  refine zi_iload_n dX2_lives_0 rfl rfl ?_
  refine zi_if_lt (tgt := 32) dX2_lives_1 (by decide) (fun q9 => ?_) (fun q9 => ?_)
  · replace h := h.1 q9
    refine zi_iconst (v := 0) dX2_lives_32 (by decide) ?_
    exact zt_zret (ty := .boolean) dX2_lives_33 rfl rfl h
  · replace h := h.2 q9
    refine zi_iload_n dX2_lives_4 rfl rfl ?_
    refine zi_aload_n dX2_lives_5 rfl rfl ?_
    refine zi_getr fl_X2_28 hC.1 rfl dX2_lives_6 ?_
    refine zi_getr fl_X2_81 hC.2.2.2.2.1.1 rfl dX2_lives_9 ?_
    refine zi_geti fl_X2_84 hC.2.2.2.2.1.2.1.1 rfl dX2_lives_12 ?_
    refine zi_icmp_ge (tgt := 32) dX2_lives_15 (by decide) (fun q9 => ?_) (fun q9 => ?_)
    · replace h := h.1 q9
      refine zi_iconst (v := 0) dX2_lives_32 (by decide) ?_
      exact zt_zret (ty := .boolean) dX2_lives_33 rfl rfl h
    · replace h := h.2 q9
      refine zi_aload_n dX2_lives_18 rfl rfl ?_
      refine zi_getr fl_X2_18 hC.1 rfl dX2_lives_19 ?_
      refine zi_iload_n dX2_lives_22 rfl rfl ?_
      refine zi_iald hC.2.2.2.1 h.1 dX2_lives_23 ?_
      replace h := h.2
      refine zi_iconst (v := -1) dX2_lives_24 (by decide) ?_
      refine zi_icmp_ne (tgt := 32) dX2_lives_25 (by decide) (fun q9 => ?_) (fun q9 => ?_)
      · replace h := h.1 q9
        refine zi_iconst (v := 0) dX2_lives_32 (by decide) ?_
        exact zt_zret (ty := .boolean) dX2_lives_33 rfl rfl h
      · replace h := h.2 q9
        refine zi_iconst (v := 1) dX2_lives_28 (by decide) ?_
        refine zi_goto (tgt := 33) dX2_lives_29 (by decide) ?_
        exact zt_zret (ty := .boolean) dX2_lives_33 rfl rfl h
theorem e_X2_lives {k : Nat} {who : Int32} {S : zS} {L : zL} {P : Int32 → zS → zL → Prop} (h : ∀ X, zU mX2_lives X S L 0 [some (.ref k), some (.int who)] [] (zpi P)) : zCi mX2_lives S L [.ref k, .int who] P := zCi_of pn_X2_lives (Nat.le_of_ble_eq_true rfl) (fun X => zt_pad (j := 0) rfl (h X))
set_option maxHeartbeats 2000000 in
theorem b_X2_growth_0 {wool : Int32} {what : Int32} {X : Nat × (Nat → Int32)} {S : zS} {L : zL} {P : Int32 → zS → zL → Prop} (h : ((¬ what = 0 → ((¬ what = (1 : Int32) → ((¬ what = (2 : Int32) → zU mX2_growth X S L 28 [some (.int wool), none, none] [.int (9 : Int32)] (zpi P)) ∧ (what = (2 : Int32) → zU mX2_growth X S L 28 [some (.int wool), none, none] [.int (4 : Int32)] (zpi P)))) ∧ (what = (1 : Int32) → zU mX2_growth X S L 28 [some (.int wool), none, none] [.int (3 : Int32)] (zpi P)))) ∧ (what = 0 → zU mX2_growth X S L 28 [some (.int wool), none, none] [.int (1 : Int32)] (zpi P)))) : zU mX2_growth X S L 0 [some (.int wool), some (.int what), none] [] (zpi P) := by
  refine zi_iload_n dX2_growth_0 rfl rfl ?_
  refine zi_if_ne (tgt := 8) dX2_growth_1 (by decide) (fun q9 => ?_) (fun q9 => ?_)
  · replace h := h.1 q9
    refine zi_iload_n dX2_growth_8 rfl rfl ?_
    refine zi_iconst (v := 1) dX2_growth_9 (by decide) ?_
    refine zi_icmp_ne (tgt := 17) dX2_growth_10 (by decide) (fun q9 => ?_) (fun q9 => ?_)
    · replace h := h.1 q9
      refine zi_iload_n dX2_growth_17 rfl rfl ?_
      refine zi_iconst (v := 2) dX2_growth_18 (by decide) ?_
      refine zi_icmp_ne (tgt := 26) dX2_growth_19 (by decide) (fun q9 => ?_) (fun q9 => ?_)
      · replace h := h.1 q9
        refine zi_bipush (v := 9) dX2_growth_26 (by decide) ?_
        refine zt_drop (lv' := [some (.int wool), none, none]) [true, false, false] rfl ?_
        exact h
      · replace h := h.2 q9
        refine zi_iconst (v := 4) dX2_growth_22 (by decide) ?_
        refine zi_goto (tgt := 28) dX2_growth_23 (by decide) ?_
        refine zt_drop (lv' := [some (.int wool), none, none]) [true, false, false] rfl ?_
        exact h
    · replace h := h.2 q9
      refine zi_iconst (v := 3) dX2_growth_13 (by decide) ?_
      refine zi_goto (tgt := 28) dX2_growth_14 (by decide) ?_
      refine zt_drop (lv' := [some (.int wool), none, none]) [true, false, false] rfl ?_
      exact h
  · replace h := h.2 q9
    refine zi_iconst (v := 1) dX2_growth_4 (by decide) ?_
    refine zi_goto (tgt := 28) dX2_growth_5 (by decide) ?_
    refine zt_drop (lv' := [some (.int wool), none, none]) [true, false, false] rfl ?_
    exact h
set_option maxHeartbeats 2000000 in
theorem b_X2_growth_28 {v0 : Int32} {w0 : Int32} {X : Nat × (Nat → Int32)} {S : zS} {L : zL} {P : Int32 → zS → zL → Prop} (h : ((v0 = 0 → P ((w0 / (2 : Int32)) + (1 : Int32)) S L) ∧ (v0 = 1 → P ((2 : Int32) * w0) S L) ∧ (¬ v0 = 0 → ¬ v0 = 1 → P w0 S L))) : zU mX2_growth X S L 28 [some (.int v0), none, none] [.int w0] (zpi P) := by
  refine zi_istore_n dX2_growth_28 rfl (by decide) rfl ?_
  refine zi_iload_n dX2_growth_29 rfl rfl ?_
  by_cases q0 : v0 = 0
  · replace h := h.1 q0
    refine zi_lookup (off := 26) (tgt := 56) dX2_growth_30 (by decide) (by rw [q0]; decide) (by decide) ?_
    refine zi_iload_n dX2_growth_56 rfl rfl ?_
    refine zi_iconst (v := 2) dX2_growth_57 (by decide) ?_
    refine zi_idiv dX2_growth_58 (by decide) ?_
    refine zi_iconst (v := 1) dX2_growth_59 (by decide) ?_
    refine zi_iadd dX2_growth_60 ?_
    exact zt_iret dX2_growth_61 rfl h
  replace h := h.2
  by_cases q1 : v0 = 1
  · replace h := h.1 q1
    refine zi_lookup (off := 32) (tgt := 62) dX2_growth_30 (by decide) (by rw [q1]; decide) (by decide) ?_
    refine zi_iconst (v := 2) dX2_growth_62 (by decide) ?_
    refine zi_iload_n dX2_growth_63 rfl rfl ?_
    refine zi_imul dX2_growth_64 ?_
    exact zt_iret dX2_growth_65 rfl h
  replace h := h.2
  replace h := h q0 q1
  refine zi_lookup (off := 36) (tgt := 66) dX2_growth_30 (by decide) (by rw [lv_osw q0 (by decide)]; rw [lv_osw q1 (by decide)]; rfl) (by decide) ?_
  refine zi_iload_n dX2_growth_66 rfl rfl ?_
  exact zt_iret dX2_growth_67 rfl h
theorem e_X2_growth {wool : Int32} {what : Int32} {S : zS} {L : zL} {P : Int32 → zS → zL → Prop} (h : ∀ X, zU mX2_growth X S L 0 [some (.int wool), some (.int what), none] [] (zpi P)) : zCi mX2_growth S L [.int wool, .int what] P := zCi_of pn_X2_growth (Nat.le_of_ble_eq_true rfl) (fun X => zt_pad (j := 1) rfl (h X))
set_option maxHeartbeats 2000000 in
theorem b_X2_monthsOf_0 {j m : Nat} (hj : zRo j m) {X : Nat × (Nat → Int32)} {S : zS} {L : zL} {P : Int32 → zS → zL → Prop} (h : zU mX2_monthsOf X S L 4 [some (.ref j), some (.int (0 : Int32)), some (.int (0 : Int32))] [] (zpi P)) : zU mX2_monthsOf X S L 0 [some (.ref j), none, none] [] (zpi P) := by
  refine zi_iconst (v := 0) dX2_monthsOf_0 (by decide) ?_
  refine zi_istore_n dX2_monthsOf_1 rfl (by decide) rfl ?_
  refine zi_iconst (v := 0) dX2_monthsOf_2 (by decide) ?_
  refine zi_istore_n dX2_monthsOf_3 rfl (by decide) rfl ?_
  refine zt_drop (lv' := [some (.ref j), some (.int (0 : Int32)), some (.int (0 : Int32))]) [true, true, true] rfl ?_
  exact h
set_option maxHeartbeats 2000000 in
theorem b_X2_monthsOf_4 {j m : Nat} {v1 : Int32} {v2 : Int32} (hj : zRo j m) {X : Nat × (Nat → Int32)} {S : zS} {L : zL} {P : Int32 → zS → zL → Prop} (h : (((S j 3) ≤ v2 → P v1 S L) ∧ (¬ (S j 3) ≤ v2 → vp_in v2 m ∧ ∀ x1 : Int32, x1 = (v1 ||| ((1 : Int32) <<< ((S (j + 1) v2.toNatClampNeg) &&& 31))) → ∀ x2 : Int32, x2 = v2 + (1 : Int32) → zU mX2_monthsOf X S L 4 [some (.ref j), some (.int x1), some (.int x2)] [] (zpi P)))) : zU mX2_monthsOf X S L 4 [some (.ref j), some (.int v1), some (.int v2)] [] (zpi P) := by
  refine zi_iload_n dX2_monthsOf_4 rfl rfl ?_
  refine zi_aload_n dX2_monthsOf_5 rfl rfl ?_
  refine zi_geti fl_X2_84 hj.1 rfl dX2_monthsOf_6 ?_
  refine zi_icmp_ge (tgt := 29) dX2_monthsOf_9 (by decide) (fun q9 => ?_) (fun q9 => ?_)
  · replace h := h.1 q9
    refine zi_iload_n dX2_monthsOf_29 rfl rfl ?_
    exact zt_iret dX2_monthsOf_30 rfl h
  · replace h := h.2 q9
    refine zi_iload_n dX2_monthsOf_12 rfl rfl ?_
    refine zi_iconst (v := 1) dX2_monthsOf_13 (by decide) ?_
    refine zi_aload_n dX2_monthsOf_14 rfl rfl ?_
    refine zi_getr fl_X2_95 hj.1 rfl dX2_monthsOf_15 ?_
    refine zi_iload_n dX2_monthsOf_18 rfl rfl ?_
    refine zi_iald hj.2.1 h.1 dX2_monthsOf_19 ?_
    replace h := h.2
    refine zi_ishl dX2_monthsOf_20 ?_
    refine zi_ior dX2_monthsOf_21 ?_
    refine zt_nmi (fun x1 ex1 => ?_)
    replace h := h x1 ex1
    refine zi_istore_n dX2_monthsOf_22 rfl (by decide) rfl ?_
    obtain ⟨x2, ex2⟩ : ∃ y : Int32, y = v2 + (1 : Int32) := ⟨_, rfl⟩
    replace h := h x2 ex2
    refine zi_iinc (v := x2) dX2_monthsOf_23 rfl (by rw [ex2]; rfl) (by decide) rfl ?_
    refine zi_goto (tgt := 4) dX2_monthsOf_26 (by decide) ?_
    refine zt_drop (lv' := [some (.ref j), some (.int x1), some (.int x2)]) [true, true, true] rfl ?_
    exact h
theorem e_X2_monthsOf {j : Nat} {S : zS} {L : zL} {P : Int32 → zS → zL → Prop} (h : ∀ X, zU mX2_monthsOf X S L 0 [some (.ref j), none, none] [] (zpi P)) : zCi mX2_monthsOf S L [.ref j] P := zCi_of pn_X2_monthsOf (Nat.le_of_ble_eq_true rfl) (fun X => zt_pad (j := 2) rfl (h X))
set_option maxHeartbeats 2000000 in
theorem b_X2_woolliestIn_0 {k t : Nat} {county : Int32} (hC : zCo k t) {X : Nat × (Nat → Int32)} {S : zS} {L : zL} {P : Int32 → zS → zL → Prop} (h : zU mX2_woolliestIn X S L 7 [some (.ref k), some (.int county), some (.int (-1 : Int32)), some (.int (0 : Int32)), some (.int (0 : Int32))] [] (zpi P)) : zU mX2_woolliestIn X S L 0 [some (.ref k), some (.int county), none, none, none] [] (zpi P) := by
  obtain ⟨hkb, htb, -⟩ := hC.2.2.2.2.2
  refine zi_iconst (v := -1) dX2_woolliestIn_0 (by decide) ?_
  refine zi_istore_n dX2_woolliestIn_1 rfl (by decide) rfl ?_
  refine zi_iconst (v := 0) dX2_woolliestIn_2 (by decide) ?_
  refine zi_istore_n dX2_woolliestIn_3 rfl (by decide) rfl ?_
  refine zi_iconst (v := 0) dX2_woolliestIn_4 (by decide) ?_
  refine zi_istore dX2_woolliestIn_5 (by decide) rfl ?_
  refine zt_drop (lv' := [some (.ref k), some (.int county), some (.int (-1 : Int32)), some (.int (0 : Int32)), some (.int (0 : Int32))]) [true, true, true, true, true] rfl ?_
  exact h
set_option maxHeartbeats 2000000 in
theorem b_X2_woolliestIn_7 {k t : Nat} {v1 : Int32} {v2 : Int32} {v3 : Int32} {v4 : Int32} (hC : zCo k t) {X : Nat × (Nat → Int32)} {S : zS} {L : zL} {P : Int32 → zS → zL → Prop} (h : (((S (t + 1) 3) ≤ v4 → P v2 S L) ∧ (¬ (S (t + 1) 3) ≤ v4 → vp_in ((0 : Int32) + v4) 41 ∧ (((S (k + 1) ((0 : Int32) + v4).toNatClampNeg) ≤ v3 → ∀ x1 : Int32, x1 = v4 + (1 : Int32) → zU mX2_woolliestIn X S L 7 [some (.ref k), some (.int v1), some (.int v2), some (.int v3), some (.int x1)] [] (zpi P)) ∧ (¬ (S (k + 1) ((0 : Int32) + v4).toNatClampNeg) ≤ v3 → vp_in ((8 : Int32) + v4) 41 ∧ ((¬ (S (k + 1) ((8 : Int32) + v4).toNatClampNeg) = v1 → ∀ x1 : Int32, x1 = v4 + (1 : Int32) → zU mX2_woolliestIn X S L 7 [some (.ref k), some (.int v1), some (.int v2), some (.int v3), some (.int x1)] [] (zpi P)) ∧ ((S (k + 1) ((8 : Int32) + v4).toNatClampNeg) = v1 → vp_in v4 8 ∧ ((¬ (S (k + 3) v4.toNatClampNeg) = (-1 : Int32) → ∀ x1 : Int32, x1 = v4 + (1 : Int32) → zU mX2_woolliestIn X S L 7 [some (.ref k), some (.int v1), some (.int v2), some (.int v3), some (.int x1)] [] (zpi P)) ∧ ((S (k + 3) v4.toNatClampNeg) = (-1 : Int32) → vp_in ((0 : Int32) + v4) 41 ∧ ∀ x1 : Int32, x1 = (S (k + 1) ((0 : Int32) + v4).toNatClampNeg) → ∀ x2 : Int32, x2 = v4 + (1 : Int32) → zU mX2_woolliestIn X S L 7 [some (.ref k), some (.int v1), some (.int v4), some (.int x1), some (.int x2)] [] (zpi P)))))))))) : zU mX2_woolliestIn X S L 7 [some (.ref k), some (.int v1), some (.int v2), some (.int v3), some (.int v4)] [] (zpi P) := by
  obtain ⟨hkb, htb, -⟩ := hC.2.2.2.2.2
  refine zi_iload dX2_woolliestIn_7 rfl ?_
  refine zi_aload_n dX2_woolliestIn_9 rfl rfl ?_
  refine zi_getr fl_X2_28 hC.1 rfl dX2_woolliestIn_10 ?_
  refine zi_getr fl_X2_81 hC.2.2.2.2.1.1 rfl dX2_woolliestIn_13 ?_
  refine zi_geti fl_X2_84 hC.2.2.2.2.1.2.1.1 rfl dX2_woolliestIn_16 ?_
  refine zi_icmp_ge (tgt := 79) dX2_woolliestIn_19 (by decide) (fun q9 => ?_) (fun q9 => ?_)
  · replace h := h.1 q9
    refine zi_iload_n dX2_woolliestIn_79 rfl rfl ?_
    exact zt_iret dX2_woolliestIn_80 rfl h
  · replace h := h.2 q9
    refine zi_aload_n dX2_woolliestIn_22 rfl rfl ?_
    refine zi_getr fl_X2_9 hC.1 rfl dX2_woolliestIn_23 ?_
    refine zi_iconst (v := 0) dX2_woolliestIn_26 (by decide) ?_
    refine zi_iload dX2_woolliestIn_27 rfl ?_
    refine zi_iadd dX2_woolliestIn_29 ?_
    refine zi_iald hC.2.1 h.1 dX2_woolliestIn_30 ?_
    replace h := h.2
    refine zi_iload_n dX2_woolliestIn_31 rfl rfl ?_
    refine zi_icmp_le (tgt := 73) dX2_woolliestIn_32 (by decide) (fun q9 => ?_) (fun q9 => ?_)
    · replace h := h.1 q9
      obtain ⟨x1, ex1⟩ : ∃ y : Int32, y = v4 + (1 : Int32) := ⟨_, rfl⟩
      replace h := h x1 ex1
      refine zi_iinc (v := x1) dX2_woolliestIn_73 rfl (by rw [ex1]; rfl) (by decide) rfl ?_
      refine zi_goto (tgt := 7) dX2_woolliestIn_76 (by decide) ?_
      refine zt_drop (lv' := [some (.ref k), some (.int v1), some (.int v2), some (.int v3), some (.int x1)]) [true, true, true, true, true] rfl ?_
      exact h
    · replace h := h.2 q9
      refine zi_aload_n dX2_woolliestIn_35 rfl rfl ?_
      refine zi_getr fl_X2_9 hC.1 rfl dX2_woolliestIn_36 ?_
      refine zi_bipush (v := 8) dX2_woolliestIn_39 (by decide) ?_
      refine zi_iload dX2_woolliestIn_41 rfl ?_
      refine zi_iadd dX2_woolliestIn_43 ?_
      refine zi_iald hC.2.1 h.1 dX2_woolliestIn_44 ?_
      replace h := h.2
      refine zi_iload_n dX2_woolliestIn_45 rfl rfl ?_
      refine zi_icmp_ne (tgt := 73) dX2_woolliestIn_46 (by decide) (fun q9 => ?_) (fun q9 => ?_)
      · replace h := h.1 q9
        obtain ⟨x1, ex1⟩ : ∃ y : Int32, y = v4 + (1 : Int32) := ⟨_, rfl⟩
        replace h := h x1 ex1
        refine zi_iinc (v := x1) dX2_woolliestIn_73 rfl (by rw [ex1]; rfl) (by decide) rfl ?_
        refine zi_goto (tgt := 7) dX2_woolliestIn_76 (by decide) ?_
        refine zt_drop (lv' := [some (.ref k), some (.int v1), some (.int v2), some (.int v3), some (.int x1)]) [true, true, true, true, true] rfl ?_
        exact h
      · replace h := h.2 q9
        refine zi_aload_n dX2_woolliestIn_49 rfl rfl ?_
        refine zi_getr fl_X2_18 hC.1 rfl dX2_woolliestIn_50 ?_
        refine zi_iload dX2_woolliestIn_53 rfl ?_
        refine zi_iald hC.2.2.2.1 h.1 dX2_woolliestIn_55 ?_
        replace h := h.2
        refine zi_iconst (v := -1) dX2_woolliestIn_56 (by decide) ?_
        refine zi_icmp_ne (tgt := 73) dX2_woolliestIn_57 (by decide) (fun q9 => ?_) (fun q9 => ?_)
        · replace h := h.1 q9
          obtain ⟨x1, ex1⟩ : ∃ y : Int32, y = v4 + (1 : Int32) := ⟨_, rfl⟩
          replace h := h x1 ex1
          refine zi_iinc (v := x1) dX2_woolliestIn_73 rfl (by rw [ex1]; rfl) (by decide) rfl ?_
          refine zi_goto (tgt := 7) dX2_woolliestIn_76 (by decide) ?_
          refine zt_drop (lv' := [some (.ref k), some (.int v1), some (.int v2), some (.int v3), some (.int x1)]) [true, true, true, true, true] rfl ?_
          exact h
        · replace h := h.2 q9
          refine zi_iload dX2_woolliestIn_60 rfl ?_
          refine zi_istore_n dX2_woolliestIn_62 rfl (by decide) rfl ?_
          refine zi_aload_n dX2_woolliestIn_63 rfl rfl ?_
          refine zi_getr fl_X2_9 hC.1 rfl dX2_woolliestIn_64 ?_
          refine zi_iconst (v := 0) dX2_woolliestIn_67 (by decide) ?_
          refine zi_iload dX2_woolliestIn_68 rfl ?_
          refine zi_iadd dX2_woolliestIn_70 ?_
          refine zi_iald hC.2.1 h.1 dX2_woolliestIn_71 ?_
          replace h := h.2
          refine zt_nmi (fun x1 ex1 => ?_)
          replace h := h x1 ex1
          refine zi_istore_n dX2_woolliestIn_72 rfl (by decide) rfl ?_
          obtain ⟨x2, ex2⟩ : ∃ y : Int32, y = v4 + (1 : Int32) := ⟨_, rfl⟩
          replace h := h x2 ex2
          refine zi_iinc (v := x2) dX2_woolliestIn_73 rfl (by rw [ex2]; rfl) (by decide) rfl ?_
          refine zi_goto (tgt := 7) dX2_woolliestIn_76 (by decide) ?_
          refine zt_drop (lv' := [some (.ref k), some (.int v1), some (.int v4), some (.int x1), some (.int x2)]) [true, true, true, true, true] rfl ?_
          exact h
theorem e_X2_woolliestIn {k : Nat} {county : Int32} {S : zS} {L : zL} {P : Int32 → zS → zL → Prop} (h : ∀ X, zU mX2_woolliestIn X S L 0 [some (.ref k), some (.int county), none, none, none] [] (zpi P)) : zCi mX2_woolliestIn S L [.ref k, .int county] P := zCi_of pn_X2_woolliestIn (Nat.le_of_ble_eq_true rfl) (fun X => zt_pad (j := 3) rfl (h X))
set_option maxHeartbeats 2000000 in
theorem b_X2_moult_0 {k t : Nat} {doers : Int32} (hC : zCo k t) {X : Nat × (Nat → Int32)} {S : zS} {L : zL} {P : zS → zL → Prop} (h : zU mX2_moult X S L 2 [some (.ref k), some (.int doers), some (.int (0 : Int32)), none] [] (zpv P)) : zU mX2_moult X S L 0 [some (.ref k), some (.int doers), none, none] [] (zpv P) := by
  obtain ⟨hkb, htb, -⟩ := hC.2.2.2.2.2
  refine zi_iconst (v := 0) dX2_moult_0 (by decide) ?_
  refine zi_istore_n dX2_moult_1 rfl (by decide) rfl ?_
  refine zt_drop (lv' := [some (.ref k), some (.int doers), some (.int (0 : Int32)), none]) [true, true, true, false] rfl ?_
  exact h
set_option maxHeartbeats 2000000 in
theorem b_X2_moult_2 {k t : Nat} {v1 : Int32} {v2 : Int32} (hC : zCo k t) {X : Nat × (Nat → Int32)} {S : zS} {L : zL} {P : zS → zL → Prop} (h : (((S (t + 1) 3) ≤ v2 → P S L) ∧ (¬ (S (t + 1) 3) ≤ v2 → vp_in ((0 : Int32) + v2) 41 ∧ ∀ x1 : Int32, x1 = (S (k + 1) ((0 : Int32) + v2).toNatClampNeg) → ((x1 ≤ 0 → ∀ x2 : Int32, x2 = v2 + (1 : Int32) → zU mX2_moult X S L 2 [some (.ref k), some (.int v1), some (.int x2), none] [] (zpv P)) ∧ (¬ x1 ≤ 0 → (((S t 5) < x1 → ∀ x2 : Int32, x2 = v2 + (1 : Int32) → zU mX2_moult X S L 2 [some (.ref k), some (.int v1), some (.int x2), none] [] (zpv P)) ∧ (¬ (S t 5) < x1 → vp_in v2 8 ∧ ((¬ (S (k + 3) v2.toNatClampNeg) = (-1 : Int32) → ∀ x2 : Int32, x2 = v2 + (1 : Int32) → zU mX2_moult X S L 2 [some (.ref k), some (.int v1), some (.int x2), none] [] (zpv P)) ∧ ((S (k + 3) v2.toNatClampNeg) = (-1 : Int32) → ((¬ ((v1 >>> (v2 &&& 31)) &&& (1 : Int32)) = 0 → ∀ x2 : Int32, x2 = v2 + (1 : Int32) → zU mX2_moult X S L 2 [some (.ref k), some (.int v1), some (.int x2), none] [] (zpv P)) ∧ (((v1 >>> (v2 &&& 31)) &&& (1 : Int32)) = 0 → vp_in ((0 : Int32) + v2) 41 ∧ ∀ S1 : zS, S1 = zc S (k + 1) (upd (S (k + 1)) ((0 : Int32) + v2).toNatClampNeg (x1 - (1 : Int32))) → ∀ x2 : Int32, x2 = v2 + (1 : Int32) → zU mX2_moult X S1 L 2 [some (.ref k), some (.int v1), some (.int x2), none] [] (zpv P)))))))))))) : zU mX2_moult X S L 2 [some (.ref k), some (.int v1), some (.int v2), none] [] (zpv P) := by
  obtain ⟨hkb, htb, -⟩ := hC.2.2.2.2.2
  refine zi_iload_n dX2_moult_2 rfl rfl ?_
  refine zi_aload_n dX2_moult_3 rfl rfl ?_
  refine zi_getr fl_X2_28 hC.1 rfl dX2_moult_4 ?_
  refine zi_getr fl_X2_81 hC.2.2.2.2.1.1 rfl dX2_moult_7 ?_
  refine zi_geti fl_X2_84 hC.2.2.2.2.1.2.1.1 rfl dX2_moult_10 ?_
  refine zi_icmp_ge (tgt := 75) dX2_moult_13 (by decide) (fun q9 => ?_) (fun q9 => ?_)
  · replace h := h.1 q9
    exact zt_vret dX2_moult_75 rfl h
  · replace h := h.2 q9
    refine zi_aload_n dX2_moult_16 rfl rfl ?_
    refine zi_getr fl_X2_9 hC.1 rfl dX2_moult_17 ?_
    refine zi_iconst (v := 0) dX2_moult_20 (by decide) ?_
    refine zi_iload_n dX2_moult_21 rfl rfl ?_
    refine zi_iadd dX2_moult_22 ?_
    refine zi_iald hC.2.1 h.1 dX2_moult_23 ?_
    replace h := h.2
    refine zt_nmi (fun x1 ex1 => ?_)
    replace h := h x1 ex1
    refine zi_istore_n dX2_moult_24 rfl (by decide) rfl ?_
    refine zi_iload_n dX2_moult_25 rfl rfl ?_
    refine zi_if_le (tgt := 69) dX2_moult_26 (by decide) (fun q9 => ?_) (fun q9 => ?_)
    · replace h := h.1 q9
      obtain ⟨x2, ex2⟩ : ∃ y : Int32, y = v2 + (1 : Int32) := ⟨_, rfl⟩
      replace h := h x2 ex2
      refine zi_iinc (v := x2) dX2_moult_69 rfl (by rw [ex2]; rfl) (by decide) rfl ?_
      refine zi_goto (tgt := 2) dX2_moult_72 (by decide) ?_
      refine zt_drop (lv' := [some (.ref k), some (.int v1), some (.int x2), none]) [true, true, true, false] rfl ?_
      exact h
    · replace h := h.2 q9
      refine zi_iload_n dX2_moult_29 rfl rfl ?_
      refine zi_aload_n dX2_moult_30 rfl rfl ?_
      refine zi_getr fl_X2_28 hC.1 rfl dX2_moult_31 ?_
      refine zi_geti fl_X2_106 hC.2.2.2.2.1.1 rfl dX2_moult_34 ?_
      refine zi_icmp_gt (tgt := 69) dX2_moult_37 (by decide) (fun q9 => ?_) (fun q9 => ?_)
      · replace h := h.1 q9
        obtain ⟨x2, ex2⟩ : ∃ y : Int32, y = v2 + (1 : Int32) := ⟨_, rfl⟩
        replace h := h x2 ex2
        refine zi_iinc (v := x2) dX2_moult_69 rfl (by rw [ex2]; rfl) (by decide) rfl ?_
        refine zi_goto (tgt := 2) dX2_moult_72 (by decide) ?_
        refine zt_drop (lv' := [some (.ref k), some (.int v1), some (.int x2), none]) [true, true, true, false] rfl ?_
        exact h
      · replace h := h.2 q9
        refine zi_aload_n dX2_moult_40 rfl rfl ?_
        refine zi_getr fl_X2_18 hC.1 rfl dX2_moult_41 ?_
        refine zi_iload_n dX2_moult_44 rfl rfl ?_
        refine zi_iald hC.2.2.2.1 h.1 dX2_moult_45 ?_
        replace h := h.2
        refine zi_iconst (v := -1) dX2_moult_46 (by decide) ?_
        refine zi_icmp_ne (tgt := 69) dX2_moult_47 (by decide) (fun q9 => ?_) (fun q9 => ?_)
        · replace h := h.1 q9
          obtain ⟨x2, ex2⟩ : ∃ y : Int32, y = v2 + (1 : Int32) := ⟨_, rfl⟩
          replace h := h x2 ex2
          refine zi_iinc (v := x2) dX2_moult_69 rfl (by rw [ex2]; rfl) (by decide) rfl ?_
          refine zi_goto (tgt := 2) dX2_moult_72 (by decide) ?_
          refine zt_drop (lv' := [some (.ref k), some (.int v1), some (.int x2), none]) [true, true, true, false] rfl ?_
          exact h
        · replace h := h.2 q9
          refine zi_iload_n dX2_moult_50 rfl rfl ?_
          refine zi_iload_n dX2_moult_51 rfl rfl ?_
          refine zi_ishr dX2_moult_52 ?_
          refine zi_iconst (v := 1) dX2_moult_53 (by decide) ?_
          refine zi_iand dX2_moult_54 ?_
          refine zi_if_ne (tgt := 69) dX2_moult_55 (by decide) (fun q9 => ?_) (fun q9 => ?_)
          · replace h := h.1 q9
            obtain ⟨x2, ex2⟩ : ∃ y : Int32, y = v2 + (1 : Int32) := ⟨_, rfl⟩
            replace h := h x2 ex2
            refine zi_iinc (v := x2) dX2_moult_69 rfl (by rw [ex2]; rfl) (by decide) rfl ?_
            refine zi_goto (tgt := 2) dX2_moult_72 (by decide) ?_
            refine zt_drop (lv' := [some (.ref k), some (.int v1), some (.int x2), none]) [true, true, true, false] rfl ?_
            exact h
          · replace h := h.2 q9
            refine zi_aload_n dX2_moult_58 rfl rfl ?_
            refine zi_getr fl_X2_9 hC.1 rfl dX2_moult_59 ?_
            refine zi_iconst (v := 0) dX2_moult_62 (by decide) ?_
            refine zi_iload_n dX2_moult_63 rfl rfl ?_
            refine zi_iadd dX2_moult_64 ?_
            refine zi_iload_n dX2_moult_65 rfl rfl ?_
            refine zi_iconst (v := 1) dX2_moult_66 (by decide) ?_
            refine zi_isub dX2_moult_67 ?_
            refine zi_iast hC.2.1 h.1 dX2_moult_68 ?_
            replace h := h.2
            refine zt_nmS (fun S1 eS1 => ?_)
            replace h := h S1 eS1
            obtain ⟨x2, ex2⟩ : ∃ y : Int32, y = v2 + (1 : Int32) := ⟨_, rfl⟩
            replace h := h x2 ex2
            refine zi_iinc (v := x2) dX2_moult_69 rfl (by rw [ex2]; rfl) (by decide) rfl ?_
            refine zi_goto (tgt := 2) dX2_moult_72 (by decide) ?_
            refine zt_drop (lv' := [some (.ref k), some (.int v1), some (.int x2), none]) [true, true, true, false] rfl ?_
            exact h
theorem e_X2_moult {k : Nat} {doers : Int32} {S : zS} {L : zL} {P : zS → zL → Prop} (h : ∀ X, zU mX2_moult X S L 0 [some (.ref k), some (.int doers), none, none] [] (zpv P)) : zCv mX2_moult S L [.ref k, .int doers] P := zCv_of pn_X2_moult (Nat.le_of_ble_eq_true rfl) (fun X => zt_pad (j := 2) rfl (h X))
set_option maxHeartbeats 2000000 in
theorem b_X2_shear_0 {k t : Nat} {month : Int32} {who : Int32} {fr : Int32} (hC : zCo k t) {X : Nat × (Nat → Int32)} {S : zS} {L : zL} {P : zS → zL → Prop} (h : vp_in ((0 : Int32) + who) 41 ∧ ∀ x1 : Int32, x1 = (S (k + 1) ((0 : Int32) + who).toNatClampNeg) → vp_in ((8 : Int32) + who) 41 ∧ ∀ x2 : Int32, x2 = (S (k + 1) ((8 : Int32) + who).toNatClampNeg) → vp_in who 8 ∧ ∀ x3 : Int32, x3 = (S ((t + 1) + 1) who.toNatClampNeg) → vp_in ((0 : Int32) + who) 41 ∧ ∀ S1 : zS, S1 = zc S (k + 1) (upd (S (k + 1)) ((0 : Int32) + who).toNatClampNeg (0 : Int32)) → ∀ x4 : Int32, x4 = ((16 : Int32) + who) → vp_in x4 41 ∧ vp_in x4 41 ∧ ∀ S2 : zS, S2 = zc S1 (k + 1) (upd (S1 (k + 1)) x4.toNatClampNeg ((S1 (k + 1) x4.toNatClampNeg) + (1 : Int32))) → ∀ x5 : Int32, x5 = ((33 : Int32) + who) → vp_in x5 41 ∧ vp_in x5 41 ∧ ∀ S3 : zS, S3 = zc S2 (k + 1) (upd (S2 (k + 1)) x5.toNatClampNeg ((S2 (k + 1) x5.toNatClampNeg) + x1)) → ∀ x6 : Int32, x6 = ((24 : Int32) + x2) → vp_in x6 41 ∧ vp_in x6 41 ∧ ∀ S4 : zS, S4 = zc S3 (k + 1) (upd (S3 (k + 1)) x6.toNatClampNeg ((S3 (k + 1) x6.toNatClampNeg) + x1)) → ∀ x7 : Int32, x7 = ((28 : Int32) + x2) → vp_in x7 41 ∧ ((¬ x3 = 0 → ((¬ x3 = (1 : Int32) → zU mX2_shear X S4 L 119 [some (.ref k), some (.int month), some (.int who), some (.int fr), some (.int x1), none, none] [.int (2 : Int32), .int x1, .int (S4 (k + 1) x7.toNatClampNeg), .int x7, .ref (k + 1)] (zpv P)) ∧ (x3 = (1 : Int32) → zU mX2_shear X S4 L 119 [some (.ref k), some (.int month), some (.int who), some (.int fr), some (.int x1), none, none] [.int (1 : Int32), .int x1, .int (S4 (k + 1) x7.toNatClampNeg), .int x7, .ref (k + 1)] (zpv P)))) ∧ (x3 = 0 → zU mX2_shear X S4 L 119 [some (.ref k), some (.int month), some (.int who), some (.int fr), some (.int x1), none, none] [.int (3 : Int32), .int x1, .int (S4 (k + 1) x7.toNatClampNeg), .int x7, .ref (k + 1)] (zpv P)))) : zU mX2_shear X S L 0 [some (.ref k), some (.int month), some (.int who), some (.int fr), none, none, none] [] (zpv P) := by
  obtain ⟨hkb, htb, -⟩ := hC.2.2.2.2.2
  refine zi_aload_n dX2_shear_0 rfl rfl ?_
  refine zi_getr fl_X2_9 hC.1 rfl dX2_shear_1 ?_
  refine zi_iconst (v := 0) dX2_shear_4 (by decide) ?_
  refine zi_iload_n dX2_shear_5 rfl rfl ?_
  refine zi_iadd dX2_shear_6 ?_
  refine zi_iald hC.2.1 h.1 dX2_shear_7 ?_
  replace h := h.2
  refine zt_nmi (fun x1 ex1 => ?_)
  replace h := h x1 ex1
  refine zi_istore dX2_shear_8 (by decide) rfl ?_
  refine zi_aload_n dX2_shear_10 rfl rfl ?_
  refine zi_getr fl_X2_9 hC.1 rfl dX2_shear_11 ?_
  refine zi_bipush (v := 8) dX2_shear_14 (by decide) ?_
  refine zi_iload_n dX2_shear_16 rfl rfl ?_
  refine zi_iadd dX2_shear_17 ?_
  refine zi_iald hC.2.1 h.1 dX2_shear_18 ?_
  replace h := h.2
  refine zt_nmi (fun x2 ex2 => ?_)
  replace h := h x2 ex2
  refine zi_istore dX2_shear_19 (by decide) rfl ?_
  refine zi_aload_n dX2_shear_21 rfl rfl ?_
  refine zi_getr fl_X2_28 hC.1 rfl dX2_shear_22 ?_
  refine zi_getr fl_X2_81 hC.2.2.2.2.1.1 rfl dX2_shear_25 ?_
  refine zi_getr fl_X2_95 hC.2.2.2.2.1.2.1.1 rfl dX2_shear_28 ?_
  refine zi_iload_n dX2_shear_31 rfl rfl ?_
  refine zi_iald hC.2.2.2.2.1.2.1.2.1 h.1 dX2_shear_32 ?_
  replace h := h.2
  refine zt_nmi (fun x3 ex3 => ?_)
  replace h := h x3 ex3
  refine zi_istore dX2_shear_33 (by decide) rfl ?_
  refine zi_aload_n dX2_shear_35 rfl rfl ?_
  refine zi_getr fl_X2_9 hC.1 rfl dX2_shear_36 ?_
  refine zi_iconst (v := 0) dX2_shear_39 (by decide) ?_
  refine zi_iload_n dX2_shear_40 rfl rfl ?_
  refine zi_iadd dX2_shear_41 ?_
  refine zi_iconst (v := 0) dX2_shear_42 (by decide) ?_
  refine zi_iast hC.2.1 h.1 dX2_shear_43 ?_
  replace h := h.2
  refine zt_nmS (fun S1 eS1 => ?_)
  replace h := h S1 eS1
  refine zi_aload_n dX2_shear_44 rfl rfl ?_
  refine zi_getr fl_X2_9 hC.1 rfl dX2_shear_45 ?_
  refine zi_bipush (v := 16) dX2_shear_48 (by decide) ?_
  refine zi_iload_n dX2_shear_50 rfl rfl ?_
  refine zi_iadd dX2_shear_51 ?_
  refine zt_nmi (fun x4 ex4 => ?_)
  replace h := h x4 ex4
  refine zi_dup2_11 dX2_shear_52 rfl rfl ?_
  refine zi_iald hC.2.1 h.1 dX2_shear_53 ?_
  replace h := h.2
  refine zi_iconst (v := 1) dX2_shear_54 (by decide) ?_
  refine zi_iadd dX2_shear_55 ?_
  refine zi_iast hC.2.1 h.1 dX2_shear_56 ?_
  replace h := h.2
  refine zt_nmS (fun S2 eS2 => ?_)
  replace h := h S2 eS2
  refine zi_aload_n dX2_shear_57 rfl rfl ?_
  refine zi_getr fl_X2_9 hC.1 rfl dX2_shear_58 ?_
  refine zi_bipush (v := 33) dX2_shear_61 (by decide) ?_
  refine zi_iload_n dX2_shear_63 rfl rfl ?_
  refine zi_iadd dX2_shear_64 ?_
  refine zt_nmi (fun x5 ex5 => ?_)
  replace h := h x5 ex5
  refine zi_dup2_11 dX2_shear_65 rfl rfl ?_
  refine zi_iald hC.2.1 h.1 dX2_shear_66 ?_
  replace h := h.2
  refine zi_iload dX2_shear_67 rfl ?_
  refine zi_iadd dX2_shear_69 ?_
  refine zi_iast hC.2.1 h.1 dX2_shear_70 ?_
  replace h := h.2
  refine zt_nmS (fun S3 eS3 => ?_)
  replace h := h S3 eS3
  refine zi_aload_n dX2_shear_71 rfl rfl ?_
  refine zi_getr fl_X2_9 hC.1 rfl dX2_shear_72 ?_
  refine zi_bipush (v := 24) dX2_shear_75 (by decide) ?_
  refine zi_iload dX2_shear_77 rfl ?_
  refine zi_iadd dX2_shear_79 ?_
  refine zt_nmi (fun x6 ex6 => ?_)
  replace h := h x6 ex6
  refine zi_dup2_11 dX2_shear_80 rfl rfl ?_
  refine zi_iald hC.2.1 h.1 dX2_shear_81 ?_
  replace h := h.2
  refine zi_iload dX2_shear_82 rfl ?_
  refine zi_iadd dX2_shear_84 ?_
  refine zi_iast hC.2.1 h.1 dX2_shear_85 ?_
  replace h := h.2
  refine zt_nmS (fun S4 eS4 => ?_)
  replace h := h S4 eS4
  refine zi_aload_n dX2_shear_86 rfl rfl ?_
  refine zi_getr fl_X2_9 hC.1 rfl dX2_shear_87 ?_
  refine zi_bipush (v := 28) dX2_shear_90 (by decide) ?_
  refine zi_iload dX2_shear_92 rfl ?_
  refine zi_iadd dX2_shear_94 ?_
  refine zt_nmi (fun x7 ex7 => ?_)
  replace h := h x7 ex7
  refine zi_dup2_11 dX2_shear_95 rfl rfl ?_
  refine zi_iald hC.2.1 h.1 dX2_shear_96 ?_
  replace h := h.2
  refine zi_iload dX2_shear_97 rfl ?_
  refine zi_iload dX2_shear_99 rfl ?_
  refine zi_if_ne (tgt := 108) dX2_shear_101 (by decide) (fun q9 => ?_) (fun q9 => ?_)
  · replace h := h.1 q9
    refine zi_iload dX2_shear_108 rfl ?_
    refine zi_iconst (v := 1) dX2_shear_110 (by decide) ?_
    refine zi_icmp_ne (tgt := 118) dX2_shear_111 (by decide) (fun q9 => ?_) (fun q9 => ?_)
    · replace h := h.1 q9
      refine zi_iconst (v := 2) dX2_shear_118 (by decide) ?_
      refine zt_drop (lv' := [some (.ref k), some (.int month), some (.int who), some (.int fr), some (.int x1), none, none]) [true, true, true, true, true, false, false] rfl ?_
      exact h
    · replace h := h.2 q9
      refine zi_iconst (v := 1) dX2_shear_114 (by decide) ?_
      refine zi_goto (tgt := 119) dX2_shear_115 (by decide) ?_
      refine zt_drop (lv' := [some (.ref k), some (.int month), some (.int who), some (.int fr), some (.int x1), none, none]) [true, true, true, true, true, false, false] rfl ?_
      exact h
  · replace h := h.2 q9
    refine zi_iconst (v := 3) dX2_shear_104 (by decide) ?_
    refine zi_goto (tgt := 119) dX2_shear_105 (by decide) ?_
    refine zt_drop (lv' := [some (.ref k), some (.int month), some (.int who), some (.int fr), some (.int x1), none, none]) [true, true, true, true, true, false, false] rfl ?_
    exact h
set_option maxHeartbeats 2000000 in
theorem b_X2_shear_119 {k t : Nat} {v1 : Int32} {v2 : Int32} {v3 : Int32} {v4 : Int32} {w4 : Int32} {w3 : Int32} {w2 : Int32} {w1 : Int32} (hC : zCo k t) {X : Nat × (Nat → Int32)} {S : zS} {L : zL} {P : zS → zL → Prop} (h : vp_in w1 41 ∧ ∀ S1 : zS, S1 = zc S (k + 1) (upd (S (k + 1)) w1.toNatClampNeg (w2 + (w3 * w4))) → ((¬ (S1 k 4) = (-1 : Int32) → zU mX2_shear X S1 L 140 [some (.ref k), some (.int v1), some (.int v2), some (.int v3), some (.int v4), none, none] [] (zpv P)) ∧ ((S1 k 4) = (-1 : Int32) → ∀ S2 : zS, S2 = zc S1 k (upd (S1 k) 4 v1) → ∀ S3 : zS, S3 = zc S2 k (upd (S2 k) 5 v2) → zU mX2_shear X S3 L 140 [some (.ref k), some (.int v1), some (.int v2), some (.int v3), some (.int v4), none, none] [] (zpv P)))) : zU mX2_shear X S L 119 [some (.ref k), some (.int v1), some (.int v2), some (.int v3), some (.int v4), none, none] [.int w4, .int w3, .int w2, .int w1, .ref (k + 1)] (zpv P) := by
  obtain ⟨hkb, htb, -⟩ := hC.2.2.2.2.2
  refine zi_imul dX2_shear_119 ?_
  refine zi_iadd dX2_shear_120 ?_
  refine zi_iast hC.2.1 h.1 dX2_shear_121 ?_
  replace h := h.2
  refine zt_nmS (fun S1 eS1 => ?_)
  replace h := h S1 eS1
  refine zi_aload_n dX2_shear_122 rfl rfl ?_
  refine zi_geti fl_X2_21 hC.1 rfl dX2_shear_123 ?_
  refine zi_iconst (v := -1) dX2_shear_126 (by decide) ?_
  refine zi_icmp_ne (tgt := 140) dX2_shear_127 (by decide) (fun q9 => ?_) (fun q9 => ?_)
  · replace h := h.1 q9
    refine zt_drop (lv' := [some (.ref k), some (.int v1), some (.int v2), some (.int v3), some (.int v4), none, none]) [true, true, true, true, true, false, false] rfl ?_
    exact h
  · replace h := h.2 q9
    refine zi_aload_n dX2_shear_130 rfl rfl ?_
    refine zi_iload_n dX2_shear_131 rfl rfl ?_
    refine zi_puti fp_X2_21 hC.1 rfl dX2_shear_132 ?_
    refine zt_nmS (fun S2 eS2 => ?_)
    replace h := h S2 eS2
    refine zi_aload_n dX2_shear_135 rfl rfl ?_
    refine zi_iload_n dX2_shear_136 rfl rfl ?_
    refine zi_puti fp_X2_25 hC.1 rfl dX2_shear_137 ?_
    refine zt_nmS (fun S3 eS3 => ?_)
    replace h := h S3 eS3
    refine zt_drop (lv' := [some (.ref k), some (.int v1), some (.int v2), some (.int v3), some (.int v4), none, none]) [true, true, true, true, true, false, false] rfl ?_
    exact h
set_option maxHeartbeats 2000000 in
theorem b_X2_shear_140 {k t : Nat} {v1 : Int32} {v2 : Int32} {v3 : Int32} {v4 : Int32} (hC : zCo k t) {X : Nat × (Nat → Int32)} {S : zS} {L : zL} {P : zS → zL → Prop} (h : ((v3 = 0 → P S L) ∧ (¬ v3 = 0 → ((v4 < (S t 6) → P S L) ∧ (¬ v4 < (S t 6) → vp_in v2 8 ∧ ∀ S1 : zS, S1 = zc S (k + 3) (upd (S (k + 3)) v2.toNatClampNeg v1) → P S1 L))))) : zU mX2_shear X S L 140 [some (.ref k), some (.int v1), some (.int v2), some (.int v3), some (.int v4), none, none] [] (zpv P) := by
  obtain ⟨hkb, htb, -⟩ := hC.2.2.2.2.2
  refine zi_iload_n dX2_shear_140 rfl rfl ?_
  refine zi_if_eq (tgt := 163) dX2_shear_141 (by decide) (fun q9 => ?_) (fun q9 => ?_)
  · replace h := h.1 q9
    exact zt_vret dX2_shear_163 rfl h
  · replace h := h.2 q9
    refine zi_iload dX2_shear_144 rfl ?_
    refine zi_aload_n dX2_shear_146 rfl rfl ?_
    refine zi_getr fl_X2_28 hC.1 rfl dX2_shear_147 ?_
    refine zi_geti fl_X2_121 hC.2.2.2.2.1.1 rfl dX2_shear_150 ?_
    refine zi_icmp_lt (tgt := 163) dX2_shear_153 (by decide) (fun q9 => ?_) (fun q9 => ?_)
    · replace h := h.1 q9
      exact zt_vret dX2_shear_163 rfl h
    · replace h := h.2 q9
      refine zi_aload_n dX2_shear_156 rfl rfl ?_
      refine zi_getr fl_X2_18 hC.1 rfl dX2_shear_157 ?_
      refine zi_iload_n dX2_shear_160 rfl rfl ?_
      refine zi_iload_n dX2_shear_161 rfl rfl ?_
      refine zi_iast hC.2.2.2.1 h.1 dX2_shear_162 ?_
      replace h := h.2
      refine zt_nmS (fun S1 eS1 => ?_)
      replace h := h S1 eS1
      exact zt_vret dX2_shear_163 rfl h
theorem e_X2_shear {k : Nat} {month : Int32} {who : Int32} {fr : Int32} {S : zS} {L : zL} {P : zS → zL → Prop} (h : ∀ X, zU mX2_shear X S L 0 [some (.ref k), some (.int month), some (.int who), some (.int fr), none, none, none] [] (zpv P)) : zCv mX2_shear S L [.ref k, .int month, .int who, .int fr] P := zCv_of pn_X2_shear (Nat.le_of_ble_eq_true rfl) (fun X => zt_pad (j := 3) rfl (h X))
set_option maxHeartbeats 2000000 in
theorem b_X2_livesBehind_0 {k t : Nat} {month : Int32} {p : Int32} (hC : zCo k t) {X : Nat × (Nat → Int32)} {S : zS} {L : zL} {P : Int32 → zS → zL → Prop} (h : vp_in p 8 ∧ (((S (k + 3) p.toNatClampNeg) = (-1 : Int32) → P (1 : Int32) S L) ∧ (¬ (S (k + 3) p.toNatClampNeg) = (-1 : Int32) → vp_in p 8 ∧ (((S (k + 3) p.toNatClampNeg) ≤ month → P (0 : Int32) S L) ∧ (¬ (S (k + 3) p.toNatClampNeg) ≤ month → P (1 : Int32) S L))))) : zU mX2_livesBehind X S L 0 [some (.ref k), some (.int month), some (.int p)] [] (zpi P) := by
  obtain ⟨hkb, htb, -⟩ := hC.2.2.2.2.2
  refine zi_aload_n dX2_livesBehind_0 rfl rfl ?_
  refine zi_getr fl_X2_18 hC.1 rfl dX2_livesBehind_1 ?_
  refine zi_iload_n dX2_livesBehind_4 rfl rfl ?_
  refine zi_iald hC.2.2.2.1 h.1 dX2_livesBehind_5 ?_
  replace h := h.2
  refine zi_iconst (v := -1) dX2_livesBehind_6 (by decide) ?_
  refine zi_icmp_eq (tgt := 20) dX2_livesBehind_7 (by decide) (fun q9 => ?_) (fun q9 => ?_)
  · replace h := h.1 q9
    refine zi_iconst (v := 1) dX2_livesBehind_20 (by decide) ?_
    refine zi_goto (tgt := 25) dX2_livesBehind_21 (by decide) ?_
    exact zt_zret (ty := .boolean) dX2_livesBehind_25 rfl rfl h
  · replace h := h.2 q9
    refine zi_aload_n dX2_livesBehind_10 rfl rfl ?_
    refine zi_getr fl_X2_18 hC.1 rfl dX2_livesBehind_11 ?_
    refine zi_iload_n dX2_livesBehind_14 rfl rfl ?_
    refine zi_iald hC.2.2.2.1 h.1 dX2_livesBehind_15 ?_
    replace h := h.2
    refine zi_iload_n dX2_livesBehind_16 rfl rfl ?_
    refine zi_icmp_le (tgt := 24) dX2_livesBehind_17 (by decide) (fun q9 => ?_) (fun q9 => ?_)
    · replace h := h.1 q9
      refine zi_iconst (v := 0) dX2_livesBehind_24 (by decide) ?_
      exact zt_zret (ty := .boolean) dX2_livesBehind_25 rfl rfl h
    · replace h := h.2 q9
      refine zi_iconst (v := 1) dX2_livesBehind_20 (by decide) ?_
      refine zi_goto (tgt := 25) dX2_livesBehind_21 (by decide) ?_
      exact zt_zret (ty := .boolean) dX2_livesBehind_25 rfl rfl h
theorem e_X2_livesBehind {k : Nat} {month : Int32} {p : Int32} {S : zS} {L : zL} {P : Int32 → zS → zL → Prop} (h : ∀ X, zU mX2_livesBehind X S L 0 [some (.ref k), some (.int month), some (.int p)] [] (zpi P)) : zCi mX2_livesBehind S L [.ref k, .int month, .int p] P := zCi_of pn_X2_livesBehind (Nat.le_of_ble_eq_true rfl) (fun X => zt_pad (j := 0) rfl (h X))
set_option maxHeartbeats 2000000 in
theorem b_X2_behind_0 {k t : Nat} {month : Int32} {part : Int32} (hC : zCo k t) {X : Nat × (Nat → Int32)} {S : zS} {L : zL} {P : Int32 → zS → zL → Prop} (h : ((month < 0 → P (-1 : Int32) S L) ∧ (¬ month < 0 → (((24 : Int32) ≤ month → P (-1 : Int32) S L) ∧ (¬ (24 : Int32) ≤ month → ((part < 0 → P (-1 : Int32) S L) ∧ (¬ part < 0 → ((part < (41 : Int32) → vp_in ((month * (41 : Int32)) + part) 984 ∧ P (S (k + 2) ((month * (41 : Int32)) + part).toNatClampNeg) S L) ∧ (¬ part < (41 : Int32) → P (-1 : Int32) S L))))))))) : zU mX2_behind X S L 0 [some (.ref k), some (.int month), some (.int part)] [] (zpi P) := by
  obtain ⟨hkb, htb, -⟩ := hC.2.2.2.2.2
  refine zi_iload_n dX2_behind_0 rfl rfl ?_
  refine zi_if_lt (tgt := 20) dX2_behind_1 (by decide) (fun q9 => ?_) (fun q9 => ?_)
  · replace h := h.1 q9
    refine zi_iconst (v := -1) dX2_behind_20 (by decide) ?_
    exact zt_iret dX2_behind_21 rfl h
  · replace h := h.2 q9
    refine zi_iload_n dX2_behind_4 rfl rfl ?_
    refine zi_bipush (v := 24) dX2_behind_5 (by decide) ?_
    refine zi_icmp_ge (tgt := 20) dX2_behind_7 (by decide) (fun q9 => ?_) (fun q9 => ?_)
    · replace h := h.1 q9
      refine zi_iconst (v := -1) dX2_behind_20 (by decide) ?_
      exact zt_iret dX2_behind_21 rfl h
    · replace h := h.2 q9
      refine zi_iload_n dX2_behind_10 rfl rfl ?_
      refine zi_if_lt (tgt := 20) dX2_behind_11 (by decide) (fun q9 => ?_) (fun q9 => ?_)
      · replace h := h.1 q9
        refine zi_iconst (v := -1) dX2_behind_20 (by decide) ?_
        exact zt_iret dX2_behind_21 rfl h
      · replace h := h.2 q9
        refine zi_iload_n dX2_behind_14 rfl rfl ?_
        refine zi_bipush (v := 41) dX2_behind_15 (by decide) ?_
        refine zi_icmp_lt (tgt := 22) dX2_behind_17 (by decide) (fun q9 => ?_) (fun q9 => ?_)
        · replace h := h.1 q9
          refine zi_aload_n dX2_behind_22 rfl rfl ?_
          refine zi_getr fl_X2_15 hC.1 rfl dX2_behind_23 ?_
          refine zi_iload_n dX2_behind_26 rfl rfl ?_
          refine zi_bipush (v := 41) dX2_behind_27 (by decide) ?_
          refine zi_imul dX2_behind_29 ?_
          refine zi_iload_n dX2_behind_30 rfl rfl ?_
          refine zi_iadd dX2_behind_31 ?_
          refine zi_iald hC.2.2.1 h.1 dX2_behind_32 ?_
          replace h := h.2
          exact zt_iret dX2_behind_33 rfl h
        · replace h := h.2 q9
          refine zi_iconst (v := -1) dX2_behind_20 (by decide) ?_
          exact zt_iret dX2_behind_21 rfl h
theorem e_X2_behind {k : Nat} {month : Int32} {part : Int32} {S : zS} {L : zL} {P : Int32 → zS → zL → Prop} (h : ∀ X, zU mX2_behind X S L 0 [some (.ref k), some (.int month), some (.int part)] [] (zpi P)) : zCi mX2_behind S L [.ref k, .int month, .int part] P := zCi_of pn_X2_behind (Nat.le_of_ble_eq_true rfl) (fun X => zt_pad (j := 0) rfl (h X))
set_option maxHeartbeats 2000000 in
theorem b_X2_deathOf_0 {k t : Nat} {p : Int32} (hC : zCo k t) {X : Nat × (Nat → Int32)} {S : zS} {L : zL} {P : Int32 → zS → zL → Prop} (h : ((p < 0 → P (-1 : Int32) S L) ∧ (¬ p < 0 → (((8 : Int32) ≤ p → P (-1 : Int32) S L) ∧ (¬ (8 : Int32) ≤ p → vp_in p 8 ∧ P (S (k + 3) p.toNatClampNeg) S L))))) : zU mX2_deathOf X S L 0 [some (.ref k), some (.int p)] [] (zpi P) := by
  obtain ⟨hkb, htb, -⟩ := hC.2.2.2.2.2
  refine zi_iload_n dX2_deathOf_0 rfl rfl ?_
  refine zi_if_lt (tgt := 22) dX2_deathOf_1 (by decide) (fun q9 => ?_) (fun q9 => ?_)
  · replace h := h.1 q9
    refine zi_iconst (v := -1) dX2_deathOf_22 (by decide) ?_
    exact zt_iret dX2_deathOf_23 rfl h
  · replace h := h.2 q9
    refine zi_iload_n dX2_deathOf_4 rfl rfl ?_
    refine zi_aload_n dX2_deathOf_5 rfl rfl ?_
    refine zi_getr fl_X2_18 hC.1 rfl dX2_deathOf_6 ?_
    refine zi_alen (v := 8) hC.2.2.2.1 (by decide) dX2_deathOf_9 ?_
    refine zi_icmp_ge (tgt := 22) dX2_deathOf_10 (by decide) (fun q9 => ?_) (fun q9 => ?_)
    · replace h := h.1 q9
      refine zi_iconst (v := -1) dX2_deathOf_22 (by decide) ?_
      exact zt_iret dX2_deathOf_23 rfl h
    · replace h := h.2 q9
      refine zi_aload_n dX2_deathOf_13 rfl rfl ?_
      refine zi_getr fl_X2_18 hC.1 rfl dX2_deathOf_14 ?_
      refine zi_iload_n dX2_deathOf_17 rfl rfl ?_
      refine zi_iald hC.2.2.2.1 h.1 dX2_deathOf_18 ?_
      replace h := h.2
      refine zi_goto (tgt := 23) dX2_deathOf_19 (by decide) ?_
      exact zt_iret dX2_deathOf_23 rfl h
theorem e_X2_deathOf {k : Nat} {p : Int32} {S : zS} {L : zL} {P : Int32 → zS → zL → Prop} (h : ∀ X, zU mX2_deathOf X S L 0 [some (.ref k), some (.int p)] [] (zpi P)) : zCi mX2_deathOf S L [.ref k, .int p] P := zCi_of pn_X2_deathOf (Nat.le_of_ble_eq_true rfl) (fun X => zt_pad (j := 0) rfl (h X))
set_option maxHeartbeats 2000000 in
theorem b_X2_living_0 {k t : Nat} (hC : zCo k t) {X : Nat × (Nat → Int32)} {S : zS} {L : zL} {P : Int32 → zS → zL → Prop} (h : zU mX2_living X S L 4 [some (.ref k), some (.int (0 : Int32)), some (.int (0 : Int32))] [] (zpi P)) : zU mX2_living X S L 0 [some (.ref k), none, none] [] (zpi P) := by
  obtain ⟨hkb, htb, -⟩ := hC.2.2.2.2.2
  refine zi_iconst (v := 0) dX2_living_0 (by decide) ?_
  refine zi_istore_n dX2_living_1 rfl (by decide) rfl ?_
  refine zi_iconst (v := 0) dX2_living_2 (by decide) ?_
  refine zi_istore_n dX2_living_3 rfl (by decide) rfl ?_
  refine zt_drop (lv' := [some (.ref k), some (.int (0 : Int32)), some (.int (0 : Int32))]) [true, true, true] rfl ?_
  exact h
set_option maxHeartbeats 2000000 in
theorem b_X2_living_4 {k t : Nat} {v1 : Int32} {v2 : Int32} (hC : zCo k t) {X : Nat × (Nat → Int32)} {S : zS} {L : zL} {P : Int32 → zS → zL → Prop} (h : (((S (t + 1) 3) ≤ v2 → P v1 S L) ∧ (¬ (S (t + 1) 3) ≤ v2 → vp_in v2 8 ∧ ((¬ (S (k + 3) v2.toNatClampNeg) = (-1 : Int32) → ∀ x1 : Int32, x1 = (v1 + (0 : Int32)) → ∀ x2 : Int32, x2 = v2 + (1 : Int32) → zU mX2_living X S L 4 [some (.ref k), some (.int x1), some (.int x2)] [] (zpi P)) ∧ ((S (k + 3) v2.toNatClampNeg) = (-1 : Int32) → ∀ x1 : Int32, x1 = (v1 + (1 : Int32)) → ∀ x2 : Int32, x2 = v2 + (1 : Int32) → zU mX2_living X S L 4 [some (.ref k), some (.int x1), some (.int x2)] [] (zpi P)))))) : zU mX2_living X S L 4 [some (.ref k), some (.int v1), some (.int v2)] [] (zpi P) := by
  obtain ⟨hkb, htb, -⟩ := hC.2.2.2.2.2
  refine zi_iload_n dX2_living_4 rfl rfl ?_
  refine zi_aload_n dX2_living_5 rfl rfl ?_
  refine zi_getr fl_X2_28 hC.1 rfl dX2_living_6 ?_
  refine zi_getr fl_X2_81 hC.2.2.2.2.1.1 rfl dX2_living_9 ?_
  refine zi_geti fl_X2_84 hC.2.2.2.2.1.2.1.1 rfl dX2_living_12 ?_
  refine zi_icmp_ge (tgt := 42) dX2_living_15 (by decide) (fun q9 => ?_) (fun q9 => ?_)
  · replace h := h.1 q9
    refine zi_iload_n dX2_living_42 rfl rfl ?_
    exact zt_iret dX2_living_43 rfl h
  · replace h := h.2 q9
    refine zi_iload_n dX2_living_18 rfl rfl ?_
    refine zi_aload_n dX2_living_19 rfl rfl ?_
    refine zi_getr fl_X2_18 hC.1 rfl dX2_living_20 ?_
    refine zi_iload_n dX2_living_23 rfl rfl ?_
    refine zi_iald hC.2.2.2.1 h.1 dX2_living_24 ?_
    replace h := h.2
    refine zi_iconst (v := -1) dX2_living_25 (by decide) ?_
    refine zi_icmp_ne (tgt := 33) dX2_living_26 (by decide) (fun q9 => ?_) (fun q9 => ?_)
    · replace h := h.1 q9
      refine zi_iconst (v := 0) dX2_living_33 (by decide) ?_
      refine zi_iadd dX2_living_34 ?_
      refine zt_nmi (fun x1 ex1 => ?_)
      replace h := h x1 ex1
      refine zi_istore_n dX2_living_35 rfl (by decide) rfl ?_
      obtain ⟨x2, ex2⟩ : ∃ y : Int32, y = v2 + (1 : Int32) := ⟨_, rfl⟩
      replace h := h x2 ex2
      refine zi_iinc (v := x2) dX2_living_36 rfl (by rw [ex2]; rfl) (by decide) rfl ?_
      refine zi_goto (tgt := 4) dX2_living_39 (by decide) ?_
      refine zt_drop (lv' := [some (.ref k), some (.int x1), some (.int x2)]) [true, true, true] rfl ?_
      exact h
    · replace h := h.2 q9
      refine zi_iconst (v := 1) dX2_living_29 (by decide) ?_
      refine zi_goto (tgt := 34) dX2_living_30 (by decide) ?_
      refine zi_iadd dX2_living_34 ?_
      refine zt_nmi (fun x1 ex1 => ?_)
      replace h := h x1 ex1
      refine zi_istore_n dX2_living_35 rfl (by decide) rfl ?_
      obtain ⟨x2, ex2⟩ : ∃ y : Int32, y = v2 + (1 : Int32) := ⟨_, rfl⟩
      replace h := h x2 ex2
      refine zi_iinc (v := x2) dX2_living_36 rfl (by rw [ex2]; rfl) (by decide) rfl ?_
      refine zi_goto (tgt := 4) dX2_living_39 (by decide) ?_
      refine zt_drop (lv' := [some (.ref k), some (.int x1), some (.int x2)]) [true, true, true] rfl ?_
      exact h
theorem e_X2_living {k : Nat} {S : zS} {L : zL} {P : Int32 → zS → zL → Prop} (h : ∀ X, zU mX2_living X S L 0 [some (.ref k), none, none] [] (zpi P)) : zCi mX2_living S L [.ref k] P := zCi_of pn_X2_living (Nat.le_of_ble_eq_true rfl) (fun X => zt_pad (j := 2) rfl (h X))
