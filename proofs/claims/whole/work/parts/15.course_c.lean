theorem zok_r {n a : Nat} : zok n (.ref a) = true ↔ (a < n ∨ 900 ≤ a) := by simp [zok]
theorem zok_i {n : Nat} {x : Int32} : zok n (.int x) = true := rfl
theorem zok_l {n : Nat} {x : Int64} : zok n (.long x) = true := rfl
set_option maxHeartbeats 2000000 in
theorem b_J7_fill_53178_0 {r n : Nat} {x : Int32} (hr : SK[r]? = some (.inl (0, n))) {X : Nat × (Nat → Int32)} {S : zS} {L : zL} {P : zS → zL → Prop} (h : ∀ x1 : Int32, x1 = (nI n) → zU mJ7_fill_53178 X S L 5 [some (.ref r), some (.int x), some (.int (0 : Int32)), some (.int x1)] [] (zpv P)) : zU mJ7_fill_53178 X S L 0 [some (.ref r), some (.int x), none, none] [] (zpv P) := by
  refine zi_iconst (v := 0) dJ7_fill_53178_0 (by decide) ?_
  refine zi_istore_n dJ7_fill_53178_1 rfl (by decide) rfl ?_
  refine zi_aload_n dJ7_fill_53178_2 rfl rfl ?_
  refine zi_alen (v := nI n) hr rfl dJ7_fill_53178_3 ?_
  refine zt_nmi (fun x1 ex1 => ?_)
  replace h := h x1 ex1
  refine zi_istore_n dJ7_fill_53178_4 rfl (by decide) rfl ?_
  refine zt_drop (lv' := [some (.ref r), some (.int x), some (.int (0 : Int32)), some (.int x1)]) [true, true, true, true] rfl ?_
  exact h
set_option maxHeartbeats 2000000 in
theorem b_J7_fill_53178_5 {r n : Nat} {v1 : Int32} {v2 : Int32} {v3 : Int32} (hr : SK[r]? = some (.inl (0, n))) {X : Nat × (Nat → Int32)} {S : zS} {L : zL} {P : zS → zL → Prop} (h : ((v3 ≤ v2 → P S L) ∧ (¬ v3 ≤ v2 → vp_in v2 n ∧ ∀ S1 : zS, S1 = zc S r (upd (S r) v2.toNatClampNeg v1) → ∀ x1 : Int32, x1 = v2 + (1 : Int32) → zU mJ7_fill_53178 X S1 L 5 [some (.ref r), some (.int v1), some (.int x1), some (.int v3)] [] (zpv P)))) : zU mJ7_fill_53178 X S L 5 [some (.ref r), some (.int v1), some (.int v2), some (.int v3)] [] (zpv P) := by
  refine zi_iload_n dJ7_fill_53178_5 rfl rfl ?_
  refine zi_iload_n dJ7_fill_53178_6 rfl rfl ?_
  refine zi_icmp_ge (tgt := 20) dJ7_fill_53178_7 (by decide) (fun q9 => ?_) (fun q9 => ?_)
  · replace h := h.1 q9
    exact zt_vret dJ7_fill_53178_20 rfl h
  · replace h := h.2 q9
    refine zi_aload_n dJ7_fill_53178_10 rfl rfl ?_
    refine zi_iload_n dJ7_fill_53178_11 rfl rfl ?_
    refine zi_iload_n dJ7_fill_53178_12 rfl rfl ?_
    refine zi_iast hr h.1 dJ7_fill_53178_13 ?_
    replace h := h.2
    refine zt_nmS (fun S1 eS1 => ?_)
    replace h := h S1 eS1
    obtain ⟨x1, ex1⟩ : ∃ y : Int32, y = v2 + (1 : Int32) := ⟨_, rfl⟩
    replace h := h x1 ex1
    refine zi_iinc (v := x1) dJ7_fill_53178_14 rfl (by rw [ex1]; rfl) (by decide) rfl ?_
    refine zi_goto (tgt := 5) dJ7_fill_53178_17 (by decide) ?_
    refine zt_drop (lv' := [some (.ref r), some (.int v1), some (.int x1), some (.int v3)]) [true, true, true, true] rfl ?_
    exact h
theorem e_J7_fill_53178 {r : Nat} {x : Int32} {S : zS} {L : zL} {P : zS → zL → Prop} (h : ∀ X, zU mJ7_fill_53178 X S L 0 [some (.ref r), some (.int x), none, none] [] (zpv P)) : zCv mJ7_fill_53178 S L [.ref r, .int x] P := zCv_of pn_J7_fill_53178 (Nat.le_of_ble_eq_true rfl) (fun X => zt_pad (j := 2) rfl (h X))
set_option maxHeartbeats 2000000 in
theorem b_X2_begin_0 {k t : Nat} (hC : zCo k t) {X : Nat × (Nat → Int32)} {S : zS} {L : zL} {P : zS → zL → Prop} (h : zCv mJ7_fill_53178 S L [.ref (k + 1), .int (0 : Int32)] (fun S1 L1 => zCv mJ7_fill_53178 S1 L1 [.ref (k + 3), .int (-1 : Int32)] (fun S2 L2 => ∀ S3 : zS, S3 = zc S2 k (upd (S2 k) 4 (-1 : Int32)) → ∀ S4 : zS, S4 = zc S3 k (upd (S3 k) 5 (-1 : Int32)) → zU mX2_begin X S4 L2 36 [some (.ref k), some (.ref (t + 1)), some (.int (0 : Int32))] [] (zpv P)))) : zU mX2_begin X S L 0 [some (.ref k), none, none] [] (zpv P) := by
  obtain ⟨hkb, htb, -⟩ := hC.2.2.2.2.2
  refine zi_aload_n dX2_begin_0 rfl rfl ?_
  refine zi_getr fl_X2_9 hC.1 rfl dX2_begin_1 ?_
  refine zi_iconst (v := 0) dX2_begin_4 (by decide) ?_
  refine zt_Sv (As := [.ref (k + 1), .int (0 : Int32)]) dX2_begin_5 lk_X2_75 ⟨⟨by decide, by decide⟩, rfl, rfl⟩ rfl ⟨Nat.le_of_ble_eq_true rfl, by (show zokL 113 [some (.ref k), none, none] = true; (simp [zokL, zok_i, zok_l, zok_r] <;> omega)), by (show List.all ([] : List Value) (zok 113) = true; (simp [zokL, zok_i, zok_l, zok_r] <;> omega))⟩ h (fun S1 L1 h => ?_)
  refine zi_aload_n dX2_begin_8 rfl rfl ?_
  refine zi_getr fl_X2_18 hC.1 rfl dX2_begin_9 ?_
  refine zi_iconst (v := -1) dX2_begin_12 (by decide) ?_
  refine zt_Sv (As := [.ref (k + 3), .int (-1 : Int32)]) dX2_begin_13 lk_X2_75 ⟨⟨by decide, by decide⟩, rfl, rfl⟩ rfl ⟨Nat.le_of_ble_eq_true rfl, by (show zokL 113 [some (.ref k), none, none] = true; (simp [zokL, zok_i, zok_l, zok_r] <;> omega)), by (show List.all ([] : List Value) (zok 113) = true; (simp [zokL, zok_i, zok_l, zok_r] <;> omega))⟩ h (fun S2 L2 h => ?_)
  refine zi_aload_n dX2_begin_16 rfl rfl ?_
  refine zi_iconst (v := -1) dX2_begin_17 (by decide) ?_
  refine zi_puti fp_X2_21 hC.1 rfl dX2_begin_18 ?_
  refine zt_nmS (fun S3 eS3 => ?_)
  replace h := h S3 eS3
  refine zi_aload_n dX2_begin_21 rfl rfl ?_
  refine zi_iconst (v := -1) dX2_begin_22 (by decide) ?_
  refine zi_puti fp_X2_25 hC.1 rfl dX2_begin_23 ?_
  refine zt_nmS (fun S4 eS4 => ?_)
  replace h := h S4 eS4
  refine zi_aload_n dX2_begin_26 rfl rfl ?_
  refine zi_getr fl_X2_28 hC.1 rfl dX2_begin_27 ?_
  refine zi_getr fl_X2_81 hC.2.2.2.2.1.1 rfl dX2_begin_30 ?_
  refine zi_astore_n dX2_begin_33 rfl (by decide) rfl ?_
  refine zi_iconst (v := 0) dX2_begin_34 (by decide) ?_
  refine zi_istore_n dX2_begin_35 rfl (by decide) rfl ?_
  refine zt_drop (lv' := [some (.ref k), some (.ref (t + 1)), some (.int (0 : Int32))]) [true, true, true] rfl ?_
  exact h
set_option maxHeartbeats 2000000 in
theorem b_X2_begin_36 {k t : Nat} {v2 : Int32} (hC : zCo k t) {X : Nat × (Nat → Int32)} {S : zS} {L : zL} {P : zS → zL → Prop} (h : (((S (t + 1) 3) ≤ v2 → P S L) ∧ (¬ (S (t + 1) 3) ≤ v2 → vp_in v2 8 ∧ vp_in ((8 : Int32) + v2) 41 ∧ ∀ S1 : zS, S1 = zc S (k + 1) (upd (S (k + 1)) ((8 : Int32) + v2).toNatClampNeg (S ((t + 1) + 2) v2.toNatClampNeg)) → vp_in v2 8 ∧ vp_in ((0 : Int32) + v2) 41 ∧ ∀ S2 : zS, S2 = zc S1 (k + 1) (upd (S1 (k + 1)) ((0 : Int32) + v2).toNatClampNeg (S1 ((t + 1) + 3) v2.toNatClampNeg)) → ∀ x1 : Int32, x1 = v2 + (1 : Int32) → zU mX2_begin X S2 L 36 [some (.ref k), some (.ref (t + 1)), some (.int x1)] [] (zpv P)))) : zU mX2_begin X S L 36 [some (.ref k), some (.ref (t + 1)), some (.int v2)] [] (zpv P) := by
  obtain ⟨hkb, htb, -⟩ := hC.2.2.2.2.2
  refine zi_iload_n dX2_begin_36 rfl rfl ?_
  refine zi_aload_n dX2_begin_37 rfl rfl ?_
  refine zi_geti fl_X2_84 hC.2.2.2.2.1.2.1.1 rfl dX2_begin_38 ?_
  refine zi_icmp_ge (tgt := 79) dX2_begin_41 (by decide) (fun q9 => ?_) (fun q9 => ?_)
  · replace h := h.1 q9
    exact zt_vret dX2_begin_79 rfl h
  · replace h := h.2 q9
    refine zi_aload_n dX2_begin_44 rfl rfl ?_
    refine zi_getr fl_X2_9 hC.1 rfl dX2_begin_45 ?_
    refine zi_bipush (v := 8) dX2_begin_48 (by decide) ?_
    refine zi_iload_n dX2_begin_50 rfl rfl ?_
    refine zi_iadd dX2_begin_51 ?_
    refine zi_aload_n dX2_begin_52 rfl rfl ?_
    refine zi_getr fl_X2_89 hC.2.2.2.2.1.2.1.1 rfl dX2_begin_53 ?_
    refine zi_iload_n dX2_begin_56 rfl rfl ?_
    refine zi_iald hC.2.2.2.2.1.2.1.2.2.1 h.1 dX2_begin_57 ?_
    replace h := h.2
    refine zi_iast hC.2.1 h.1 dX2_begin_58 ?_
    replace h := h.2
    refine zt_nmS (fun S1 eS1 => ?_)
    replace h := h S1 eS1
    refine zi_aload_n dX2_begin_59 rfl rfl ?_
    refine zi_getr fl_X2_9 hC.1 rfl dX2_begin_60 ?_
    refine zi_iconst (v := 0) dX2_begin_63 (by decide) ?_
    refine zi_iload_n dX2_begin_64 rfl rfl ?_
    refine zi_iadd dX2_begin_65 ?_
    refine zi_aload_n dX2_begin_66 rfl rfl ?_
    refine zi_getr fl_X2_92 hC.2.2.2.2.1.2.1.1 rfl dX2_begin_67 ?_
    refine zi_iload_n dX2_begin_70 rfl rfl ?_
    refine zi_iald hC.2.2.2.2.1.2.1.2.2.2 h.1 dX2_begin_71 ?_
    replace h := h.2
    refine zi_iast hC.2.1 h.1 dX2_begin_72 ?_
    replace h := h.2
    refine zt_nmS (fun S2 eS2 => ?_)
    replace h := h S2 eS2
    obtain ⟨x1, ex1⟩ : ∃ y : Int32, y = v2 + (1 : Int32) := ⟨_, rfl⟩
    replace h := h x1 ex1
    refine zi_iinc (v := x1) dX2_begin_73 rfl (by rw [ex1]; rfl) (by decide) rfl ?_
    refine zi_goto (tgt := 36) dX2_begin_76 (by decide) ?_
    refine zt_drop (lv' := [some (.ref k), some (.ref (t + 1)), some (.int x1)]) [true, true, true] rfl ?_
    exact h
theorem e_X2_begin {k : Nat} {S : zS} {L : zL} {P : zS → zL → Prop} (h : ∀ X, zU mX2_begin X S L 0 [some (.ref k), none, none] [] (zpv P)) : zCv mX2_begin S L [.ref k] P := zCv_of pn_X2_begin (Nat.le_of_ble_eq_true rfl) (fun X => zt_pad (j := 2) rfl (h X))
set_option maxHeartbeats 2000000 in
theorem b_X2_doDeeds_0 {k t np : Nat} {month : Int32} (hC : zCo k t) {X : Nat × (Nat → Int32)} {S : zS} {L : zL} {P : Int32 → zS → zL → Prop} (h : zU mX2_doDeeds X S L 13 [some (.ref k), some (.int month), some (.ref (t + 5)), some (.int (0 : Int32)), some (.int (0 : Int32)), none] [] (zpi P)) : zU mX2_doDeeds X S L 0 [some (.ref k), some (.int month), none, none, none, none] [] (zpi P) := by
  obtain ⟨hkb, htb, -⟩ := hC.2.2.2.2.2
  refine zi_aload_n dX2_doDeeds_0 rfl rfl ?_
  refine zi_getr fl_X2_28 hC.1 rfl dX2_doDeeds_1 ?_
  refine zi_getr fl_X2_35 hC.2.2.2.2.1.1 rfl dX2_doDeeds_4 ?_
  refine zi_astore_n dX2_doDeeds_7 rfl (by decide) rfl ?_
  refine zi_iconst (v := 0) dX2_doDeeds_8 (by decide) ?_
  refine zi_istore_n dX2_doDeeds_9 rfl (by decide) rfl ?_
  refine zi_iconst (v := 0) dX2_doDeeds_10 (by decide) ?_
  refine zi_istore dX2_doDeeds_11 (by decide) rfl ?_
  refine zt_drop (lv' := [some (.ref k), some (.int month), some (.ref (t + 5)), some (.int (0 : Int32)), some (.int (0 : Int32)), none]) [true, true, true, true, true, false] rfl ?_
  exact h
set_option maxHeartbeats 2000000 in
theorem b_X2_doDeeds_13 {k t np : Nat} {v1 : Int32} {v3 : Int32} {v4 : Int32} (hC : zCo k t) {X : Nat × (Nat → Int32)} {S : zS} {L : zL} {P : Int32 → zS → zL → Prop} (h : (((S (t + 5) 3) ≤ v4 → P v3 S L) ∧ (¬ (S (t + 5) 3) ≤ v4 → vp_in v4 10 ∧ ∀ x1 : Int32, x1 = (S ((t + 5) + 2) v4.toNatClampNeg) → vp_in v4 10 ∧ ((¬ (S ((t + 5) + 1) v4.toNatClampNeg) = v1 → ∀ x2 : Int32, x2 = v4 + (1 : Int32) → zU mX2_doDeeds X S L 13 [some (.ref k), some (.int v1), some (.ref (t + 5)), some (.int v3), some (.int x2), none] [] (zpi P)) ∧ ((S ((t + 5) + 1) v4.toNatClampNeg) = v1 → (S (t + 1) 3 = nI np ∧ np ≤ 8) ∧ ∀ y1 : Int32, y1 = (if pLv np (S (k + 3)) x1 then (1 : Int32) else 0) → ((y1 = 0 → ∀ x2 : Int32, x2 = v4 + (1 : Int32) → zU mX2_doDeeds X S L 13 [some (.ref k), some (.int v1), some (.ref (t + 5)), some (.int v3), some (.int x2), none] [] (zpi P)) ∧ (¬ y1 = 0 → ∀ x2 : Int32, x2 = ((0 : Int32) + x1) → vp_in x2 41 ∧ vp_in x1 8 ∧ vp_in v4 10 ∧ ∀ y2 : Int32, y2 = (pGr (S ((t + 1) + 1) x1.toNatClampNeg) (S ((t + 5) + 3) v4.toNatClampNeg)) → vp_in x2 41 ∧ ∀ S1 : zS, S1 = zc S (k + 1) (upd (S (k + 1)) x2.toNatClampNeg ((S (k + 1) x2.toNatClampNeg) + y2)) → ∀ x3 : Int32, x3 = (v3 ||| ((1 : Int32) <<< (x1 &&& 31))) → ∀ x4 : Int32, x4 = v4 + (1 : Int32) → zU mX2_doDeeds X S1 L 13 [some (.ref k), some (.int v1), some (.ref (t + 5)), some (.int x3), some (.int x4), none] [] (zpi P)))))))) : zU mX2_doDeeds X S L 13 [some (.ref k), some (.int v1), some (.ref (t + 5)), some (.int v3), some (.int v4), none] [] (zpi P) := by
  obtain ⟨hkb, htb, -⟩ := hC.2.2.2.2.2
  refine zi_iload dX2_doDeeds_13 rfl ?_
  refine zi_aload_n dX2_doDeeds_15 rfl rfl ?_
  refine zi_geti fl_X2_84 hC.2.2.2.2.1.2.2.1.1 rfl dX2_doDeeds_16 ?_
  refine zi_icmp_ge (tgt := 99) dX2_doDeeds_19 (by decide) (fun q9 => ?_) (fun q9 => ?_)
  · replace h := h.1 q9
    refine zi_iload_n dX2_doDeeds_99 rfl rfl ?_
    exact zt_iret dX2_doDeeds_100 rfl h
  · replace h := h.2 q9
    refine zi_aload_n dX2_doDeeds_22 rfl rfl ?_
    refine zi_getr fl_X2_89 hC.2.2.2.2.1.2.2.1.1 rfl dX2_doDeeds_23 ?_
    refine zi_iload dX2_doDeeds_26 rfl ?_
    refine zi_iald hC.2.2.2.2.1.2.2.1.2.2.1 h.1 dX2_doDeeds_28 ?_
    replace h := h.2
    refine zt_nmi (fun x1 ex1 => ?_)
    replace h := h x1 ex1
    refine zi_istore dX2_doDeeds_29 (by decide) rfl ?_
    refine zi_aload_n dX2_doDeeds_31 rfl rfl ?_
    refine zi_getr fl_X2_95 hC.2.2.2.2.1.2.2.1.1 rfl dX2_doDeeds_32 ?_
    refine zi_iload dX2_doDeeds_35 rfl ?_
    refine zi_iald hC.2.2.2.2.1.2.2.1.2.1 h.1 dX2_doDeeds_37 ?_
    replace h := h.2
    refine zi_iload_n dX2_doDeeds_38 rfl rfl ?_
    refine zi_icmp_ne (tgt := 93) dX2_doDeeds_39 (by decide) (fun q9 => ?_) (fun q9 => ?_)
    · replace h := h.1 q9
      obtain ⟨x2, ex2⟩ : ∃ y : Int32, y = v4 + (1 : Int32) := ⟨_, rfl⟩
      replace h := h x2 ex2
      refine zi_iinc (v := x2) dX2_doDeeds_93 rfl (by rw [ex2]; rfl) (by decide) rfl ?_
      refine zi_goto (tgt := 13) dX2_doDeeds_96 (by decide) ?_
      refine zt_drop (lv' := [some (.ref k), some (.int v1), some (.ref (t + 5)), some (.int v3), some (.int x2), none]) [true, true, true, true, true, false] rfl ?_
      exact h
    · replace h := h.2 q9
      refine zi_aload_n dX2_doDeeds_42 rfl rfl ?_
      refine zi_iload dX2_doDeeds_43 rfl ?_
      refine zt_Vi (As := [.int x1]) dX2_doDeeds_45 lk_X2_98 hC.1 rfl ⟨⟨by decide, by decide⟩, rfl, rfl⟩ rfl ⟨Nat.le_of_ble_eq_true rfl, by (show zokL 113 [some (.ref k), some (.int v1), some (.ref (t + 5)), some (.int v3), some (.int v4), some (.int x1)] = true; (simp [zokL, zok_i, zok_l, zok_r] <;> omega)), by (show List.all ([] : List Value) (zok 113) = true; (simp [zokL, zok_i, zok_l, zok_r] <;> omega))⟩ (lives_s hC h.1.1 h.1.2 (P := fun y S9 L9 => y = (if pLv np (S (k + 3)) x1 then (1 : Int32) else 0) ∧ S = S9 ∧ L = L9) ⟨rfl, rfl, rfl⟩) (fun y1 S9 L9 q9 => ?_)
      obtain ⟨ey1, rfl, rfl⟩ := q9
      replace h := h.2
      replace h := h y1 ey1
      refine zi_if_eq (tgt := 93) dX2_doDeeds_48 (by decide) (fun q9 => ?_) (fun q9 => ?_)
      · replace h := h.1 q9
        obtain ⟨x2, ex2⟩ : ∃ y : Int32, y = v4 + (1 : Int32) := ⟨_, rfl⟩
        replace h := h x2 ex2
        refine zi_iinc (v := x2) dX2_doDeeds_93 rfl (by rw [ex2]; rfl) (by decide) rfl ?_
        refine zi_goto (tgt := 13) dX2_doDeeds_96 (by decide) ?_
        refine zt_drop (lv' := [some (.ref k), some (.int v1), some (.ref (t + 5)), some (.int v3), some (.int x2), none]) [true, true, true, true, true, false] rfl ?_
        exact h
      · replace h := h.2 q9
        refine zi_aload_n dX2_doDeeds_51 rfl rfl ?_
        refine zi_getr fl_X2_9 hC.1 rfl dX2_doDeeds_52 ?_
        refine zi_iconst (v := 0) dX2_doDeeds_55 (by decide) ?_
        refine zi_iload dX2_doDeeds_56 rfl ?_
        refine zi_iadd dX2_doDeeds_58 ?_
        refine zt_nmi (fun x2 ex2 => ?_)
        replace h := h x2 ex2
        refine zi_dup2_11 dX2_doDeeds_59 rfl rfl ?_
        refine zi_iald hC.2.1 h.1 dX2_doDeeds_60 ?_
        replace h := h.2
        refine zi_aload_n dX2_doDeeds_61 rfl rfl ?_
        refine zi_getr fl_X2_28 hC.1 rfl dX2_doDeeds_62 ?_
        refine zi_getr fl_X2_81 hC.2.2.2.2.1.1 rfl dX2_doDeeds_65 ?_
        refine zi_getr fl_X2_95 hC.2.2.2.2.1.2.1.1 rfl dX2_doDeeds_68 ?_
        refine zi_iload dX2_doDeeds_71 rfl ?_
        refine zi_iald hC.2.2.2.2.1.2.1.2.1 h.1 dX2_doDeeds_73 ?_
        replace h := h.2
        refine zi_aload_n dX2_doDeeds_74 rfl rfl ?_
        refine zi_getr fl_X2_92 hC.2.2.2.2.1.2.2.1.1 rfl dX2_doDeeds_75 ?_
        refine zi_iload dX2_doDeeds_78 rfl ?_
        refine zi_iald hC.2.2.2.2.1.2.2.1.2.2.2 h.1 dX2_doDeeds_80 ?_
        replace h := h.2
        refine zt_Si (As := [.int (S ((t + 1) + 1) x1.toNatClampNeg), .int (S ((t + 5) + 3) v4.toNatClampNeg)]) dX2_doDeeds_81 lk_X2_102 ⟨⟨by decide, by decide⟩, rfl, rfl⟩ rfl ⟨Nat.le_of_ble_eq_true rfl, by (show zokL 113 [some (.ref k), some (.int v1), some (.ref (t + 5)), some (.int v3), some (.int v4), some (.int x1)] = true; (simp [zokL, zok_i, zok_l, zok_r] <;> omega)), by (show List.all ([.int (S (k + 1) x2.toNatClampNeg), .int x2, .ref (k + 1)] : List Value) (zok 113) = true; (simp [zokL, zok_i, zok_l, zok_r] <;> omega))⟩ (growth_s (P := fun y S9 L9 => y = (pGr (S ((t + 1) + 1) x1.toNatClampNeg) (S ((t + 5) + 3) v4.toNatClampNeg)) ∧ S = S9 ∧ L = L9) ⟨rfl, rfl, rfl⟩) (fun y2 S9 L9 q9 => ?_)
        obtain ⟨ey2, rfl, rfl⟩ := q9
        replace h := h y2 ey2
        refine zi_iadd dX2_doDeeds_84 ?_
        refine zi_iast hC.2.1 h.1 dX2_doDeeds_85 ?_
        replace h := h.2
        refine zt_nmS (fun S1 eS1 => ?_)
        replace h := h S1 eS1
        refine zi_iload_n dX2_doDeeds_86 rfl rfl ?_
        refine zi_iconst (v := 1) dX2_doDeeds_87 (by decide) ?_
        refine zi_iload dX2_doDeeds_88 rfl ?_
        refine zi_ishl dX2_doDeeds_90 ?_
        refine zi_ior dX2_doDeeds_91 ?_
        refine zt_nmi (fun x3 ex3 => ?_)
        replace h := h x3 ex3
        refine zi_istore_n dX2_doDeeds_92 rfl (by decide) rfl ?_
        obtain ⟨x4, ex4⟩ : ∃ y : Int32, y = v4 + (1 : Int32) := ⟨_, rfl⟩
        replace h := h x4 ex4
        refine zi_iinc (v := x4) dX2_doDeeds_93 rfl (by rw [ex4]; rfl) (by decide) rfl ?_
        refine zi_goto (tgt := 13) dX2_doDeeds_96 (by decide) ?_
        refine zt_drop (lv' := [some (.ref k), some (.int v1), some (.ref (t + 5)), some (.int x3), some (.int x4), none]) [true, true, true, true, true, false] rfl ?_
        exact h
theorem e_X2_doDeeds {k : Nat} {month : Int32} {S : zS} {L : zL} {P : Int32 → zS → zL → Prop} (h : ∀ X, zU mX2_doDeeds X S L 0 [some (.ref k), some (.int month), none, none, none, none] [] (zpi P)) : zCi mX2_doDeeds S L [.ref k, .int month] P := zCi_of pn_X2_doDeeds (Nat.le_of_ble_eq_true rfl) (fun X => zt_pad (j := 4) rfl (h X))
set_option maxHeartbeats 2000000 in
theorem b_X2_travel_0 {k t np : Nat} {month : Int32} (hC : zCo k t) {X : Nat × (Nat → Int32)} {S : zS} {L : zL} {P : zS → zL → Prop} (h : zU mX2_travel X S L 10 [some (.ref k), some (.int month), some (.ref (t + 13)), some (.int (0 : Int32)), none, none] [] (zpv P)) : zU mX2_travel X S L 0 [some (.ref k), some (.int month), none, none, none, none] [] (zpv P) := by
  obtain ⟨hkb, htb, -⟩ := hC.2.2.2.2.2
  refine zi_aload_n dX2_travel_0 rfl rfl ?_
  refine zi_getr fl_X2_28 hC.1 rfl dX2_travel_1 ?_
  refine zi_getr fl_X2_45 hC.2.2.2.2.1.1 rfl dX2_travel_4 ?_
  refine zi_astore_n dX2_travel_7 rfl (by decide) rfl ?_
  refine zi_iconst (v := 0) dX2_travel_8 (by decide) ?_
  refine zi_istore_n dX2_travel_9 rfl (by decide) rfl ?_
  refine zt_drop (lv' := [some (.ref k), some (.int month), some (.ref (t + 13)), some (.int (0 : Int32)), none, none]) [true, true, true, true, false, false] rfl ?_
  exact h
set_option maxHeartbeats 2000000 in
theorem b_X2_travel_10 {k t np : Nat} {v1 : Int32} {v3 : Int32} (hC : zCo k t) {X : Nat × (Nat → Int32)} {S : zS} {L : zL} {P : zS → zL → Prop} (h : (((S (t + 13) 3) ≤ v3 → P S L) ∧ (¬ (S (t + 13) 3) ≤ v3 → vp_in v3 8 ∧ ∀ x1 : Int32, x1 = (S ((t + 13) + 2) v3.toNatClampNeg) → vp_in v3 8 ∧ ((¬ (S ((t + 13) + 1) v3.toNatClampNeg) = v1 → ∀ x2 : Int32, x2 = v3 + (1 : Int32) → zU mX2_travel X S L 10 [some (.ref k), some (.int v1), some (.ref (t + 13)), some (.int x2), none, none] [] (zpv P)) ∧ ((S ((t + 13) + 1) v3.toNatClampNeg) = v1 → (S (t + 1) 3 = nI np ∧ np ≤ 8) ∧ ∀ y1 : Int32, y1 = (if pLv np (S (k + 3)) x1 then (1 : Int32) else 0) → ((y1 = 0 → ∀ x2 : Int32, x2 = v3 + (1 : Int32) → zU mX2_travel X S L 10 [some (.ref k), some (.int v1), some (.ref (t + 13)), some (.int x2), none, none] [] (zpv P)) ∧ (¬ y1 = 0 → vp_in ((8 : Int32) + x1) 41 ∧ vp_in v3 8 ∧ (((S (k + 1) ((8 : Int32) + x1).toNatClampNeg) = (S ((t + 13) + 3) v3.toNatClampNeg) → ∀ x2 : Int32, x2 = v3 + (1 : Int32) → zU mX2_travel X S L 10 [some (.ref k), some (.int v1), some (.ref (t + 13)), some (.int x2), none, none] [] (zpv P)) ∧ (¬ (S (k + 1) ((8 : Int32) + x1).toNatClampNeg) = (S ((t + 13) + 3) v3.toNatClampNeg) → vp_in ((0 : Int32) + x1) 41 ∧ ∀ x2 : Int32, x2 = (if (S (k + 1) ((0 : Int32) + x1).toNatClampNeg) < (2 : Int32) then (S (k + 1) ((0 : Int32) + x1).toNatClampNeg) else (2 : Int32)) → ∀ x3 : Int32, x3 = ((0 : Int32) + x1) → vp_in x3 41 ∧ vp_in x3 41 ∧ ∀ S1 : zS, S1 = zc S (k + 1) (upd (S (k + 1)) x3.toNatClampNeg ((S (k + 1) x3.toNatClampNeg) - x2)) → vp_in (32 : Int32) 41 ∧ vp_in (32 : Int32) 41 ∧ ∀ S2 : zS, S2 = zc S1 (k + 1) (upd (S1 (k + 1)) (32 : Int32).toNatClampNeg ((S1 (k + 1) (32 : Int32).toNatClampNeg) + x2)) → vp_in v3 8 ∧ vp_in ((8 : Int32) + x1) 41 ∧ ∀ S3 : zS, S3 = zc S2 (k + 1) (upd (S2 (k + 1)) ((8 : Int32) + x1).toNatClampNeg (S2 ((t + 13) + 3) v3.toNatClampNeg)) → ∀ x4 : Int32, x4 = v3 + (1 : Int32) → zU mX2_travel X S3 L 10 [some (.ref k), some (.int v1), some (.ref (t + 13)), some (.int x4), none, none] [] (zpv P)))))))))) : zU mX2_travel X S L 10 [some (.ref k), some (.int v1), some (.ref (t + 13)), some (.int v3), none, none] [] (zpv P) := by
  obtain ⟨hkb, htb, -⟩ := hC.2.2.2.2.2
  refine zi_iload_n dX2_travel_10 rfl rfl ?_
  refine zi_aload_n dX2_travel_11 rfl rfl ?_
  refine zi_geti fl_X2_84 hC.2.2.2.2.1.2.2.2.2.1.1 rfl dX2_travel_12 ?_
  refine zi_icmp_ge (tgt := 127) dX2_travel_15 (by decide) (fun q9 => ?_) (fun q9 => ?_)
  · replace h := h.1 q9
    exact zt_vret dX2_travel_127 rfl h
  · replace h := h.2 q9
    refine zi_aload_n dX2_travel_18 rfl rfl ?_
    refine zi_getr fl_X2_89 hC.2.2.2.2.1.2.2.2.2.1.1 rfl dX2_travel_19 ?_
    refine zi_iload_n dX2_travel_22 rfl rfl ?_
    refine zi_iald hC.2.2.2.2.1.2.2.2.2.1.2.2.1 h.1 dX2_travel_23 ?_
    replace h := h.2
    refine zt_nmi (fun x1 ex1 => ?_)
    replace h := h x1 ex1
    refine zi_istore dX2_travel_24 (by decide) rfl ?_
    refine zi_aload_n dX2_travel_26 rfl rfl ?_
    refine zi_getr fl_X2_95 hC.2.2.2.2.1.2.2.2.2.1.1 rfl dX2_travel_27 ?_
    refine zi_iload_n dX2_travel_30 rfl rfl ?_
    refine zi_iald hC.2.2.2.2.1.2.2.2.2.1.2.1 h.1 dX2_travel_31 ?_
    replace h := h.2
    refine zi_iload_n dX2_travel_32 rfl rfl ?_
    refine zi_icmp_ne (tgt := 121) dX2_travel_33 (by decide) (fun q9 => ?_) (fun q9 => ?_)
    · replace h := h.1 q9
      obtain ⟨x2, ex2⟩ : ∃ y : Int32, y = v3 + (1 : Int32) := ⟨_, rfl⟩
      replace h := h x2 ex2
      refine zi_iinc (v := x2) dX2_travel_121 rfl (by rw [ex2]; rfl) (by decide) rfl ?_
      refine zi_goto (tgt := 10) dX2_travel_124 (by decide) ?_
      refine zt_drop (lv' := [some (.ref k), some (.int v1), some (.ref (t + 13)), some (.int x2), none, none]) [true, true, true, true, false, false] rfl ?_
      exact h
    · replace h := h.2 q9
      refine zi_aload_n dX2_travel_36 rfl rfl ?_
      refine zi_iload dX2_travel_37 rfl ?_
      refine zt_Vi (As := [.int x1]) dX2_travel_39 lk_X2_98 hC.1 rfl ⟨⟨by decide, by decide⟩, rfl, rfl⟩ rfl ⟨Nat.le_of_ble_eq_true rfl, by (show zokL 113 [some (.ref k), some (.int v1), some (.ref (t + 13)), some (.int v3), some (.int x1), none] = true; (simp [zokL, zok_i, zok_l, zok_r] <;> omega)), by (show List.all ([] : List Value) (zok 113) = true; (simp [zokL, zok_i, zok_l, zok_r] <;> omega))⟩ (lives_s hC h.1.1 h.1.2 (P := fun y S9 L9 => y = (if pLv np (S (k + 3)) x1 then (1 : Int32) else 0) ∧ S = S9 ∧ L = L9) ⟨rfl, rfl, rfl⟩) (fun y1 S9 L9 q9 => ?_)
      obtain ⟨ey1, rfl, rfl⟩ := q9
      replace h := h.2
      replace h := h y1 ey1
      refine zi_if_eq (tgt := 121) dX2_travel_42 (by decide) (fun q9 => ?_) (fun q9 => ?_)
      · replace h := h.1 q9
        obtain ⟨x2, ex2⟩ : ∃ y : Int32, y = v3 + (1 : Int32) := ⟨_, rfl⟩
        replace h := h x2 ex2
        refine zi_iinc (v := x2) dX2_travel_121 rfl (by rw [ex2]; rfl) (by decide) rfl ?_
        refine zi_goto (tgt := 10) dX2_travel_124 (by decide) ?_
        refine zt_drop (lv' := [some (.ref k), some (.int v1), some (.ref (t + 13)), some (.int x2), none, none]) [true, true, true, true, false, false] rfl ?_
        exact h
      · replace h := h.2 q9
        refine zi_aload_n dX2_travel_45 rfl rfl ?_
        refine zi_getr fl_X2_9 hC.1 rfl dX2_travel_46 ?_
        refine zi_bipush (v := 8) dX2_travel_49 (by decide) ?_
        refine zi_iload dX2_travel_51 rfl ?_
        refine zi_iadd dX2_travel_53 ?_
        refine zi_iald hC.2.1 h.1 dX2_travel_54 ?_
        replace h := h.2
        refine zi_aload_n dX2_travel_55 rfl rfl ?_
        refine zi_getr fl_X2_92 hC.2.2.2.2.1.2.2.2.2.1.1 rfl dX2_travel_56 ?_
        refine zi_iload_n dX2_travel_59 rfl rfl ?_
        refine zi_iald hC.2.2.2.2.1.2.2.2.2.1.2.2.2 h.1 dX2_travel_60 ?_
        replace h := h.2
        refine zi_icmp_eq (tgt := 121) dX2_travel_61 (by decide) (fun q9 => ?_) (fun q9 => ?_)
        · replace h := h.1 q9
          obtain ⟨x2, ex2⟩ : ∃ y : Int32, y = v3 + (1 : Int32) := ⟨_, rfl⟩
          replace h := h x2 ex2
          refine zi_iinc (v := x2) dX2_travel_121 rfl (by rw [ex2]; rfl) (by decide) rfl ?_
          refine zi_goto (tgt := 10) dX2_travel_124 (by decide) ?_
          refine zt_drop (lv' := [some (.ref k), some (.int v1), some (.ref (t + 13)), some (.int x2), none, none]) [true, true, true, true, false, false] rfl ?_
          exact h
        · replace h := h.2 q9
          refine zi_iconst (v := 2) dX2_travel_64 (by decide) ?_
          refine zi_aload_n dX2_travel_65 rfl rfl ?_
          refine zi_getr fl_X2_9 hC.1 rfl dX2_travel_66 ?_
          refine zi_iconst (v := 0) dX2_travel_69 (by decide) ?_
          refine zi_iload dX2_travel_70 rfl ?_
          refine zi_iadd dX2_travel_72 ?_
          refine zi_iald hC.2.1 h.1 dX2_travel_73 ?_
          replace h := h.2
          refine zi_mmin dX2_travel_74 lm_X2_109 ⟨by decide, by decide, by decide⟩ (Nat.le_of_ble_eq_true rfl) ?_
          refine zt_nmi (fun x2 ex2 => ?_)
          replace h := h x2 ex2
          refine zi_istore dX2_travel_77 (by decide) rfl ?_
          refine zi_aload_n dX2_travel_79 rfl rfl ?_
          refine zi_getr fl_X2_9 hC.1 rfl dX2_travel_80 ?_
          refine zi_iconst (v := 0) dX2_travel_83 (by decide) ?_
          refine zi_iload dX2_travel_84 rfl ?_
          refine zi_iadd dX2_travel_86 ?_
          refine zt_nmi (fun x3 ex3 => ?_)
          replace h := h x3 ex3
          refine zi_dup2_11 dX2_travel_87 rfl rfl ?_
          refine zi_iald hC.2.1 h.1 dX2_travel_88 ?_
          replace h := h.2
          refine zi_iload dX2_travel_89 rfl ?_
          refine zi_isub dX2_travel_91 ?_
          refine zi_iast hC.2.1 h.1 dX2_travel_92 ?_
          replace h := h.2
          refine zt_nmS (fun S1 eS1 => ?_)
          replace h := h S1 eS1
          refine zi_aload_n dX2_travel_93 rfl rfl ?_
          refine zi_getr fl_X2_9 hC.1 rfl dX2_travel_94 ?_
          refine zi_bipush (v := 32) dX2_travel_97 (by decide) ?_
          refine zi_dup2_11 dX2_travel_99 rfl rfl ?_
          refine zi_iald hC.2.1 h.1 dX2_travel_100 ?_
          replace h := h.2
          refine zi_iload dX2_travel_101 rfl ?_
          refine zi_iadd dX2_travel_103 ?_
          refine zi_iast hC.2.1 h.1 dX2_travel_104 ?_
          replace h := h.2
          refine zt_nmS (fun S2 eS2 => ?_)
          replace h := h S2 eS2
          refine zi_aload_n dX2_travel_105 rfl rfl ?_
          refine zi_getr fl_X2_9 hC.1 rfl dX2_travel_106 ?_
          refine zi_bipush (v := 8) dX2_travel_109 (by decide) ?_
          refine zi_iload dX2_travel_111 rfl ?_
          refine zi_iadd dX2_travel_113 ?_
          refine zi_aload_n dX2_travel_114 rfl rfl ?_
          refine zi_getr fl_X2_92 hC.2.2.2.2.1.2.2.2.2.1.1 rfl dX2_travel_115 ?_
          refine zi_iload_n dX2_travel_118 rfl rfl ?_
          refine zi_iald hC.2.2.2.2.1.2.2.2.2.1.2.2.2 h.1 dX2_travel_119 ?_
          replace h := h.2
          refine zi_iast hC.2.1 h.1 dX2_travel_120 ?_
          replace h := h.2
          refine zt_nmS (fun S3 eS3 => ?_)
          replace h := h S3 eS3
          obtain ⟨x4, ex4⟩ : ∃ y : Int32, y = v3 + (1 : Int32) := ⟨_, rfl⟩
          replace h := h x4 ex4
          refine zi_iinc (v := x4) dX2_travel_121 rfl (by rw [ex4]; rfl) (by decide) rfl ?_
          refine zi_goto (tgt := 10) dX2_travel_124 (by decide) ?_
          refine zt_drop (lv' := [some (.ref k), some (.int v1), some (.ref (t + 13)), some (.int x4), none, none]) [true, true, true, true, false, false] rfl ?_
          exact h
theorem e_X2_travel {k : Nat} {month : Int32} {S : zS} {L : zL} {P : zS → zL → Prop} (h : ∀ X, zU mX2_travel X S L 0 [some (.ref k), some (.int month), none, none, none, none] [] (zpv P)) : zCv mX2_travel S L [.ref k, .int month] P := zCv_of pn_X2_travel (Nat.le_of_ble_eq_true rfl) (fun X => zt_pad (j := 4) rfl (h X))
set_option maxHeartbeats 2000000 in
theorem b_X2_makeRounds_0 {k t np : Nat} {month : Int32} {fr : Int32} (hC : zCo k t) {X : Nat × (Nat → Int32)} {S : zS} {L : zL} {P : zS → zL → Prop} (h : zU mX2_makeRounds X S L 11 [some (.ref k), some (.int month), some (.int fr), some (.ref (t + 9)), some (.int (0 : Int32)), none, none] [] (zpv P)) : zU mX2_makeRounds X S L 0 [some (.ref k), some (.int month), some (.int fr), none, none, none, none] [] (zpv P) := by
  obtain ⟨hkb, htb, -⟩ := hC.2.2.2.2.2
  refine zi_aload_n dX2_makeRounds_0 rfl rfl ?_
  refine zi_getr fl_X2_28 hC.1 rfl dX2_makeRounds_1 ?_
  refine zi_getr fl_X2_48 hC.2.2.2.2.1.1 rfl dX2_makeRounds_4 ?_
  refine zi_astore_n dX2_makeRounds_7 rfl (by decide) rfl ?_
  refine zi_iconst (v := 0) dX2_makeRounds_8 (by decide) ?_
  refine zi_istore dX2_makeRounds_9 (by decide) rfl ?_
  refine zt_drop (lv' := [some (.ref k), some (.int month), some (.int fr), some (.ref (t + 9)), some (.int (0 : Int32)), none, none]) [true, true, true, true, true, false, false] rfl ?_
  exact h
set_option maxHeartbeats 2000000 in
theorem b_X2_makeRounds_11 {k t np : Nat} {v1 : Int32} {v2 : Int32} {v4 : Int32} (hC : zCo k t) {X : Nat × (Nat → Int32)} {S : zS} {L : zL} {P : zS → zL → Prop} (h : (((S (t + 9) 3) ≤ v4 → P S L) ∧ (¬ (S (t + 9) 3) ≤ v4 → vp_in v4 9 ∧ (((S ((t + 9) + 1) v4.toNatClampNeg) = v1 → vp_in v4 9 ∧ (S (t + 1) 3 = nI np ∧ np ≤ 8) ∧ ∀ y1 : Int32, y1 = (pWo np (S (k + 1)) (S (k + 3)) (S ((t + 9) + 2) v4.toNatClampNeg)) → zU mX2_makeRounds X S L 50 [some (.ref k), some (.int v1), some (.int v2), some (.ref (t + 9)), some (.int v4), some (.int y1), some (.int (0 : Int32))] [] (zpv P)) ∧ (¬ (S ((t + 9) + 1) v4.toNatClampNeg) = v1 → ∀ x1 : Int32, x1 = v4 + (1 : Int32) → zU mX2_makeRounds X S L 11 [some (.ref k), some (.int v1), some (.int v2), some (.ref (t + 9)), some (.int x1), none, none] [] (zpv P)))))) : zU mX2_makeRounds X S L 11 [some (.ref k), some (.int v1), some (.int v2), some (.ref (t + 9)), some (.int v4), none, none] [] (zpv P) := by
  obtain ⟨hkb, htb, -⟩ := hC.2.2.2.2.2
  refine zi_iload dX2_makeRounds_11 rfl ?_
  refine zi_aload_n dX2_makeRounds_13 rfl rfl ?_
  refine zi_geti fl_X2_84 hC.2.2.2.2.1.2.2.2.1.1 rfl dX2_makeRounds_14 ?_
  refine zi_icmp_ge (tgt := 101) dX2_makeRounds_17 (by decide) (fun q9 => ?_) (fun q9 => ?_)
  · replace h := h.1 q9
    exact zt_vret dX2_makeRounds_101 rfl h
  · replace h := h.2 q9
    refine zi_aload_n dX2_makeRounds_20 rfl rfl ?_
    refine zi_getr fl_X2_95 hC.2.2.2.2.1.2.2.2.1.1 rfl dX2_makeRounds_21 ?_
    refine zi_iload dX2_makeRounds_24 rfl ?_
    refine zi_iald hC.2.2.2.2.1.2.2.2.1.2.1 h.1 dX2_makeRounds_26 ?_
    replace h := h.2
    refine zi_iload_n dX2_makeRounds_27 rfl rfl ?_
    refine zi_icmp_eq (tgt := 34) dX2_makeRounds_28 (by decide) (fun q9 => ?_) (fun q9 => ?_)
    · replace h := h.1 q9
      refine zi_aload_n dX2_makeRounds_34 rfl rfl ?_
      refine zi_aload_n dX2_makeRounds_35 rfl rfl ?_
      refine zi_getr fl_X2_89 hC.2.2.2.2.1.2.2.2.1.1 rfl dX2_makeRounds_36 ?_
      refine zi_iload dX2_makeRounds_39 rfl ?_
      refine zi_iald hC.2.2.2.2.1.2.2.2.1.2.2.1 h.1 dX2_makeRounds_41 ?_
      replace h := h.2
      refine zt_Vi (As := [.int (S ((t + 9) + 2) v4.toNatClampNeg)]) dX2_makeRounds_42 lk_X2_114 hC.1 rfl ⟨⟨by decide, by decide⟩, rfl, rfl⟩ rfl ⟨Nat.le_of_ble_eq_true rfl, by (show zokL 113 [some (.ref k), some (.int v1), some (.int v2), some (.ref (t + 9)), some (.int v4), none, none] = true; (simp [zokL, zok_i, zok_l, zok_r] <;> omega)), by (show List.all ([] : List Value) (zok 113) = true; (simp [zokL, zok_i, zok_l, zok_r] <;> omega))⟩ (woolliest_s hC h.1.1 h.1.2 (P := fun y S9 L9 => y = (pWo np (S (k + 1)) (S (k + 3)) (S ((t + 9) + 2) v4.toNatClampNeg)) ∧ S = S9 ∧ L = L9) ⟨rfl, rfl, rfl⟩) (fun y1 S9 L9 q9 => ?_)
      obtain ⟨ey1, rfl, rfl⟩ := q9
      replace h := h.2
      replace h := h y1 ey1
      refine zi_istore dX2_makeRounds_45 (by decide) rfl ?_
      refine zi_iconst (v := 0) dX2_makeRounds_47 (by decide) ?_
      refine zi_istore dX2_makeRounds_48 (by decide) rfl ?_
      refine zt_drop (lv' := [some (.ref k), some (.int v1), some (.int v2), some (.ref (t + 9)), some (.int v4), some (.int y1), some (.int (0 : Int32))]) [true, true, true, true, true, true, true] rfl ?_
      exact h
    · replace h := h.2 q9
      refine zi_goto (tgt := 95) dX2_makeRounds_31 (by decide) ?_
      obtain ⟨x1, ex1⟩ : ∃ y : Int32, y = v4 + (1 : Int32) := ⟨_, rfl⟩
      replace h := h x1 ex1
      refine zi_iinc (v := x1) dX2_makeRounds_95 rfl (by rw [ex1]; rfl) (by decide) rfl ?_
      refine zi_goto (tgt := 11) dX2_makeRounds_98 (by decide) ?_
      refine zt_drop (lv' := [some (.ref k), some (.int v1), some (.int v2), some (.ref (t + 9)), some (.int x1), none, none]) [true, true, true, true, true, false, false] rfl ?_
      exact h
set_option maxHeartbeats 2000000 in
theorem b_X2_makeRounds_50 {k t np : Nat} {v1 : Int32} {v2 : Int32} {v4 : Int32} {v5 : Int32} {v6 : Int32} (hC : zCo k t) {X : Nat × (Nat → Int32)} {S : zS} {L : zL} {P : zS → zL → Prop} (h : vp_in v4 9 ∧ (((S ((t + 9) + 3) v4.toNatClampNeg) ≤ v6 → ∀ x1 : Int32, x1 = v4 + (1 : Int32) → zU mX2_makeRounds X S L 11 [some (.ref k), some (.int v1), some (.int v2), some (.ref (t + 9)), some (.int x1), none, none] [] (zpv P)) ∧ (¬ (S ((t + 9) + 3) v4.toNatClampNeg) ≤ v6 → ((v5 = (-1 : Int32) → ∀ x1 : Int32, x1 = v4 + (1 : Int32) → zU mX2_makeRounds X S L 11 [some (.ref k), some (.int v1), some (.int v2), some (.ref (t + 9)), some (.int x1), none, none] [] (zpv P)) ∧ (¬ v5 = (-1 : Int32) → zCv mX2_shear S L [.ref k, .int v1, .int v5, .int v2] (fun S1 L1 => vp_in v4 9 ∧ (S1 (t + 1) 3 = nI np ∧ np ≤ 8) ∧ ∀ y2 : Int32, y2 = (pWo np (S1 (k + 1)) (S1 (k + 3)) (S1 ((t + 9) + 2) v4.toNatClampNeg)) → ∀ x1 : Int32, x1 = v6 + (1 : Int32) → zU mX2_makeRounds X S1 L1 50 [some (.ref k), some (.int v1), some (.int v2), some (.ref (t + 9)), some (.int v4), some (.int y2), some (.int x1)] [] (zpv P))))))) : zU mX2_makeRounds X S L 50 [some (.ref k), some (.int v1), some (.int v2), some (.ref (t + 9)), some (.int v4), some (.int v5), some (.int v6)] [] (zpv P) := by
  obtain ⟨hkb, htb, -⟩ := hC.2.2.2.2.2
  refine zi_iload dX2_makeRounds_50 rfl ?_
  refine zi_aload_n dX2_makeRounds_52 rfl rfl ?_
  refine zi_getr fl_X2_92 hC.2.2.2.2.1.2.2.2.1.1 rfl dX2_makeRounds_53 ?_
  refine zi_iload dX2_makeRounds_56 rfl ?_
  refine zi_iald hC.2.2.2.2.1.2.2.2.1.2.2.2 h.1 dX2_makeRounds_58 ?_
  replace h := h.2
  refine zi_icmp_ge (tgt := 95) dX2_makeRounds_59 (by decide) (fun q9 => ?_) (fun q9 => ?_)
  · replace h := h.1 q9
    obtain ⟨x1, ex1⟩ : ∃ y : Int32, y = v4 + (1 : Int32) := ⟨_, rfl⟩
    replace h := h x1 ex1
    refine zi_iinc (v := x1) dX2_makeRounds_95 rfl (by rw [ex1]; rfl) (by decide) rfl ?_
    refine zi_goto (tgt := 11) dX2_makeRounds_98 (by decide) ?_
    refine zt_drop (lv' := [some (.ref k), some (.int v1), some (.int v2), some (.ref (t + 9)), some (.int x1), none, none]) [true, true, true, true, true, false, false] rfl ?_
    exact h
  · replace h := h.2 q9
    refine zi_iload dX2_makeRounds_62 rfl ?_
    refine zi_iconst (v := -1) dX2_makeRounds_64 (by decide) ?_
    refine zi_icmp_eq (tgt := 95) dX2_makeRounds_65 (by decide) (fun q9 => ?_) (fun q9 => ?_)
    · replace h := h.1 q9
      obtain ⟨x1, ex1⟩ : ∃ y : Int32, y = v4 + (1 : Int32) := ⟨_, rfl⟩
      replace h := h x1 ex1
      refine zi_iinc (v := x1) dX2_makeRounds_95 rfl (by rw [ex1]; rfl) (by decide) rfl ?_
      refine zi_goto (tgt := 11) dX2_makeRounds_98 (by decide) ?_
      refine zt_drop (lv' := [some (.ref k), some (.int v1), some (.int v2), some (.ref (t + 9)), some (.int x1), none, none]) [true, true, true, true, true, false, false] rfl ?_
      exact h
    · replace h := h.2 q9
      refine zi_aload_n dX2_makeRounds_68 rfl rfl ?_
      refine zi_iload_n dX2_makeRounds_69 rfl rfl ?_
      refine zi_iload dX2_makeRounds_70 rfl ?_
      refine zi_iload_n dX2_makeRounds_72 rfl rfl ?_
      refine zt_Vv (As := [.int v1, .int v5, .int v2]) dX2_makeRounds_73 lk_X2_117 hC.1 rfl ⟨⟨by decide, by decide⟩, rfl, rfl⟩ rfl ⟨Nat.le_of_ble_eq_true rfl, by (show zokL 113 [some (.ref k), some (.int v1), some (.int v2), some (.ref (t + 9)), some (.int v4), some (.int v5), some (.int v6)] = true; (simp [zokL, zok_i, zok_l, zok_r] <;> omega)), by (show List.all ([] : List Value) (zok 113) = true; (simp [zokL, zok_i, zok_l, zok_r] <;> omega))⟩ h (fun S1 L1 h => ?_)
      refine zi_aload_n dX2_makeRounds_76 rfl rfl ?_
      refine zi_aload_n dX2_makeRounds_77 rfl rfl ?_
      refine zi_getr fl_X2_89 hC.2.2.2.2.1.2.2.2.1.1 rfl dX2_makeRounds_78 ?_
      refine zi_iload dX2_makeRounds_81 rfl ?_
      refine zi_iald hC.2.2.2.2.1.2.2.2.1.2.2.1 h.1 dX2_makeRounds_83 ?_
      replace h := h.2
      refine zt_Vi (As := [.int (S1 ((t + 9) + 2) v4.toNatClampNeg)]) dX2_makeRounds_84 lk_X2_114 hC.1 rfl ⟨⟨by decide, by decide⟩, rfl, rfl⟩ rfl ⟨Nat.le_of_ble_eq_true rfl, by (show zokL 113 [some (.ref k), some (.int v1), some (.int v2), some (.ref (t + 9)), some (.int v4), some (.int v5), some (.int v6)] = true; (simp [zokL, zok_i, zok_l, zok_r] <;> omega)), by (show List.all ([] : List Value) (zok 113) = true; (simp [zokL, zok_i, zok_l, zok_r] <;> omega))⟩ (woolliest_s hC h.1.1 h.1.2 (P := fun y S9 L9 => y = (pWo np (S1 (k + 1)) (S1 (k + 3)) (S1 ((t + 9) + 2) v4.toNatClampNeg)) ∧ S1 = S9 ∧ L1 = L9) ⟨rfl, rfl, rfl⟩) (fun y2 S9 L9 q9 => ?_)
      obtain ⟨ey2, rfl, rfl⟩ := q9
      replace h := h.2
      replace h := h y2 ey2
      refine zi_istore dX2_makeRounds_87 (by decide) rfl ?_
      obtain ⟨x1, ex1⟩ : ∃ y : Int32, y = v6 + (1 : Int32) := ⟨_, rfl⟩
      replace h := h x1 ex1
      refine zi_iinc (v := x1) dX2_makeRounds_89 rfl (by rw [ex1]; rfl) (by decide) rfl ?_
      refine zi_goto (tgt := 50) dX2_makeRounds_92 (by decide) ?_
      refine zt_drop (lv' := [some (.ref k), some (.int v1), some (.int v2), some (.ref (t + 9)), some (.int v4), some (.int y2), some (.int x1)]) [true, true, true, true, true, true, true] rfl ?_
      exact h
theorem e_X2_makeRounds {k : Nat} {month : Int32} {fr : Int32} {S : zS} {L : zL} {P : zS → zL → Prop} (h : ∀ X, zU mX2_makeRounds X S L 0 [some (.ref k), some (.int month), some (.int fr), none, none, none, none] [] (zpv P)) : zCv mX2_makeRounds S L [.ref k, .int month, .int fr] P := zCv_of pn_X2_makeRounds (Nat.le_of_ble_eq_true rfl) (fun X => zt_pad (j := 4) rfl (h X))
set_option maxHeartbeats 2000000 in
theorem b_X2_run_0 {k t : Nat} {last : Int32} (hC : zCo k t) {X : Nat × (Nat → Int32)} {S : zS} {L : zL} {P : zS → zL → Prop} (h : zCv mX2_begin S L [.ref k] (fun S1 L1 => zCi mX2_monthsOf S1 L1 [.ref (t + 5)] (fun y2 S2 L2 => zCi mX2_monthsOf S2 L2 [.ref (t + 13)] (fun y3 S3 L3 => zCi mX2_monthsOf S3 L3 [.ref (t + 9)] (fun y4 S4 L4 => zCi mX2_monthsOf S4 L4 [.ref (t + 17)] (fun y5 S5 L5 => zU mX2_run X S5 L5 53 [some (.ref k), some (.int last), some (.int y2), some (.int y3), some (.int y4), some (.int y5), some (.int (0 : Int32)), none, none] [] (zpv P))))))) : zU mX2_run X S L 0 [some (.ref k), some (.int last), none, none, none, none, none, none, none] [] (zpv P) := by
  obtain ⟨hkb, htb, -⟩ := hC.2.2.2.2.2
  refine zi_aload_n dX2_run_0 rfl rfl ?_
  refine zt_Vv (As := []) dX2_run_1 lk_X2_32 hC.1 rfl ⟨⟨by decide, by decide⟩, rfl, rfl⟩ rfl ⟨Nat.le_of_ble_eq_true rfl, by (show zokL 113 [some (.ref k), some (.int last), none, none, none, none, none, none, none] = true; (simp [zokL, zok_i, zok_l, zok_r] <;> omega)), by (show List.all ([] : List Value) (zok 113) = true; (simp [zokL, zok_i, zok_l, zok_r] <;> omega))⟩ h (fun S1 L1 h => ?_)
  refine zi_aload_n dX2_run_4 rfl rfl ?_
  refine zi_getr fl_X2_28 hC.1 rfl dX2_run_5 ?_
  refine zi_getr fl_X2_35 hC.2.2.2.2.1.1 rfl dX2_run_8 ?_
  refine zt_Si (As := [.ref (t + 5)]) dX2_run_11 lk_X2_41 ⟨⟨by decide, by decide⟩, rfl, rfl⟩ rfl ⟨Nat.le_of_ble_eq_true rfl, by (show zokL 113 [some (.ref k), some (.int last), none, none, none, none, none, none, none] = true; (simp [zokL, zok_i, zok_l, zok_r] <;> omega)), by (show List.all ([] : List Value) (zok 113) = true; (simp [zokL, zok_i, zok_l, zok_r] <;> omega))⟩ h (fun y2 S2 L2 h => ?_)
  refine zi_istore_n dX2_run_14 rfl (by decide) rfl ?_
  refine zi_aload_n dX2_run_15 rfl rfl ?_
  refine zi_getr fl_X2_28 hC.1 rfl dX2_run_16 ?_
  refine zi_getr fl_X2_45 hC.2.2.2.2.1.1 rfl dX2_run_19 ?_
  refine zt_Si (As := [.ref (t + 13)]) dX2_run_22 lk_X2_41 ⟨⟨by decide, by decide⟩, rfl, rfl⟩ rfl ⟨Nat.le_of_ble_eq_true rfl, by (show zokL 113 [some (.ref k), some (.int last), some (.int y2), none, none, none, none, none, none] = true; (simp [zokL, zok_i, zok_l, zok_r] <;> omega)), by (show List.all ([] : List Value) (zok 113) = true; (simp [zokL, zok_i, zok_l, zok_r] <;> omega))⟩ h (fun y3 S3 L3 h => ?_)
  refine zi_istore_n dX2_run_25 rfl (by decide) rfl ?_
  refine zi_aload_n dX2_run_26 rfl rfl ?_
  refine zi_getr fl_X2_28 hC.1 rfl dX2_run_27 ?_
  refine zi_getr fl_X2_48 hC.2.2.2.2.1.1 rfl dX2_run_30 ?_
  refine zt_Si (As := [.ref (t + 9)]) dX2_run_33 lk_X2_41 ⟨⟨by decide, by decide⟩, rfl, rfl⟩ rfl ⟨Nat.le_of_ble_eq_true rfl, by (show zokL 113 [some (.ref k), some (.int last), some (.int y2), some (.int y3), none, none, none, none, none] = true; (simp [zokL, zok_i, zok_l, zok_r] <;> omega)), by (show List.all ([] : List Value) (zok 113) = true; (simp [zokL, zok_i, zok_l, zok_r] <;> omega))⟩ h (fun y4 S4 L4 h => ?_)
  refine zi_istore dX2_run_36 (by decide) rfl ?_
  refine zi_aload_n dX2_run_38 rfl rfl ?_
  refine zi_getr fl_X2_28 hC.1 rfl dX2_run_39 ?_
  refine zi_getr fl_X2_51 hC.2.2.2.2.1.1 rfl dX2_run_42 ?_
  refine zt_Si (As := [.ref (t + 17)]) dX2_run_45 lk_X2_41 ⟨⟨by decide, by decide⟩, rfl, rfl⟩ rfl ⟨Nat.le_of_ble_eq_true rfl, by (show zokL 113 [some (.ref k), some (.int last), some (.int y2), some (.int y3), some (.int y4), none, none, none, none] = true; (simp [zokL, zok_i, zok_l, zok_r] <;> omega)), by (show List.all ([] : List Value) (zok 113) = true; (simp [zokL, zok_i, zok_l, zok_r] <;> omega))⟩ h (fun y5 S5 L5 h => ?_)
  refine zi_istore dX2_run_48 (by decide) rfl ?_
  refine zi_iconst (v := 0) dX2_run_50 (by decide) ?_
  refine zi_istore dX2_run_51 (by decide) rfl ?_
  refine zt_drop (lv' := [some (.ref k), some (.int last), some (.int y2), some (.int y3), some (.int y4), some (.int y5), some (.int (0 : Int32)), none, none]) [true, true, true, true, true, true, true, false, false] rfl ?_
  exact h
set_option maxHeartbeats 2000000 in
theorem b_X2_run_53 {k t : Nat} {v1 : Int32} {v2 : Int32} {v3 : Int32} {v4 : Int32} {v5 : Int32} {v6 : Int32} (hC : zCo k t) {X : Nat × (Nat → Int32)} {S : zS} {L : zL} {P : zS → zL → Prop} (h : ((v1 < v6 → P S L) ∧ (¬ v1 < v6 → (((24 : Int32) ≤ v6 → P S L) ∧ (¬ (24 : Int32) ≤ v6 → ∀ x1 : Int32, x1 = ((1 : Int32) <<< (v6 &&& 31)) → (((v2 &&& x1) = 0 → zU mX2_run X S L 89 [some (.ref k), some (.int v1), some (.int v2), some (.int v3), some (.int v4), some (.int v5), some (.int v6), some (.int x1), none] [.int (0 : Int32)] (zpv P)) ∧ (¬ (v2 &&& x1) = 0 → zCi mX2_doDeeds S L [.ref k, .int v6] (fun y1 S1 L1 => zU mX2_run X S1 L1 89 [some (.ref k), some (.int v1), some (.int v2), some (.int v3), some (.int v4), some (.int v5), some (.int v6), some (.int x1), none] [.int y1] (zpv P))))))))) : zU mX2_run X S L 53 [some (.ref k), some (.int v1), some (.int v2), some (.int v3), some (.int v4), some (.int v5), some (.int v6), none, none] [] (zpv P) := by
  obtain ⟨hkb, htb, -⟩ := hC.2.2.2.2.2
  refine zi_iload dX2_run_53 rfl ?_
  refine zi_iload_n dX2_run_55 rfl rfl ?_
  refine zi_icmp_gt (tgt := 162) dX2_run_56 (by decide) (fun q9 => ?_) (fun q9 => ?_)
  · replace h := h.1 q9
    exact zt_vret dX2_run_162 rfl h
  · replace h := h.2 q9
    refine zi_iload dX2_run_59 rfl ?_
    refine zi_bipush (v := 24) dX2_run_61 (by decide) ?_
    refine zi_icmp_ge (tgt := 162) dX2_run_63 (by decide) (fun q9 => ?_) (fun q9 => ?_)
    · replace h := h.1 q9
      exact zt_vret dX2_run_162 rfl h
    · replace h := h.2 q9
      refine zi_iconst (v := 1) dX2_run_66 (by decide) ?_
      refine zi_iload dX2_run_67 rfl ?_
      refine zi_ishl dX2_run_69 ?_
      refine zt_nmi (fun x1 ex1 => ?_)
      replace h := h x1 ex1
      refine zi_istore dX2_run_70 (by decide) rfl ?_
      refine zi_iload_n dX2_run_72 rfl rfl ?_
      refine zi_iload dX2_run_73 rfl ?_
      refine zi_iand dX2_run_75 ?_
      refine zi_if_eq (tgt := 88) dX2_run_76 (by decide) (fun q9 => ?_) (fun q9 => ?_)
      · replace h := h.1 q9
        refine zi_iconst (v := 0) dX2_run_88 (by decide) ?_
        refine zt_drop (lv' := [some (.ref k), some (.int v1), some (.int v2), some (.int v3), some (.int v4), some (.int v5), some (.int v6), some (.int x1), none]) [true, true, true, true, true, true, true, true, false] rfl ?_
        exact h
      · replace h := h.2 q9
        refine zi_aload_n dX2_run_79 rfl rfl ?_
        refine zi_iload dX2_run_80 rfl ?_
        refine zt_Vi (As := [.int v6]) dX2_run_82 lk_X2_54 hC.1 rfl ⟨⟨by decide, by decide⟩, rfl, rfl⟩ rfl ⟨Nat.le_of_ble_eq_true rfl, by (show zokL 113 [some (.ref k), some (.int v1), some (.int v2), some (.int v3), some (.int v4), some (.int v5), some (.int v6), some (.int x1), none] = true; (simp [zokL, zok_i, zok_l, zok_r] <;> omega)), by (show List.all ([] : List Value) (zok 113) = true; (simp [zokL, zok_i, zok_l, zok_r] <;> omega))⟩ h (fun y1 S1 L1 h => ?_)
        refine zi_goto (tgt := 89) dX2_run_85 (by decide) ?_
        refine zt_drop (lv' := [some (.ref k), some (.int v1), some (.int v2), some (.int v3), some (.int v4), some (.int v5), some (.int v6), some (.int x1), none]) [true, true, true, true, true, true, true, true, false] rfl ?_
        exact h
set_option maxHeartbeats 2000000 in
theorem b_X2_run_89 {k t : Nat} {v1 : Int32} {v2 : Int32} {v3 : Int32} {v4 : Int32} {v5 : Int32} {v6 : Int32} {v7 : Int32} {w0 : Int32} (hC : zCo k t) {X : Nat × (Nat → Int32)} {S : zS} {L : zL} {P : zS → zL → Prop} (h : zCv mX2_moult S L [.ref k, .int w0] (fun S1 L1 => (((v3 &&& v7) = 0 → zU mX2_run X S1 L1 110 [some (.ref k), some (.int v1), some (.int v2), some (.int v3), some (.int v4), some (.int v5), some (.int v6), some (.int v7), none] [] (zpv P)) ∧ (¬ (v3 &&& v7) = 0 → zCv mX2_travel S1 L1 [.ref k, .int v6] (fun S2 L2 => zU mX2_run X S2 L2 110 [some (.ref k), some (.int v1), some (.int v2), some (.int v3), some (.int v4), some (.int v5), some (.int v6), some (.int v7), none] [] (zpv P)))))) : zU mX2_run X S L 89 [some (.ref k), some (.int v1), some (.int v2), some (.int v3), some (.int v4), some (.int v5), some (.int v6), some (.int v7), none] [.int w0] (zpv P) := by
  obtain ⟨hkb, htb, -⟩ := hC.2.2.2.2.2
  refine zi_istore dX2_run_89 (by decide) rfl ?_
  refine zi_aload_n dX2_run_91 rfl rfl ?_
  refine zi_iload dX2_run_92 rfl ?_
  refine zt_Vv (As := [.int w0]) dX2_run_94 lk_X2_58 hC.1 rfl ⟨⟨by decide, by decide⟩, rfl, rfl⟩ rfl ⟨Nat.le_of_ble_eq_true rfl, by (show zokL 113 [some (.ref k), some (.int v1), some (.int v2), some (.int v3), some (.int v4), some (.int v5), some (.int v6), some (.int v7), some (.int w0)] = true; (simp [zokL, zok_i, zok_l, zok_r] <;> omega)), by (show List.all ([] : List Value) (zok 113) = true; (simp [zokL, zok_i, zok_l, zok_r] <;> omega))⟩ h (fun S1 L1 h => ?_)
  refine zi_iload_n dX2_run_97 rfl rfl ?_
  refine zi_iload dX2_run_98 rfl ?_
  refine zi_iand dX2_run_100 ?_
  refine zi_if_eq (tgt := 110) dX2_run_101 (by decide) (fun q9 => ?_) (fun q9 => ?_)
  · replace h := h.1 q9
    refine zt_drop (lv' := [some (.ref k), some (.int v1), some (.int v2), some (.int v3), some (.int v4), some (.int v5), some (.int v6), some (.int v7), none]) [true, true, true, true, true, true, true, true, false] rfl ?_
    exact h
  · replace h := h.2 q9
    refine zi_aload_n dX2_run_104 rfl rfl ?_
    refine zi_iload dX2_run_105 rfl ?_
    refine zt_Vv (As := [.int v6]) dX2_run_107 lk_X2_62 hC.1 rfl ⟨⟨by decide, by decide⟩, rfl, rfl⟩ rfl ⟨Nat.le_of_ble_eq_true rfl, by (show zokL 113 [some (.ref k), some (.int v1), some (.int v2), some (.int v3), some (.int v4), some (.int v5), some (.int v6), some (.int v7), some (.int w0)] = true; (simp [zokL, zok_i, zok_l, zok_r] <;> omega)), by (show List.all ([] : List Value) (zok 113) = true; (simp [zokL, zok_i, zok_l, zok_r] <;> omega))⟩ h (fun S2 L2 h => ?_)
    refine zt_drop (lv' := [some (.ref k), some (.int v1), some (.int v2), some (.int v3), some (.int v4), some (.int v5), some (.int v6), some (.int v7), none]) [true, true, true, true, true, true, true, true, false] rfl ?_
    exact h
set_option maxHeartbeats 2000000 in
theorem b_X2_run_110 {k t : Nat} {v1 : Int32} {v2 : Int32} {v3 : Int32} {v4 : Int32} {v5 : Int32} {v6 : Int32} {v7 : Int32} (hC : zCo k t) {X : Nat × (Nat → Int32)} {S : zS} {L : zL} {P : zS → zL → Prop} (h : (((v4 &&& v7) = 0 → zU mX2_run X S L 137 [some (.ref k), some (.int v1), some (.int v2), some (.int v3), some (.int v4), some (.int v5), some (.int v6), none, none] [] (zpv P)) ∧ (¬ (v4 &&& v7) = 0 → (((v5 &&& v7) = 0 → zU mX2_run X S L 134 [some (.ref k), some (.int v1), some (.int v2), some (.int v3), some (.int v4), some (.int v5), some (.int v6), none, none] [.int (0 : Int32), .int v6, .ref k] (zpv P)) ∧ (¬ (v5 &&& v7) = 0 → zU mX2_run X S L 134 [some (.ref k), some (.int v1), some (.int v2), some (.int v3), some (.int v4), some (.int v5), some (.int v6), none, none] [.int (1 : Int32), .int v6, .ref k] (zpv P)))))) : zU mX2_run X S L 110 [some (.ref k), some (.int v1), some (.int v2), some (.int v3), some (.int v4), some (.int v5), some (.int v6), some (.int v7), none] [] (zpv P) := by
  obtain ⟨hkb, htb, -⟩ := hC.2.2.2.2.2
  refine zi_iload dX2_run_110 rfl ?_
  refine zi_iload dX2_run_112 rfl ?_
  refine zi_iand dX2_run_114 ?_
  refine zi_if_eq (tgt := 137) dX2_run_115 (by decide) (fun q9 => ?_) (fun q9 => ?_)
  · replace h := h.1 q9
    refine zt_drop (lv' := [some (.ref k), some (.int v1), some (.int v2), some (.int v3), some (.int v4), some (.int v5), some (.int v6), none, none]) [true, true, true, true, true, true, true, false, false] rfl ?_
    exact h
  · replace h := h.2 q9
    refine zi_aload_n dX2_run_118 rfl rfl ?_
    refine zi_iload dX2_run_119 rfl ?_
    refine zi_iload dX2_run_121 rfl ?_
    refine zi_iload dX2_run_123 rfl ?_
    refine zi_iand dX2_run_125 ?_
    refine zi_if_eq (tgt := 133) dX2_run_126 (by decide) (fun q9 => ?_) (fun q9 => ?_)
    · replace h := h.1 q9
      refine zi_iconst (v := 0) dX2_run_133 (by decide) ?_
      refine zt_drop (lv' := [some (.ref k), some (.int v1), some (.int v2), some (.int v3), some (.int v4), some (.int v5), some (.int v6), none, none]) [true, true, true, true, true, true, true, false, false] rfl ?_
      exact h
    · replace h := h.2 q9
      refine zi_iconst (v := 1) dX2_run_129 (by decide) ?_
      refine zi_goto (tgt := 134) dX2_run_130 (by decide) ?_
      refine zt_drop (lv' := [some (.ref k), some (.int v1), some (.int v2), some (.int v3), some (.int v4), some (.int v5), some (.int v6), none, none]) [true, true, true, true, true, true, true, false, false] rfl ?_
      exact h
set_option maxHeartbeats 2000000 in
theorem b_X2_run_137 {k t : Nat} {v1 : Int32} {v2 : Int32} {v3 : Int32} {v4 : Int32} {v5 : Int32} {v6 : Int32} (hC : zCo k t) {X : Nat × (Nat → Int32)} {S : zS} {L : zL} {P : zS → zL → Prop} (h : ((¬ (0 : Int32) < 0 ∧ ¬ (v6 * (41 : Int32)) < 0 ∧ ¬ (41 : Int32) < 0) ∧ (0 : Int32).toNatClampNeg + (41 : Int32).toNatClampNeg ≤ 41 ∧ (v6 * (41 : Int32)).toNatClampNeg + (41 : Int32).toNatClampNeg ≤ 984) ∧ ∀ S1 : zS, S1 = zc S (k + 2) (va_cpy (S (k + 1)) (S (k + 2)) (0 : Int32).toNatClampNeg (v6 * (41 : Int32)).toNatClampNeg (41 : Int32).toNatClampNeg) → ∀ x1 : Int32, x1 = v6 + (1 : Int32) → zU mX2_run X S1 L 53 [some (.ref k), some (.int v1), some (.int v2), some (.int v3), some (.int v4), some (.int v5), some (.int x1), none, none] [] (zpv P)) : zU mX2_run X S L 137 [some (.ref k), some (.int v1), some (.int v2), some (.int v3), some (.int v4), some (.int v5), some (.int v6), none, none] [] (zpv P) := by
  obtain ⟨hkb, htb, -⟩ := hC.2.2.2.2.2
  refine zi_aload_n dX2_run_137 rfl rfl ?_
  refine zi_getr fl_X2_9 hC.1 rfl dX2_run_138 ?_
  refine zi_iconst (v := 0) dX2_run_141 (by decide) ?_
  refine zi_aload_n dX2_run_142 rfl rfl ?_
  refine zi_getr fl_X2_15 hC.1 rfl dX2_run_143 ?_
  refine zi_iload dX2_run_146 rfl ?_
  refine zi_bipush (v := 41) dX2_run_148 (by decide) ?_
  refine zi_imul dX2_run_150 ?_
  refine zi_bipush (v := 41) dX2_run_151 (by decide) ?_
  refine zi_copyi dX2_run_153 ly_X2_69 (by decide) (Nat.le_of_ble_eq_true rfl) hC.2.1 hC.2.2.1 h.1 ?_
  replace h := h.2
  refine zt_nmS (fun S1 eS1 => ?_)
  replace h := h S1 eS1
  obtain ⟨x1, ex1⟩ : ∃ y : Int32, y = v6 + (1 : Int32) := ⟨_, rfl⟩
  replace h := h x1 ex1
  refine zi_iinc (v := x1) dX2_run_156 rfl (by rw [ex1]; rfl) (by decide) rfl ?_
  refine zi_goto (tgt := 53) dX2_run_159 (by decide) ?_
  refine zt_drop (lv' := [some (.ref k), some (.int v1), some (.int v2), some (.int v3), some (.int v4), some (.int v5), some (.int x1), none, none]) [true, true, true, true, true, true, true, false, false] rfl ?_
  exact h
set_option maxHeartbeats 2000000 in
theorem b_X2_run_134 {k t : Nat} {v1 : Int32} {v2 : Int32} {v3 : Int32} {v4 : Int32} {v5 : Int32} {v6 : Int32} {w2 : Int32} {w1 : Int32} (hC : zCo k t) {X : Nat × (Nat → Int32)} {S : zS} {L : zL} {P : zS → zL → Prop} (h : zCv mX2_makeRounds S L [.ref k, .int w1, .int w2] (fun S1 L1 => zU mX2_run X S1 L1 137 [some (.ref k), some (.int v1), some (.int v2), some (.int v3), some (.int v4), some (.int v5), some (.int v6), none, none] [] (zpv P))) : zU mX2_run X S L 134 [some (.ref k), some (.int v1), some (.int v2), some (.int v3), some (.int v4), some (.int v5), some (.int v6), none, none] [.int w2, .int w1, .ref k] (zpv P) := by
  obtain ⟨hkb, htb, -⟩ := hC.2.2.2.2.2
  refine zt_Vv (As := [.int w1, .int w2]) dX2_run_134 lk_X2_65 hC.1 rfl ⟨⟨by decide, by decide⟩, rfl, rfl⟩ rfl ⟨Nat.le_of_ble_eq_true rfl, by (show zokL 113 [some (.ref k), some (.int v1), some (.int v2), some (.int v3), some (.int v4), some (.int v5), some (.int v6), none, none] = true; (simp [zokL, zok_i, zok_l, zok_r] <;> omega)), by (show List.all ([] : List Value) (zok 113) = true; (simp [zokL, zok_i, zok_l, zok_r] <;> omega))⟩ h (fun S1 L1 h => ?_)
  refine zt_drop (lv' := [some (.ref k), some (.int v1), some (.int v2), some (.int v3), some (.int v4), some (.int v5), some (.int v6), none, none]) [true, true, true, true, true, true, true, false, false] rfl ?_
  exact h
theorem e_X2_run {k : Nat} {last : Int32} {S : zS} {L : zL} {P : zS → zL → Prop} (h : ∀ X, zU mX2_run X S L 0 [some (.ref k), some (.int last), none, none, none, none, none, none, none] [] (zpv P)) : zCv mX2_run S L [.ref k, .int last] P := zCv_of pn_X2_run (Nat.le_of_ble_eq_true rfl) (fun X => zt_pad (j := 7) rfl (h X))
