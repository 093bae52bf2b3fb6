theorem zt_pad {M : zM} {X : Nat × (Nat → Int32)} {S : zS} {L : zL} {pc j : Nat} {lv lv' : List (Option Value)} {st : List Value} {post : zP} (h : lv ++ List.replicate j none = lv') (k : zU M X S L pc lv' st post) : zU M X S L pc lv st post := by
  refine zV_drop (fun i v hv => ?_) k
  rw [← h] at hv
  by_cases hi : i < lv.length
  · rw [List.getElem?_append_left hi] at hv; exact hv
  · rw [List.getElem?_append_right (by omega), List.getElem?_replicate] at hv
    split at hv <;> cases hv
/-- a Rows object at k, its arrays of n places behind it -/
def zRo (k n : Nat) : Prop := SK[k]? = some (.inr (5, [some (some (k + 1)), some (some (k + 2)), some (some (k + 3)), none])) ∧ SK[k + 1]? = some (.inl (0, n)) ∧ SK[k + 2]? = some (.inl (0, n)) ∧ SK[k + 3]? = some (.inl (0, n))
set_option maxHeartbeats 2000000 in
theorem b_X5_append_0 {k n : Nat} {a : Int32} {b : Int32} {c : Int32} (hk : zRo k n) {X : Nat × (Nat → Int32)} {S : zS} {L : zL} {P : Int32 → zS → zL → Prop} (h : (((S k 3) < 0 → P (-4 : Int32) S L) ∧ (¬ (S k 3) < 0 → (((S k 3) < (nI n) → vp_in (S k 3) n ∧ ∀ S1 : zS, S1 = zc S (k + 1) (upd (S (k + 1)) (S k 3).toNatClampNeg a) → vp_in (S1 k 3) n ∧ ∀ S2 : zS, S2 = zc S1 (k + 2) (upd (S1 (k + 2)) (S1 k 3).toNatClampNeg b) → vp_in (S2 k 3) n ∧ ∀ S3 : zS, S3 = zc S2 (k + 3) (upd (S2 (k + 3)) (S2 k 3).toNatClampNeg c) → ∀ S4 : zS, S4 = zc S3 k (upd (S3 k) 3 ((S3 k 3) + (1 : Int32))) → P (S4 k 3) S4 L) ∧ (¬ (S k 3) < (nI n) → P (-4 : Int32) S L))))) : zU mX5_append X S L 0 [some (.ref k), some (.int a), some (.int b), some (.int c)] [] (zpi P) := by
  refine zi_aload_n dX5_append_0 rfl rfl ?_
  refine zi_geti fl_X5_9 hk.1 rfl dX5_append_1 ?_
  refine zi_if_lt (tgt := 19) dX5_append_4 (by decide) (fun q9 => ?_) (fun q9 => ?_)
  · replace h := h.1 q9
    refine zi_bipush (v := -4) dX5_append_19 (by decide) ?_
    exact zt_iret dX5_append_21 rfl h
  · replace h := h.2 q9
    refine zi_aload_n dX5_append_7 rfl rfl ?_
    refine zi_geti fl_X5_9 hk.1 rfl dX5_append_8 ?_
    refine zi_aload_n dX5_append_11 rfl rfl ?_
    refine zi_getr fl_X5_21 hk.1 rfl dX5_append_12 ?_
    refine zi_alen (v := nI n) hk.2.1 rfl dX5_append_15 ?_
    refine zi_icmp_lt (tgt := 22) dX5_append_16 (by decide) (fun q9 => ?_) (fun q9 => ?_)
    · replace h := h.1 q9
      refine zi_aload_n dX5_append_22 rfl rfl ?_
      refine zi_getr fl_X5_21 hk.1 rfl dX5_append_23 ?_
      refine zi_aload_n dX5_append_26 rfl rfl ?_
      refine zi_geti fl_X5_9 hk.1 rfl dX5_append_27 ?_
      refine zi_iload_n dX5_append_30 rfl rfl ?_
      refine zi_iast hk.2.1 h.1 dX5_append_31 ?_
      replace h := h.2
      refine zt_nmS (fun S1 eS1 => ?_)
      replace h := h S1 eS1
      refine zi_aload_n dX5_append_32 rfl rfl ?_
      refine zi_getr fl_X5_25 hk.1 rfl dX5_append_33 ?_
      refine zi_aload_n dX5_append_36 rfl rfl ?_
      refine zi_geti fl_X5_9 hk.1 rfl dX5_append_37 ?_
      refine zi_iload_n dX5_append_40 rfl rfl ?_
      refine zi_iast hk.2.2.1 h.1 dX5_append_41 ?_
      replace h := h.2
      refine zt_nmS (fun S2 eS2 => ?_)
      replace h := h S2 eS2
      refine zi_aload_n dX5_append_42 rfl rfl ?_
      refine zi_getr fl_X5_28 hk.1 rfl dX5_append_43 ?_
      refine zi_aload_n dX5_append_46 rfl rfl ?_
      refine zi_geti fl_X5_9 hk.1 rfl dX5_append_47 ?_
      refine zi_iload_n dX5_append_50 rfl rfl ?_
      refine zi_iast hk.2.2.2 h.1 dX5_append_51 ?_
      replace h := h.2
      refine zt_nmS (fun S3 eS3 => ?_)
      replace h := h S3 eS3
      refine zi_aload_n dX5_append_52 rfl rfl ?_
      refine zi_dup dX5_append_53 rfl ?_
      refine zi_geti fl_X5_9 hk.1 rfl dX5_append_54 ?_
      refine zi_iconst (v := 1) dX5_append_57 (by decide) ?_
      refine zi_iadd dX5_append_58 ?_
      refine zi_puti fp_X5_9 hk.1 rfl dX5_append_59 ?_
      refine zt_nmS (fun S4 eS4 => ?_)
      replace h := h S4 eS4
      refine zi_aload_n dX5_append_62 rfl rfl ?_
      refine zi_geti fl_X5_9 hk.1 rfl dX5_append_63 ?_
      exact zt_iret dX5_append_66 rfl h
    · replace h := h.2 q9
      refine zi_bipush (v := -4) dX5_append_19 (by decide) ?_
      exact zt_iret dX5_append_21 rfl h
theorem e_X5_append {k : Nat} {a : Int32} {b : Int32} {c : Int32} {S : zS} {L : zL} {P : Int32 → zS → zL → Prop} (h : ∀ X, zU mX5_append X S L 0 [some (.ref k), some (.int a), some (.int b), some (.int c)] [] (zpi P)) : zCi mX5_append S L [.ref k, .int a, .int b, .int c] P := zCi_of pn_X5_append (Nat.le_of_ble_eq_true rfl) (fun X => zt_pad (j := 0) rfl (h X))
set_option maxHeartbeats 2000000 in
theorem b_X5_cell_0 {k n : Nat} {i : Int32} {col : Int32} (hk : zRo k n) {X : Nat × (Nat → Int32)} {S : zS} {L : zL} {P : Int32 → zS → zL → Prop} (h : ((i < 0 → P (-1 : Int32) S L) ∧ (¬ i < 0 → ((i < (S k 3) → ((¬ col = 0 → ((¬ col = (1 : Int32) → vp_in i n ∧ P (S (k + 3) i.toNatClampNeg) S L) ∧ (col = (1 : Int32) → vp_in i n ∧ P (S (k + 2) i.toNatClampNeg) S L))) ∧ (col = 0 → vp_in i n ∧ P (S (k + 1) i.toNatClampNeg) S L))) ∧ (¬ i < (S k 3) → P (-1 : Int32) S L))))) : zU mX5_cell X S L 0 [some (.ref k), some (.int i), some (.int col)] [] (zpi P) := by
  refine zi_iload_n dX5_cell_0 rfl rfl ?_
  refine zi_if_lt (tgt := 12) dX5_cell_1 (by decide) (fun q9 => ?_) (fun q9 => ?_)
  · replace h := h.1 q9
    refine zi_iconst (v := -1) dX5_cell_12 (by decide) ?_
    exact zt_iret dX5_cell_13 rfl h
  · replace h := h.2 q9
    refine zi_iload_n dX5_cell_4 rfl rfl ?_
    refine zi_aload_n dX5_cell_5 rfl rfl ?_
    refine zi_geti fl_X5_9 hk.1 rfl dX5_cell_6 ?_
    refine zi_icmp_lt (tgt := 14) dX5_cell_9 (by decide) (fun q9 => ?_) (fun q9 => ?_)
    · replace h := h.1 q9
      refine zi_iload_n dX5_cell_14 rfl rfl ?_
      refine zi_if_ne (tgt := 27) dX5_cell_15 (by decide) (fun q9 => ?_) (fun q9 => ?_)
      · replace h := h.1 q9
        refine zi_iload_n dX5_cell_27 rfl rfl ?_
        refine zi_iconst (v := 1) dX5_cell_28 (by decide) ?_
        refine zi_icmp_ne (tgt := 41) dX5_cell_29 (by decide) (fun q9 => ?_) (fun q9 => ?_)
        · replace h := h.1 q9
          refine zi_aload_n dX5_cell_41 rfl rfl ?_
          refine zi_getr fl_X5_28 hk.1 rfl dX5_cell_42 ?_
          refine zi_iload_n dX5_cell_45 rfl rfl ?_
          refine zi_iald hk.2.2.2 h.1 dX5_cell_46 ?_
          replace h := h.2
          exact zt_iret dX5_cell_47 rfl h
        · replace h := h.2 q9
          refine zi_aload_n dX5_cell_32 rfl rfl ?_
          refine zi_getr fl_X5_25 hk.1 rfl dX5_cell_33 ?_
          refine zi_iload_n dX5_cell_36 rfl rfl ?_
          refine zi_iald hk.2.2.1 h.1 dX5_cell_37 ?_
          replace h := h.2
          refine zi_goto (tgt := 47) dX5_cell_38 (by decide) ?_
          exact zt_iret dX5_cell_47 rfl h
      · replace h := h.2 q9
        refine zi_aload_n dX5_cell_18 rfl rfl ?_
        refine zi_getr fl_X5_21 hk.1 rfl dX5_cell_19 ?_
        refine zi_iload_n dX5_cell_22 rfl rfl ?_
        refine zi_iald hk.2.1 h.1 dX5_cell_23 ?_
        replace h := h.2
        refine zi_goto (tgt := 47) dX5_cell_24 (by decide) ?_
        exact zt_iret dX5_cell_47 rfl h
    · replace h := h.2 q9
      refine zi_iconst (v := -1) dX5_cell_12 (by decide) ?_
      exact zt_iret dX5_cell_13 rfl h
theorem e_X5_cell {k : Nat} {i : Int32} {col : Int32} {S : zS} {L : zL} {P : Int32 → zS → zL → Prop} (h : ∀ X, zU mX5_cell X S L 0 [some (.ref k), some (.int i), some (.int col)] [] (zpi P)) : zCi mX5_cell S L [.ref k, .int i, .int col] P := zCi_of pn_X5_cell (Nat.le_of_ble_eq_true rfl) (fun X => zt_pad (j := 0) rfl (h X))
set_option maxHeartbeats 2000000 in
theorem b_X5_setCell_0 {k n : Nat} {i : Int32} {col : Int32} {x : Int32} (hk : zRo k n) {X : Nat × (Nat → Int32)} {S : zS} {L : zL} {P : zS → zL → Prop} (h : ((i < 0 → P S L) ∧ (¬ i < 0 → ((i < (S k 3) → ((¬ col = 0 → ((¬ col = (1 : Int32) → vp_in i n ∧ ∀ S1 : zS, S1 = zc S (k + 3) (upd (S (k + 3)) i.toNatClampNeg x) → P S1 L) ∧ (col = (1 : Int32) → vp_in i n ∧ ∀ S1 : zS, S1 = zc S (k + 2) (upd (S (k + 2)) i.toNatClampNeg x) → P S1 L))) ∧ (col = 0 → vp_in i n ∧ ∀ S1 : zS, S1 = zc S (k + 1) (upd (S (k + 1)) i.toNatClampNeg x) → P S1 L))) ∧ (¬ i < (S k 3) → P S L))))) : zU mX5_setCell X S L 0 [some (.ref k), some (.int i), some (.int col), some (.int x)] [] (zpv P) := by
  refine zi_iload_n dX5_setCell_0 rfl rfl ?_
  refine zi_if_lt (tgt := 12) dX5_setCell_1 (by decide) (fun q9 => ?_) (fun q9 => ?_)
  · replace h := h.1 q9
    exact zt_vret dX5_setCell_12 rfl h
  · replace h := h.2 q9
    refine zi_iload_n dX5_setCell_4 rfl rfl ?_
    refine zi_aload_n dX5_setCell_5 rfl rfl ?_
    refine zi_geti fl_X5_9 hk.1 rfl dX5_setCell_6 ?_
    refine zi_icmp_lt (tgt := 13) dX5_setCell_9 (by decide) (fun q9 => ?_) (fun q9 => ?_)
    · replace h := h.1 q9
      refine zi_iload_n dX5_setCell_13 rfl rfl ?_
      refine zi_if_ne (tgt := 27) dX5_setCell_14 (by decide) (fun q9 => ?_) (fun q9 => ?_)
      · replace h := h.1 q9
        refine zi_iload_n dX5_setCell_27 rfl rfl ?_
        refine zi_iconst (v := 1) dX5_setCell_28 (by decide) ?_
        refine zi_icmp_ne (tgt := 42) dX5_setCell_29 (by decide) (fun q9 => ?_) (fun q9 => ?_)
        · replace h := h.1 q9
          refine zi_aload_n dX5_setCell_42 rfl rfl ?_
          refine zi_getr fl_X5_28 hk.1 rfl dX5_setCell_43 ?_
          refine zi_iload_n dX5_setCell_46 rfl rfl ?_
          refine zi_iload_n dX5_setCell_47 rfl rfl ?_
          refine zi_iast hk.2.2.2 h.1 dX5_setCell_48 ?_
          replace h := h.2
          refine zt_nmS (fun S1 eS1 => ?_)
          replace h := h S1 eS1
          exact zt_vret dX5_setCell_49 rfl h
        · replace h := h.2 q9
          refine zi_aload_n dX5_setCell_32 rfl rfl ?_
          refine zi_getr fl_X5_25 hk.1 rfl dX5_setCell_33 ?_
          refine zi_iload_n dX5_setCell_36 rfl rfl ?_
          refine zi_iload_n dX5_setCell_37 rfl rfl ?_
          refine zi_iast hk.2.2.1 h.1 dX5_setCell_38 ?_
          replace h := h.2
          refine zt_nmS (fun S1 eS1 => ?_)
          replace h := h S1 eS1
          refine zi_goto (tgt := 49) dX5_setCell_39 (by decide) ?_
          exact zt_vret dX5_setCell_49 rfl h
      · replace h := h.2 q9
        refine zi_aload_n dX5_setCell_17 rfl rfl ?_
        refine zi_getr fl_X5_21 hk.1 rfl dX5_setCell_18 ?_
        refine zi_iload_n dX5_setCell_21 rfl rfl ?_
        refine zi_iload_n dX5_setCell_22 rfl rfl ?_
        refine zi_iast hk.2.1 h.1 dX5_setCell_23 ?_
        replace h := h.2
        refine zt_nmS (fun S1 eS1 => ?_)
        replace h := h S1 eS1
        refine zi_goto (tgt := 49) dX5_setCell_24 (by decide) ?_
        exact zt_vret dX5_setCell_49 rfl h
    · replace h := h.2 q9
      exact zt_vret dX5_setCell_12 rfl h
theorem e_X5_setCell {k : Nat} {i : Int32} {col : Int32} {x : Int32} {S : zS} {L : zL} {P : zS → zL → Prop} (h : ∀ X, zU mX5_setCell X S L 0 [some (.ref k), some (.int i), some (.int col), some (.int x)] [] (zpv P)) : zCv mX5_setCell S L [.ref k, .int i, .int col, .int x] P := zCv_of pn_X5_setCell (Nat.le_of_ble_eq_true rfl) (fun X => zt_pad (j := 0) rfl (h X))
set_option maxHeartbeats 2000000 in
theorem b_X5_takeOut_0 {k n : Nat} {i : Int32} (hk : zRo k n) {X : Nat × (Nat → Int32)} {S : zS} {L : zL} {P : zS → zL → Prop} (h : ((i < 0 → P S L) ∧ (¬ i < 0 → ((i < (S k 3) → ∀ x1 : Int32, x1 = (((S k 3) - i) - (1 : Int32)) → ((¬ (i + (1 : Int32)) < 0 ∧ ¬ i < 0 ∧ ¬ x1 < 0) ∧ (i + (1 : Int32)).toNatClampNeg + x1.toNatClampNeg ≤ n ∧ i.toNatClampNeg + x1.toNatClampNeg ≤ n) ∧ ∀ S1 : zS, S1 = zc S (k + 1) (va_cpy (S (k + 1)) (S (k + 1)) (i + (1 : Int32)).toNatClampNeg i.toNatClampNeg x1.toNatClampNeg) → ((¬ (i + (1 : Int32)) < 0 ∧ ¬ i < 0 ∧ ¬ x1 < 0) ∧ (i + (1 : Int32)).toNatClampNeg + x1.toNatClampNeg ≤ n ∧ i.toNatClampNeg + x1.toNatClampNeg ≤ n) ∧ ∀ S2 : zS, S2 = zc S1 (k + 2) (va_cpy (S1 (k + 2)) (S1 (k + 2)) (i + (1 : Int32)).toNatClampNeg i.toNatClampNeg x1.toNatClampNeg) → ((¬ (i + (1 : Int32)) < 0 ∧ ¬ i < 0 ∧ ¬ x1 < 0) ∧ (i + (1 : Int32)).toNatClampNeg + x1.toNatClampNeg ≤ n ∧ i.toNatClampNeg + x1.toNatClampNeg ≤ n) ∧ ∀ S3 : zS, S3 = zc S2 (k + 3) (va_cpy (S2 (k + 3)) (S2 (k + 3)) (i + (1 : Int32)).toNatClampNeg i.toNatClampNeg x1.toNatClampNeg) → ∀ S4 : zS, S4 = zc S3 k (upd (S3 k) 3 ((S3 k 3) - (1 : Int32))) → P S4 L) ∧ (¬ i < (S k 3) → P S L))))) : zU mX5_takeOut X S L 0 [some (.ref k), some (.int i), none] [] (zpv P) := by
  refine zi_iload_n dX5_takeOut_0 rfl rfl ?_
  refine zi_if_lt (tgt := 12) dX5_takeOut_1 (by decide) (fun q9 => ?_) (fun q9 => ?_)
  · replace h := h.1 q9
    exact zt_vret dX5_takeOut_12 rfl h
  · replace h := h.2 q9
    refine zi_iload_n dX5_takeOut_4 rfl rfl ?_
    refine zi_aload_n dX5_takeOut_5 rfl rfl ?_
    refine zi_geti fl_X5_9 hk.1 rfl dX5_takeOut_6 ?_
    refine zi_icmp_lt (tgt := 13) dX5_takeOut_9 (by decide) (fun q9 => ?_) (fun q9 => ?_)
    · replace h := h.1 q9
      refine zi_aload_n dX5_takeOut_13 rfl rfl ?_
      refine zi_geti fl_X5_9 hk.1 rfl dX5_takeOut_14 ?_
      refine zi_iload_n dX5_takeOut_17 rfl rfl ?_
      refine zi_isub dX5_takeOut_18 ?_
      refine zi_iconst (v := 1) dX5_takeOut_19 (by decide) ?_
      refine zi_isub dX5_takeOut_20 ?_
      refine zt_nmi (fun x1 ex1 => ?_)
      replace h := h x1 ex1
      refine zi_istore_n dX5_takeOut_21 rfl (by decide) rfl ?_
      refine zi_aload_n dX5_takeOut_22 rfl rfl ?_
      refine zi_getr fl_X5_21 hk.1 rfl dX5_takeOut_23 ?_
      refine zi_iload_n dX5_takeOut_26 rfl rfl ?_
      refine zi_iconst (v := 1) dX5_takeOut_27 (by decide) ?_
      refine zi_iadd dX5_takeOut_28 ?_
      refine zi_aload_n dX5_takeOut_29 rfl rfl ?_
      refine zi_getr fl_X5_21 hk.1 rfl dX5_takeOut_30 ?_
      refine zi_iload_n dX5_takeOut_33 rfl rfl ?_
      refine zi_iload_n dX5_takeOut_34 rfl rfl ?_
      refine zi_copyi dX5_takeOut_35 ly_X5_31 (by decide) (Nat.le_of_ble_eq_true rfl) hk.2.1 hk.2.1 h.1 ?_
      replace h := h.2
      refine zt_nmS (fun S1 eS1 => ?_)
      replace h := h S1 eS1
      refine zi_aload_n dX5_takeOut_38 rfl rfl ?_
      refine zi_getr fl_X5_25 hk.1 rfl dX5_takeOut_39 ?_
      refine zi_iload_n dX5_takeOut_42 rfl rfl ?_
      refine zi_iconst (v := 1) dX5_takeOut_43 (by decide) ?_
      refine zi_iadd dX5_takeOut_44 ?_
      refine zi_aload_n dX5_takeOut_45 rfl rfl ?_
      refine zi_getr fl_X5_25 hk.1 rfl dX5_takeOut_46 ?_
      refine zi_iload_n dX5_takeOut_49 rfl rfl ?_
      refine zi_iload_n dX5_takeOut_50 rfl rfl ?_
      refine zi_copyi dX5_takeOut_51 ly_X5_31 (by decide) (Nat.le_of_ble_eq_true rfl) hk.2.2.1 hk.2.2.1 h.1 ?_
      replace h := h.2
      refine zt_nmS (fun S2 eS2 => ?_)
      replace h := h S2 eS2
      refine zi_aload_n dX5_takeOut_54 rfl rfl ?_
      refine zi_getr fl_X5_28 hk.1 rfl dX5_takeOut_55 ?_
      refine zi_iload_n dX5_takeOut_58 rfl rfl ?_
      refine zi_iconst (v := 1) dX5_takeOut_59 (by decide) ?_
      refine zi_iadd dX5_takeOut_60 ?_
      refine zi_aload_n dX5_takeOut_61 rfl rfl ?_
      refine zi_getr fl_X5_28 hk.1 rfl dX5_takeOut_62 ?_
      refine zi_iload_n dX5_takeOut_65 rfl rfl ?_
      refine zi_iload_n dX5_takeOut_66 rfl rfl ?_
      refine zi_copyi dX5_takeOut_67 ly_X5_31 (by decide) (Nat.le_of_ble_eq_true rfl) hk.2.2.2 hk.2.2.2 h.1 ?_
      replace h := h.2
      refine zt_nmS (fun S3 eS3 => ?_)
      replace h := h S3 eS3
      refine zi_aload_n dX5_takeOut_70 rfl rfl ?_
      refine zi_dup dX5_takeOut_71 rfl ?_
      refine zi_geti fl_X5_9 hk.1 rfl dX5_takeOut_72 ?_
      refine zi_iconst (v := 1) dX5_takeOut_75 (by decide) ?_
      refine zi_isub dX5_takeOut_76 ?_
      refine zi_puti fp_X5_9 hk.1 rfl dX5_takeOut_77 ?_
      refine zt_nmS (fun S4 eS4 => ?_)
      replace h := h S4 eS4
      exact zt_vret dX5_takeOut_80 rfl h
    · replace h := h.2 q9
      exact zt_vret dX5_takeOut_12 rfl h
theorem e_X5_takeOut {k : Nat} {i : Int32} {S : zS} {L : zL} {P : zS → zL → Prop} (h : ∀ X, zU mX5_takeOut X S L 0 [some (.ref k), some (.int i), none] [] (zpv P)) : zCv mX5_takeOut S L [.ref k, .int i] P := zCv_of pn_X5_takeOut (Nat.le_of_ble_eq_true rfl) (fun X => zt_pad (j := 1) rfl (h X))
set_option maxHeartbeats 2000000 in
theorem b_X5_become_0 {k n j m : Nat} (hk : zRo k n) (hj : zRo j m) {X : Nat × (Nat → Int32)} {S : zS} {L : zL} {P : zS → zL → Prop} (h : ∀ x1 : Int32, x1 = (if (nI n) < (S j 3) then (nI n) else (S j 3)) → ((¬ (0 : Int32) < 0 ∧ ¬ (0 : Int32) < 0 ∧ ¬ x1 < 0) ∧ (0 : Int32).toNatClampNeg + x1.toNatClampNeg ≤ m ∧ (0 : Int32).toNatClampNeg + x1.toNatClampNeg ≤ n) ∧ ∀ S1 : zS, S1 = zc S (k + 1) (va_cpy (S (j + 1)) (S (k + 1)) (0 : Int32).toNatClampNeg (0 : Int32).toNatClampNeg x1.toNatClampNeg) → ((¬ (0 : Int32) < 0 ∧ ¬ (0 : Int32) < 0 ∧ ¬ x1 < 0) ∧ (0 : Int32).toNatClampNeg + x1.toNatClampNeg ≤ m ∧ (0 : Int32).toNatClampNeg + x1.toNatClampNeg ≤ n) ∧ ∀ S2 : zS, S2 = zc S1 (k + 2) (va_cpy (S1 (j + 2)) (S1 (k + 2)) (0 : Int32).toNatClampNeg (0 : Int32).toNatClampNeg x1.toNatClampNeg) → ((¬ (0 : Int32) < 0 ∧ ¬ (0 : Int32) < 0 ∧ ¬ x1 < 0) ∧ (0 : Int32).toNatClampNeg + x1.toNatClampNeg ≤ m ∧ (0 : Int32).toNatClampNeg + x1.toNatClampNeg ≤ n) ∧ ∀ S3 : zS, S3 = zc S2 (k + 3) (va_cpy (S2 (j + 3)) (S2 (k + 3)) (0 : Int32).toNatClampNeg (0 : Int32).toNatClampNeg x1.toNatClampNeg) → ∀ S4 : zS, S4 = zc S3 k (upd (S3 k) 3 x1) → P S4 L) : zU mX5_become X S L 0 [some (.ref k), some (.ref j), none] [] (zpv P) := by
  refine zi_aload_n dX5_become_0 rfl rfl ?_
  refine zi_geti fl_X5_9 hj.1 rfl dX5_become_1 ?_
  refine zi_aload_n dX5_become_4 rfl rfl ?_
  refine zi_getr fl_X5_21 hk.1 rfl dX5_become_5 ?_
  refine zi_alen (v := nI n) hk.2.1 rfl dX5_become_8 ?_
  refine zi_mmin dX5_become_9 lm_X5_37 ⟨by decide, by decide, by decide⟩ (Nat.le_of_ble_eq_true rfl) ?_
  refine zt_nmi (fun x1 ex1 => ?_)
  replace h := h x1 ex1
  refine zi_istore_n dX5_become_12 rfl (by decide) rfl ?_
  refine zi_aload_n dX5_become_13 rfl rfl ?_
  refine zi_getr fl_X5_21 hj.1 rfl dX5_become_14 ?_
  refine zi_iconst (v := 0) dX5_become_17 (by decide) ?_
  refine zi_aload_n dX5_become_18 rfl rfl ?_
  refine zi_getr fl_X5_21 hk.1 rfl dX5_become_19 ?_
  refine zi_iconst (v := 0) dX5_become_22 (by decide) ?_
  refine zi_iload_n dX5_become_23 rfl rfl ?_
  refine zi_copyi dX5_become_24 ly_X5_31 (by decide) (Nat.le_of_ble_eq_true rfl) hj.2.1 hk.2.1 h.1 ?_
  replace h := h.2
  refine zt_nmS (fun S1 eS1 => ?_)
  replace h := h S1 eS1
  refine zi_aload_n dX5_become_27 rfl rfl ?_
  refine zi_getr fl_X5_25 hj.1 rfl dX5_become_28 ?_
  refine zi_iconst (v := 0) dX5_become_31 (by decide) ?_
  refine zi_aload_n dX5_become_32 rfl rfl ?_
  refine zi_getr fl_X5_25 hk.1 rfl dX5_become_33 ?_
  refine zi_iconst (v := 0) dX5_become_36 (by decide) ?_
  refine zi_iload_n dX5_become_37 rfl rfl ?_
  refine zi_copyi dX5_become_38 ly_X5_31 (by decide) (Nat.le_of_ble_eq_true rfl) hj.2.2.1 hk.2.2.1 h.1 ?_
  replace h := h.2
  refine zt_nmS (fun S2 eS2 => ?_)
  replace h := h S2 eS2
  refine zi_aload_n dX5_become_41 rfl rfl ?_
  refine zi_getr fl_X5_28 hj.1 rfl dX5_become_42 ?_
  refine zi_iconst (v := 0) dX5_become_45 (by decide) ?_
  refine zi_aload_n dX5_become_46 rfl rfl ?_
  refine zi_getr fl_X5_28 hk.1 rfl dX5_become_47 ?_
  refine zi_iconst (v := 0) dX5_become_50 (by decide) ?_
  refine zi_iload_n dX5_become_51 rfl rfl ?_
  refine zi_copyi dX5_become_52 ly_X5_31 (by decide) (Nat.le_of_ble_eq_true rfl) hj.2.2.2 hk.2.2.2 h.1 ?_
  replace h := h.2
  refine zt_nmS (fun S3 eS3 => ?_)
  replace h := h S3 eS3
  refine zi_aload_n dX5_become_55 rfl rfl ?_
  refine zi_iload_n dX5_become_56 rfl rfl ?_
  refine zi_puti fp_X5_9 hk.1 rfl dX5_become_57 ?_
  refine zt_nmS (fun S4 eS4 => ?_)
  replace h := h S4 eS4
  exact zt_vret dX5_become_60 rfl h
theorem e_X5_become {j : Nat} {k : Nat} {S : zS} {L : zL} {P : zS → zL → Prop} (h : ∀ X, zU mX5_become X S L 0 [some (.ref k), some (.ref j), none] [] (zpv P)) : zCv mX5_become S L [.ref k, .ref j] P := zCv_of pn_X5_become (Nat.le_of_ble_eq_true rfl) (fun X => zt_pad (j := 1) rfl (h X))
