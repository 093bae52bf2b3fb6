set_option maxHeartbeats 2000000 in
theorem b_X11_grows_0 {np : Nat} {month : Int32} {X : Nat × (Nat → Int32)} {S : zS} {L : zL} {P : zS → zL → Prop} (h : ∀ S1 : zS, S1 = zc S 72 (upd (S 72) 30 (0 : Int32)) → zU mX11_grows X S1 L 7 [some (.ref 72), some (.int month), some (.int (0 : Int32)), none, none] [] (zpv P)) : zU mX11_grows X S L 0 [some (.ref 72), some (.int month), none, none, none] [] (zpv P) := by
  refine zi_aload_n dX11_grows_0 rfl rfl ?_
  refine zi_iconst (v := 0) dX11_grows_1 (by decide) ?_
  refine zi_puti fp_X11_220 sk72 rfl dX11_grows_2 ?_
  refine zt_nmS (fun S1 eS1 => ?_)
  replace h := h S1 eS1
  refine zi_iconst (v := 0) dX11_grows_5 (by decide) ?_
  refine zi_istore_n dX11_grows_6 rfl (by decide) rfl ?_
  refine zt_drop (lv' := [some (.ref 72), some (.int month), some (.int (0 : Int32)), none, none]) [true, true, true, false, false] rfl ?_
  exact h
set_option maxHeartbeats 2000000 in
theorem b_X11_grows_7 {np : Nat} {v1 : Int32} {v2 : Int32} {X : Nat × (Nat → Int32)} {S : zS} {L : zL} {P : zS → zL → Prop} (h : (((S 72 6) ≤ v2 → zU mX11_grows X S L 128 [some (.ref 72), none, some (.int (0 : Int32)), none, none] [] (zpv P)) ∧ (¬ (S 72 6) ≤ v2 → vp_in v2 11 ∧ ∀ x1 : Int32, x1 = (S 79 v2.toNatClampNeg) → vp_in v2 11 ∧ ((¬ (S 78 v2.toNatClampNeg) = v1 → ∀ x2 : Int32, x2 = v2 + (1 : Int32) → zU mX11_grows X S L 7 [some (.ref 72), some (.int v1), some (.int x2), none, none] [] (zpv P)) ∧ ((S 78 v2.toNatClampNeg) = v1 → (((((S 72 22) >>> (v2 &&& 31)) &&& 1 = 1) → ∀ x2 : Int32, x2 = v2 + (1 : Int32) → zU mX11_grows X S L 7 [some (.ref 72), some (.int v1), some (.int x2), none, none] [] (zpv P)) ∧ (¬ (((S 72 22) >>> (v2 &&& 31)) &&& 1 = 1) → (S 72 2 = nI np ∧ np ≤ 8) ∧ (((pLv np (S 92) x1) → vp_in v2 11 ∧ ∀ y3 : Int32, y3 = (pWt (S 80 v2.toNatClampNeg)) → vp_in x1 8 ∧ vp_in x1 9 ∧ ((¬ (S 75 x1.toNatClampNeg) = 0 → vp_in x1 9 ∧ ((¬ (S 75 x1.toNatClampNeg) = (1 : Int32) → zU mX11_grows X S L 106 [some (.ref 72), some (.int v1), some (.int v2), some (.int x1), none] [.int y3, .int (S 88 x1.toNatClampNeg), .int x1, .ref 88] (zpv P)) ∧ ((S 75 x1.toNatClampNeg) = (1 : Int32) → zU mX11_grows X S L 106 [some (.ref 72), some (.int v1), some (.int v2), some (.int x1), none] [.int ((2 : Int32) * y3), .int (S 88 x1.toNatClampNeg), .int x1, .ref 88] (zpv P)))) ∧ ((S 75 x1.toNatClampNeg) = 0 → zU mX11_grows X S L 106 [some (.ref 72), some (.int v1), some (.int v2), some (.int x1), none] [.int ((y3 / (2 : Int32)) + (1 : Int32)), .int (S 88 x1.toNatClampNeg), .int x1, .ref 88] (zpv P)))) ∧ (¬ (pLv np (S 92) x1) → ∀ x2 : Int32, x2 = v2 + (1 : Int32) → zU mX11_grows X S L 7 [some (.ref 72), some (.int v1), some (.int x2), none, none] [] (zpv P)))))))))) : zU mX11_grows X S L 7 [some (.ref 72), some (.int v1), some (.int v2), none, none] [] (zpv P) := by
  refine zi_iload_n dX11_grows_7 rfl rfl ?_
  refine zi_aload_n dX11_grows_8 rfl rfl ?_
  refine zi_geti fl_X11_155 sk72 rfl dX11_grows_9 ?_
  refine zi_icmp_ge (tgt := 126) dX11_grows_12 (by decide) (fun q9 => ?_) (fun q9 => ?_)
  · replace h := h.1 q9
    refine zi_iconst (v := 0) dX11_grows_126 (by decide) ?_
    refine zi_istore_n dX11_grows_127 rfl (by decide) rfl ?_
    refine zt_drop (lv' := [some (.ref 72), none, some (.int (0 : Int32)), none, none]) [true, false, true, false, false] rfl ?_
    exact h
  · replace h := h.2 q9
    refine zi_aload_n dX11_grows_15 rfl rfl ?_
    refine zi_getr fl_X11_28 sk72 rfl dX11_grows_16 ?_
    refine zi_iload_n dX11_grows_19 rfl rfl ?_
    refine zi_iald sk79 h.1 dX11_grows_20 ?_
    replace h := h.2
    refine zt_nmi (fun x1 ex1 => ?_)
    replace h := h x1 ex1
    refine zi_istore_n dX11_grows_21 rfl (by decide) rfl ?_
    refine zi_aload_n dX11_grows_22 rfl rfl ?_
    refine zi_getr fl_X11_25 sk72 rfl dX11_grows_23 ?_
    refine zi_iload_n dX11_grows_26 rfl rfl ?_
    refine zi_iald sk78 h.1 dX11_grows_27 ?_
    replace h := h.2
    refine zi_iload_n dX11_grows_28 rfl rfl ?_
    refine zi_icmp_ne (tgt := 120) dX11_grows_29 (by decide) (fun q9 => ?_) (fun q9 => ?_)
    · replace h := h.1 q9
      obtain ⟨x2, ex2⟩ : ∃ y : Int32, y = v2 + (1 : Int32) := ⟨_, rfl⟩
      replace h := h x2 ex2
      refine zi_iinc (v := x2) dX11_grows_120 rfl (by rw [ex2]; rfl) (by decide) rfl ?_
      refine zi_goto (tgt := 7) dX11_grows_123 (by decide) ?_
      refine zt_drop (lv' := [some (.ref 72), some (.int v1), some (.int x2), none, none]) [true, true, true, false, false] rfl ?_
      exact h
    · replace h := h.2 q9
      refine zi_aload_n dX11_grows_32 rfl rfl ?_
      refine zi_geti fl_X11_211 sk72 rfl dX11_grows_33 ?_
      refine zi_iload_n dX11_grows_36 rfl rfl ?_
      refine zt_Si (As := [.int (S 72 22), .int v2]) dX11_grows_37 lk_X11_223 ⟨⟨by decide, by decide⟩, rfl, rfl⟩ rfl ⟨Nat.le_of_ble_eq_true rfl, rfl, rfl⟩ (isIn_s (P := fun y S9 L9 => y = (if (((S 72 22) >>> (v2 &&& 31)) &&& 1 = 1) then (1 : Int32) else 0) ∧ S = S9 ∧ L = L9) ⟨rfl, rfl, rfl⟩) (fun y1 S9 L9 q9 => ?_)
      obtain ⟨ey1, rfl, rfl⟩ := q9
      by_cases q9 : (((S 72 22) >>> (v2 &&& 31)) &&& 1 = 1)
      · replace h := h.1 q9
        rw [if_pos q9] at ey1
        subst ey1
        refine zi_if_ne (tgt := 120) dX11_grows_40 (by decide) (fun _ => ?_) (fun z9 => absurd z9 (by decide))
        obtain ⟨x2, ex2⟩ : ∃ y : Int32, y = v2 + (1 : Int32) := ⟨_, rfl⟩
        replace h := h x2 ex2
        refine zi_iinc (v := x2) dX11_grows_120 rfl (by rw [ex2]; rfl) (by decide) rfl ?_
        refine zi_goto (tgt := 7) dX11_grows_123 (by decide) ?_
        refine zt_drop (lv' := [some (.ref 72), some (.int v1), some (.int x2), none, none]) [true, true, true, false, false] rfl ?_
        exact h
      · replace h := h.2 q9
        rw [if_neg q9] at ey1
        subst ey1
        refine zi_if_ne (tgt := 120) dX11_grows_40 (by decide) (fun z9 => absurd rfl z9) (fun _ => ?_)
        refine zi_aload_n dX11_grows_43 rfl rfl ?_
        refine zi_iload_n dX11_grows_44 rfl rfl ?_
        refine zt_Vi (As := [.int x1]) dX11_grows_45 lk_X11_227 sk72 rfl ⟨⟨by decide, by decide⟩, rfl, rfl⟩ rfl ⟨Nat.le_of_ble_eq_true rfl, rfl, rfl⟩ (mlives_s h.1.1 h.1.2 (P := fun y S9 L9 => y = (if (pLv np (S 92) x1) then (1 : Int32) else 0) ∧ S = S9 ∧ L = L9) ⟨rfl, rfl, rfl⟩) (fun y2 S9 L9 q9 => ?_)
        obtain ⟨ey2, rfl, rfl⟩ := q9
        replace h := h.2
        by_cases q9 : (pLv np (S 92) x1)
        · replace h := h.1 q9
          rw [if_pos q9] at ey2
          subst ey2
          refine zi_if_eq (tgt := 120) dX11_grows_48 (by decide) (fun z9 => absurd z9 (by decide)) (fun _ => ?_)
          refine zi_aload_n dX11_grows_51 rfl rfl ?_
          refine zi_getr fl_X11_31 sk72 rfl dX11_grows_52 ?_
          refine zi_iload_n dX11_grows_55 rfl rfl ?_
          refine zi_iald sk80 h.1 dX11_grows_56 ?_
          replace h := h.2
          refine zt_Si (As := [.int (S 80 v2.toNatClampNeg)]) dX11_grows_57 lk_X11_230 ⟨⟨by decide, by decide⟩, rfl, rfl⟩ rfl ⟨Nat.le_of_ble_eq_true rfl, rfl, rfl⟩ (weightOf_s (P := fun y S9 L9 => y = (pWt (S 80 v2.toNatClampNeg)) ∧ S = S9 ∧ L = L9) ⟨rfl, rfl, rfl⟩) (fun y3 S9 L9 q9 => ?_)
          obtain ⟨ey3, rfl, rfl⟩ := q9
          replace h := h y3 ey3
          refine zi_istore dX11_grows_60 (by decide) rfl ?_
          refine zi_aload_n dX11_grows_62 rfl rfl ?_
          refine zi_getr fl_X11_55 sk72 rfl dX11_grows_63 ?_
          refine zi_iload_n dX11_grows_66 rfl rfl ?_
          refine zi_dup2_11 dX11_grows_67 rfl rfl ?_
          refine zi_iald sk88 h.1 dX11_grows_68 ?_
          replace h := h.2
          refine zi_aload_n dX11_grows_69 rfl rfl ?_
          refine zi_getr fl_X11_16 sk72 rfl dX11_grows_70 ?_
          refine zi_iload_n dX11_grows_73 rfl rfl ?_
          refine zi_iald sk75 h.1 dX11_grows_74 ?_
          replace h := h.2
          refine zi_if_ne (tgt := 87) dX11_grows_75 (by decide) (fun q9 => ?_) (fun q9 => ?_)
          · replace h := h.1 q9
            refine zi_aload_n dX11_grows_87 rfl rfl ?_
            refine zi_getr fl_X11_16 sk72 rfl dX11_grows_88 ?_
            refine zi_iload_n dX11_grows_91 rfl rfl ?_
            refine zi_iald sk75 h.1 dX11_grows_92 ?_
            replace h := h.2
            refine zi_iconst (v := 1) dX11_grows_93 (by decide) ?_
            refine zi_icmp_ne (tgt := 104) dX11_grows_94 (by decide) (fun q9 => ?_) (fun q9 => ?_)
            · replace h := h.1 q9
              refine zi_iload dX11_grows_104 rfl ?_
              refine zt_drop (lv' := [some (.ref 72), some (.int v1), some (.int v2), some (.int x1), none]) [true, true, true, true, false] rfl ?_
              exact h
            · replace h := h.2 q9
              refine zi_iconst (v := 2) dX11_grows_97 (by decide) ?_
              refine zi_iload dX11_grows_98 rfl ?_
              refine zi_imul dX11_grows_100 ?_
              refine zi_goto (tgt := 106) dX11_grows_101 (by decide) ?_
              refine zt_drop (lv' := [some (.ref 72), some (.int v1), some (.int v2), some (.int x1), none]) [true, true, true, true, false] rfl ?_
              exact h
          · replace h := h.2 q9
            refine zi_iload dX11_grows_78 rfl ?_
            refine zi_iconst (v := 2) dX11_grows_80 (by decide) ?_
            refine zi_idiv dX11_grows_81 (by decide) ?_
            refine zi_iconst (v := 1) dX11_grows_82 (by decide) ?_
            refine zi_iadd dX11_grows_83 ?_
            refine zi_goto (tgt := 106) dX11_grows_84 (by decide) ?_
            refine zt_drop (lv' := [some (.ref 72), some (.int v1), some (.int v2), some (.int x1), none]) [true, true, true, true, false] rfl ?_
            exact h
        · replace h := h.2 q9
          rw [if_neg q9] at ey2
          subst ey2
          refine zi_if_eq (tgt := 120) dX11_grows_48 (by decide) (fun _ => ?_) (fun z9 => absurd rfl z9)
          obtain ⟨x2, ex2⟩ : ∃ y : Int32, y = v2 + (1 : Int32) := ⟨_, rfl⟩
          replace h := h x2 ex2
          refine zi_iinc (v := x2) dX11_grows_120 rfl (by rw [ex2]; rfl) (by decide) rfl ?_
          refine zi_goto (tgt := 7) dX11_grows_123 (by decide) ?_
          refine zt_drop (lv' := [some (.ref 72), some (.int v1), some (.int x2), none, none]) [true, true, true, false, false] rfl ?_
          exact h
set_option maxHeartbeats 2000000 in
theorem b_X11_grows_128 {np : Nat} {v2 : Int32} {X : Nat × (Nat → Int32)} {S : zS} {L : zL} {P : zS → zL → Prop} (h : (((S 72 2) ≤ v2 → P S L) ∧ (¬ (S 72 2) ≤ v2 → vp_in v2 8 ∧ (S 72 2 = nI np ∧ np ≤ 8) ∧ (((pLv np (S 92) v2) → (((((S 72 30) >>> (v2 &&& 31)) &&& 1 = 1) → vp_in v2 8 ∧ ∀ S1 : zS, S1 = zc S 88 (upd (S 88) v2.toNatClampNeg ((S 88 v2.toNatClampNeg) - (0 : Int32))) → ∀ x1 : Int32, x1 = v2 + (1 : Int32) → zU mX11_grows X S1 L 128 [some (.ref 72), none, some (.int x1), none, none] [] (zpv P)) ∧ (¬ (((S 72 30) >>> (v2 &&& 31)) &&& 1 = 1) → vp_in v2 8 ∧ ((((1 : Int32) ≤ (S 88 v2.toNatClampNeg) ∧ (S 88 v2.toNatClampNeg) ≤ (S 72 10)) → vp_in v2 8 ∧ ∀ S1 : zS, S1 = zc S 88 (upd (S 88) v2.toNatClampNeg ((S 88 v2.toNatClampNeg) - (1 : Int32))) → ∀ x1 : Int32, x1 = v2 + (1 : Int32) → zU mX11_grows X S1 L 128 [some (.ref 72), none, some (.int x1), none, none] [] (zpv P)) ∧ (¬ ((1 : Int32) ≤ (S 88 v2.toNatClampNeg) ∧ (S 88 v2.toNatClampNeg) ≤ (S 72 10)) → vp_in v2 8 ∧ ∀ S1 : zS, S1 = zc S 88 (upd (S 88) v2.toNatClampNeg ((S 88 v2.toNatClampNeg) - (0 : Int32))) → ∀ x1 : Int32, x1 = v2 + (1 : Int32) → zU mX11_grows X S1 L 128 [some (.ref 72), none, some (.int x1), none, none] [] (zpv P)))))) ∧ (¬ (pLv np (S 92) v2) → vp_in v2 8 ∧ ∀ S1 : zS, S1 = zc S 88 (upd (S 88) v2.toNatClampNeg ((S 88 v2.toNatClampNeg) - (0 : Int32))) → ∀ x1 : Int32, x1 = v2 + (1 : Int32) → zU mX11_grows X S1 L 128 [some (.ref 72), none, some (.int x1), none, none] [] (zpv P)))))) : zU mX11_grows X S L 128 [some (.ref 72), none, some (.int v2), none, none] [] (zpv P) := by
  refine zi_iload_n dX11_grows_128 rfl rfl ?_
  refine zi_aload_n dX11_grows_129 rfl rfl ?_
  refine zi_geti fl_X11_152 sk72 rfl dX11_grows_130 ?_
  refine zi_icmp_ge (tgt := 192) dX11_grows_133 (by decide) (fun q9 => ?_) (fun q9 => ?_)
  · replace h := h.1 q9
    exact zt_vret dX11_grows_192 rfl h
  · replace h := h.2 q9
    refine zi_aload_n dX11_grows_136 rfl rfl ?_
    refine zi_getr fl_X11_55 sk72 rfl dX11_grows_137 ?_
    refine zi_iload_n dX11_grows_140 rfl rfl ?_
    refine zi_dup2_11 dX11_grows_141 rfl rfl ?_
    refine zi_iald sk88 h.1 dX11_grows_142 ?_
    replace h := h.2
    refine zi_aload_n dX11_grows_143 rfl rfl ?_
    refine zi_iload_n dX11_grows_144 rfl rfl ?_
    refine zt_Vi (As := [.int v2]) dX11_grows_145 lk_X11_227 sk72 rfl ⟨⟨by decide, by decide⟩, rfl, rfl⟩ rfl ⟨Nat.le_of_ble_eq_true rfl, rfl, rfl⟩ (mlives_s h.1.1 h.1.2 (P := fun y S9 L9 => y = (if (pLv np (S 92) v2) then (1 : Int32) else 0) ∧ S = S9 ∧ L = L9) ⟨rfl, rfl, rfl⟩) (fun y1 S9 L9 q9 => ?_)
    obtain ⟨ey1, rfl, rfl⟩ := q9
    replace h := h.2
    by_cases q9 : (pLv np (S 92) v2)
    · replace h := h.1 q9
      rw [if_pos q9] at ey1
      subst ey1
      refine zi_if_eq (tgt := 183) dX11_grows_148 (by decide) (fun z9 => absurd z9 (by decide)) (fun _ => ?_)
      refine zi_aload_n dX11_grows_151 rfl rfl ?_
      refine zi_geti fl_X11_220 sk72 rfl dX11_grows_152 ?_
      refine zi_iload_n dX11_grows_155 rfl rfl ?_
      refine zt_Si (As := [.int (S 72 30), .int v2]) dX11_grows_156 lk_X11_223 ⟨⟨by decide, by decide⟩, rfl, rfl⟩ rfl ⟨Nat.le_of_ble_eq_true rfl, rfl, rfl⟩ (isIn_s (P := fun y S9 L9 => y = (if (((S 72 30) >>> (v2 &&& 31)) &&& 1 = 1) then (1 : Int32) else 0) ∧ S = S9 ∧ L = L9) ⟨rfl, rfl, rfl⟩) (fun y2 S9 L9 q9 => ?_)
      obtain ⟨ey2, rfl, rfl⟩ := q9
      by_cases q9 : (((S 72 30) >>> (v2 &&& 31)) &&& 1 = 1)
      · replace h := h.1 q9
        rw [if_pos q9] at ey2
        subst ey2
        refine zi_if_ne (tgt := 183) dX11_grows_159 (by decide) (fun _ => ?_) (fun z9 => absurd z9 (by decide))
        refine zi_iconst (v := 0) dX11_grows_183 (by decide) ?_
        refine zi_isub dX11_grows_184 ?_
        refine zi_iast sk88 h.1 dX11_grows_185 ?_
        replace h := h.2
        refine zt_nmS (fun S1 eS1 => ?_)
        replace h := h S1 eS1
        obtain ⟨x1, ex1⟩ : ∃ y : Int32, y = v2 + (1 : Int32) := ⟨_, rfl⟩
        replace h := h x1 ex1
        refine zi_iinc (v := x1) dX11_grows_186 rfl (by rw [ex1]; rfl) (by decide) rfl ?_
        refine zi_goto (tgt := 128) dX11_grows_189 (by decide) ?_
        refine zt_drop (lv' := [some (.ref 72), none, some (.int x1), none, none]) [true, false, true, false, false] rfl ?_
        exact h
      · replace h := h.2 q9
        rw [if_neg q9] at ey2
        subst ey2
        refine zi_if_ne (tgt := 183) dX11_grows_159 (by decide) (fun z9 => absurd rfl z9) (fun _ => ?_)
        refine zi_aload_n dX11_grows_162 rfl rfl ?_
        refine zi_getr fl_X11_55 sk72 rfl dX11_grows_163 ?_
        refine zi_iload_n dX11_grows_166 rfl rfl ?_
        refine zi_iald sk88 h.1 dX11_grows_167 ?_
        replace h := h.2
        refine zi_iconst (v := 1) dX11_grows_168 (by decide) ?_
        refine zi_aload_n dX11_grows_169 rfl rfl ?_
        refine zi_geti fl_X11_131 sk72 rfl dX11_grows_170 ?_
        refine zt_Si (As := [.int (S 88 v2.toNatClampNeg), .int (1 : Int32), .int (S 72 10)]) dX11_grows_173 lk_X11_140 ⟨⟨by decide, by decide⟩, rfl, rfl⟩ rfl ⟨Nat.le_of_ble_eq_true rfl, rfl, rfl⟩ (in_s (P := fun y S9 L9 => y = (if ((1 : Int32) ≤ (S 88 v2.toNatClampNeg) ∧ (S 88 v2.toNatClampNeg) ≤ (S 72 10)) then (1 : Int32) else 0) ∧ S = S9 ∧ L = L9) ⟨rfl, rfl, rfl⟩) (fun y3 S9 L9 q9 => ?_)
        obtain ⟨ey3, rfl, rfl⟩ := q9
        by_cases q9 : ((1 : Int32) ≤ (S 88 v2.toNatClampNeg) ∧ (S 88 v2.toNatClampNeg) ≤ (S 72 10))
        · replace h := h.1 q9
          rw [if_pos q9] at ey3
          subst ey3
          refine zi_if_eq (tgt := 183) dX11_grows_176 (by decide) (fun z9 => absurd z9 (by decide)) (fun _ => ?_)
          refine zi_iconst (v := 1) dX11_grows_179 (by decide) ?_
          refine zi_goto (tgt := 184) dX11_grows_180 (by decide) ?_
          refine zi_isub dX11_grows_184 ?_
          refine zi_iast sk88 h.1 dX11_grows_185 ?_
          replace h := h.2
          refine zt_nmS (fun S1 eS1 => ?_)
          replace h := h S1 eS1
          obtain ⟨x1, ex1⟩ : ∃ y : Int32, y = v2 + (1 : Int32) := ⟨_, rfl⟩
          replace h := h x1 ex1
          refine zi_iinc (v := x1) dX11_grows_186 rfl (by rw [ex1]; rfl) (by decide) rfl ?_
          refine zi_goto (tgt := 128) dX11_grows_189 (by decide) ?_
          refine zt_drop (lv' := [some (.ref 72), none, some (.int x1), none, none]) [true, false, true, false, false] rfl ?_
          exact h
        · replace h := h.2 q9
          rw [if_neg q9] at ey3
          subst ey3
          refine zi_if_eq (tgt := 183) dX11_grows_176 (by decide) (fun _ => ?_) (fun z9 => absurd rfl z9)
          refine zi_iconst (v := 0) dX11_grows_183 (by decide) ?_
          refine zi_isub dX11_grows_184 ?_
          refine zi_iast sk88 h.1 dX11_grows_185 ?_
          replace h := h.2
          refine zt_nmS (fun S1 eS1 => ?_)
          replace h := h S1 eS1
          obtain ⟨x1, ex1⟩ : ∃ y : Int32, y = v2 + (1 : Int32) := ⟨_, rfl⟩
          replace h := h x1 ex1
          refine zi_iinc (v := x1) dX11_grows_186 rfl (by rw [ex1]; rfl) (by decide) rfl ?_
          refine zi_goto (tgt := 128) dX11_grows_189 (by decide) ?_
          refine zt_drop (lv' := [some (.ref 72), none, some (.int x1), none, none]) [true, false, true, false, false] rfl ?_
          exact h
    · replace h := h.2 q9
      rw [if_neg q9] at ey1
      subst ey1
      refine zi_if_eq (tgt := 183) dX11_grows_148 (by decide) (fun _ => ?_) (fun z9 => absurd rfl z9)
      refine zi_iconst (v := 0) dX11_grows_183 (by decide) ?_
      refine zi_isub dX11_grows_184 ?_
      refine zi_iast sk88 h.1 dX11_grows_185 ?_
      replace h := h.2
      refine zt_nmS (fun S1 eS1 => ?_)
      replace h := h S1 eS1
      obtain ⟨x1, ex1⟩ : ∃ y : Int32, y = v2 + (1 : Int32) := ⟨_, rfl⟩
      replace h := h x1 ex1
      refine zi_iinc (v := x1) dX11_grows_186 rfl (by rw [ex1]; rfl) (by decide) rfl ?_
      refine zi_goto (tgt := 128) dX11_grows_189 (by decide) ?_
      refine zt_drop (lv' := [some (.ref 72), none, some (.int x1), none, none]) [true, false, true, false, false] rfl ?_
      exact h
set_option maxHeartbeats 2000000 in
theorem b_X11_grows_106 {np : Nat} {v1 : Int32} {v2 : Int32} {v3 : Int32} {w3 : Int32} {w2 : Int32} {w1 : Int32} {X : Nat × (Nat → Int32)} {S : zS} {L : zL} {P : zS → zL → Prop} (h : vp_in w1 8 ∧ ∀ S1 : zS, S1 = zc S 88 (upd (S 88) w1.toNatClampNeg (w2 + w3)) → ∀ S2 : zS, S2 = zc S1 72 (upd (S1 72) 30 ((S1 72 30) ||| ((1 : Int32) <<< (v3 &&& 31)))) → ∀ x1 : Int32, x1 = v2 + (1 : Int32) → zU mX11_grows X S2 L 7 [some (.ref 72), some (.int v1), some (.int x1), none, none] [] (zpv P)) : zU mX11_grows X S L 106 [some (.ref 72), some (.int v1), some (.int v2), some (.int v3), none] [.int w3, .int w2, .int w1, .ref 88] (zpv P) := by
  refine zi_iadd dX11_grows_106 ?_
  refine zi_iast sk88 h.1 dX11_grows_107 ?_
  replace h := h.2
  refine zt_nmS (fun S1 eS1 => ?_)
  replace h := h S1 eS1
  refine zi_aload_n dX11_grows_108 rfl rfl ?_
  refine zi_dup dX11_grows_109 rfl ?_
  refine zi_geti fl_X11_220 sk72 rfl dX11_grows_110 ?_
  refine zi_iconst (v := 1) dX11_grows_113 (by decide) ?_
  refine zi_iload_n dX11_grows_114 rfl rfl ?_
  refine zi_ishl dX11_grows_115 ?_
  refine zi_ior dX11_grows_116 ?_
  refine zi_puti fp_X11_220 sk72 rfl dX11_grows_117 ?_
  refine zt_nmS (fun S2 eS2 => ?_)
  replace h := h S2 eS2
  obtain ⟨x1, ex1⟩ : ∃ y : Int32, y = v2 + (1 : Int32) := ⟨_, rfl⟩
  replace h := h x1 ex1
  refine zi_iinc (v := x1) dX11_grows_120 rfl (by rw [ex1]; rfl) (by decide) rfl ?_
  refine zi_goto (tgt := 7) dX11_grows_123 (by decide) ?_
  refine zt_drop (lv' := [some (.ref 72), some (.int v1), some (.int x1), none, none]) [true, true, true, false, false] rfl ?_
  exact h
theorem e_X11_grows {month : Int32} {S : zS} {L : zL} {P : zS → zL → Prop} (h : ∀ X, zU mX11_grows X S L 0 [some (.ref 72), some (.int month), none, none, none] [] (zpv P)) : zCv mX11_grows S L [.ref 72, .int month] P := zCv_of pn_X11_grows (Nat.le_of_ble_eq_true rfl) (fun X => zt_pad (j := 3) rfl (h X))
set_option maxHeartbeats 2000000 in
theorem b_X11_goes_0 {np : Nat} {month : Int32} {X : Nat × (Nat → Int32)} {S : zS} {L : zL} {P : zS → zL → Prop} (h : zU mX11_goes X S L 2 [some (.ref 72), some (.int month), some (.int (0 : Int32)), none, none] [] (zpv P)) : zU mX11_goes X S L 0 [some (.ref 72), some (.int month), none, none, none] [] (zpv P) := by
  refine zi_iconst (v := 0) dX11_goes_0 (by decide) ?_
  refine zi_istore_n dX11_goes_1 rfl (by decide) rfl ?_
  refine zt_drop (lv' := [some (.ref 72), some (.int month), some (.int (0 : Int32)), none, none]) [true, true, true, false, false] rfl ?_
  exact h
set_option maxHeartbeats 2000000 in
theorem b_X11_goes_2 {np : Nat} {v1 : Int32} {v2 : Int32} {X : Nat × (Nat → Int32)} {S : zS} {L : zL} {P : zS → zL → Prop} (h : (((S 72 16) ≤ v2 → P S L) ∧ (¬ (S 72 16) ≤ v2 → vp_in v2 8 ∧ ∀ x1 : Int32, x1 = (S 85 v2.toNatClampNeg) → vp_in v2 8 ∧ ((¬ (S 84 v2.toNatClampNeg) = v1 → ∀ x2 : Int32, x2 = v2 + (1 : Int32) → zU mX11_goes X S L 2 [some (.ref 72), some (.int v1), some (.int x2), none, none] [] (zpv P)) ∧ ((S 84 v2.toNatClampNeg) = v1 → (S 72 2 = nI np ∧ np ≤ 8) ∧ (((pLv np (S 92) x1) → vp_in x1 8 ∧ vp_in v2 8 ∧ (((S 89 x1.toNatClampNeg) = (S 86 v2.toNatClampNeg) → ∀ x2 : Int32, x2 = v2 + (1 : Int32) → zU mX11_goes X S L 2 [some (.ref 72), some (.int v1), some (.int x2), none, none] [] (zpv P)) ∧ (¬ (S 89 x1.toNatClampNeg) = (S 86 v2.toNatClampNeg) → vp_in x1 8 ∧ (((2 : Int32) ≤ (S 88 x1.toNatClampNeg) → zU mX11_goes X S L 70 [some (.ref 72), some (.int v1), some (.int v2), some (.int x1), none] [.int (2 : Int32)] (zpv P)) ∧ (¬ (2 : Int32) ≤ (S 88 x1.toNatClampNeg) → vp_in x1 8 ∧ zU mX11_goes X S L 70 [some (.ref 72), some (.int v1), some (.int v2), some (.int x1), none] [.int (S 88 x1.toNatClampNeg)] (zpv P)))))) ∧ (¬ (pLv np (S 92) x1) → ∀ x2 : Int32, x2 = v2 + (1 : Int32) → zU mX11_goes X S L 2 [some (.ref 72), some (.int v1), some (.int x2), none, none] [] (zpv P)))))))) : zU mX11_goes X S L 2 [some (.ref 72), some (.int v1), some (.int v2), none, none] [] (zpv P) := by
  refine zi_iload_n dX11_goes_2 rfl rfl ?_
  refine zi_aload_n dX11_goes_3 rfl rfl ?_
  refine zi_geti fl_X11_195 sk72 rfl dX11_goes_4 ?_
  refine zi_icmp_ge (tgt := 112) dX11_goes_7 (by decide) (fun q9 => ?_) (fun q9 => ?_)
  · replace h := h.1 q9
    exact zt_vret dX11_goes_112 rfl h
  · replace h := h.2 q9
    refine zi_aload_n dX11_goes_10 rfl rfl ?_
    refine zi_getr fl_X11_46 sk72 rfl dX11_goes_11 ?_
    refine zi_iload_n dX11_goes_14 rfl rfl ?_
    refine zi_iald sk85 h.1 dX11_goes_15 ?_
    replace h := h.2
    refine zt_nmi (fun x1 ex1 => ?_)
    replace h := h x1 ex1
    refine zi_istore_n dX11_goes_16 rfl (by decide) rfl ?_
    refine zi_aload_n dX11_goes_17 rfl rfl ?_
    refine zi_getr fl_X11_43 sk72 rfl dX11_goes_18 ?_
    refine zi_iload_n dX11_goes_21 rfl rfl ?_
    refine zi_iald sk84 h.1 dX11_goes_22 ?_
    replace h := h.2
    refine zi_iload_n dX11_goes_23 rfl rfl ?_
    refine zi_icmp_ne (tgt := 106) dX11_goes_24 (by decide) (fun q9 => ?_) (fun q9 => ?_)
    · replace h := h.1 q9
      obtain ⟨x2, ex2⟩ : ∃ y : Int32, y = v2 + (1 : Int32) := ⟨_, rfl⟩
      replace h := h x2 ex2
      refine zi_iinc (v := x2) dX11_goes_106 rfl (by rw [ex2]; rfl) (by decide) rfl ?_
      refine zi_goto (tgt := 2) dX11_goes_109 (by decide) ?_
      refine zt_drop (lv' := [some (.ref 72), some (.int v1), some (.int x2), none, none]) [true, true, true, false, false] rfl ?_
      exact h
    · replace h := h.2 q9
      refine zi_aload_n dX11_goes_27 rfl rfl ?_
      refine zi_iload_n dX11_goes_28 rfl rfl ?_
      refine zt_Vi (As := [.int x1]) dX11_goes_29 lk_X11_227 sk72 rfl ⟨⟨by decide, by decide⟩, rfl, rfl⟩ rfl ⟨Nat.le_of_ble_eq_true rfl, rfl, rfl⟩ (mlives_s h.1.1 h.1.2 (P := fun y S9 L9 => y = (if (pLv np (S 92) x1) then (1 : Int32) else 0) ∧ S = S9 ∧ L = L9) ⟨rfl, rfl, rfl⟩) (fun y1 S9 L9 q9 => ?_)
      obtain ⟨ey1, rfl, rfl⟩ := q9
      replace h := h.2
      by_cases q9 : (pLv np (S 92) x1)
      · replace h := h.1 q9
        rw [if_pos q9] at ey1
        subst ey1
        refine zi_if_eq (tgt := 106) dX11_goes_32 (by decide) (fun z9 => absurd z9 (by decide)) (fun _ => ?_)
        refine zi_aload_n dX11_goes_35 rfl rfl ?_
        refine zi_getr fl_X11_58 sk72 rfl dX11_goes_36 ?_
        refine zi_iload_n dX11_goes_39 rfl rfl ?_
        refine zi_iald sk89 h.1 dX11_goes_40 ?_
        replace h := h.2
        refine zi_aload_n dX11_goes_41 rfl rfl ?_
        refine zi_getr fl_X11_49 sk72 rfl dX11_goes_42 ?_
        refine zi_iload_n dX11_goes_45 rfl rfl ?_
        refine zi_iald sk86 h.1 dX11_goes_46 ?_
        replace h := h.2
        refine zi_icmp_eq (tgt := 106) dX11_goes_47 (by decide) (fun q9 => ?_) (fun q9 => ?_)
        · replace h := h.1 q9
          obtain ⟨x2, ex2⟩ : ∃ y : Int32, y = v2 + (1 : Int32) := ⟨_, rfl⟩
          replace h := h x2 ex2
          refine zi_iinc (v := x2) dX11_goes_106 rfl (by rw [ex2]; rfl) (by decide) rfl ?_
          refine zi_goto (tgt := 2) dX11_goes_109 (by decide) ?_
          refine zt_drop (lv' := [some (.ref 72), some (.int v1), some (.int x2), none, none]) [true, true, true, false, false] rfl ?_
          exact h
        · replace h := h.2 q9
          refine zi_aload_n dX11_goes_50 rfl rfl ?_
          refine zi_getr fl_X11_55 sk72 rfl dX11_goes_51 ?_
          refine zi_iload_n dX11_goes_54 rfl rfl ?_
          refine zi_iald sk88 h.1 dX11_goes_55 ?_
          replace h := h.2
          refine zi_iconst (v := 2) dX11_goes_56 (by decide) ?_
          refine zi_icmp_ge (tgt := 69) dX11_goes_57 (by decide) (fun q9 => ?_) (fun q9 => ?_)
          · replace h := h.1 q9
            refine zi_iconst (v := 2) dX11_goes_69 (by decide) ?_
            refine zt_drop (lv' := [some (.ref 72), some (.int v1), some (.int v2), some (.int x1), none]) [true, true, true, true, false] rfl ?_
            exact h
          · replace h := h.2 q9
            refine zi_aload_n dX11_goes_60 rfl rfl ?_
            refine zi_getr fl_X11_55 sk72 rfl dX11_goes_61 ?_
            refine zi_iload_n dX11_goes_64 rfl rfl ?_
            refine zi_iald sk88 h.1 dX11_goes_65 ?_
            replace h := h.2
            refine zi_goto (tgt := 70) dX11_goes_66 (by decide) ?_
            refine zt_drop (lv' := [some (.ref 72), some (.int v1), some (.int v2), some (.int x1), none]) [true, true, true, true, false] rfl ?_
            exact h
      · replace h := h.2 q9
        rw [if_neg q9] at ey1
        subst ey1
        refine zi_if_eq (tgt := 106) dX11_goes_32 (by decide) (fun _ => ?_) (fun z9 => absurd rfl z9)
        obtain ⟨x2, ex2⟩ : ∃ y : Int32, y = v2 + (1 : Int32) := ⟨_, rfl⟩
        replace h := h x2 ex2
        refine zi_iinc (v := x2) dX11_goes_106 rfl (by rw [ex2]; rfl) (by decide) rfl ?_
        refine zi_goto (tgt := 2) dX11_goes_109 (by decide) ?_
        refine zt_drop (lv' := [some (.ref 72), some (.int v1), some (.int x2), none, none]) [true, true, true, false, false] rfl ?_
        exact h
set_option maxHeartbeats 2000000 in
theorem b_X11_goes_70 {np : Nat} {v1 : Int32} {v2 : Int32} {v3 : Int32} {w0 : Int32} {X : Nat × (Nat → Int32)} {S : zS} {L : zL} {P : zS → zL → Prop} (h : vp_in v3 8 ∧ vp_in v3 8 ∧ ∀ S1 : zS, S1 = zc S 88 (upd (S 88) v3.toNatClampNeg ((S 88 v3.toNatClampNeg) - w0)) → ∀ S2 : zS, S2 = zc S1 72 (upd (S1 72) 31 ((S1 72 31) + w0)) → vp_in v2 8 ∧ vp_in v3 8 ∧ ∀ S3 : zS, S3 = zc S2 89 (upd (S2 89) v3.toNatClampNeg (S2 86 v2.toNatClampNeg)) → ∀ x1 : Int32, x1 = v2 + (1 : Int32) → zU mX11_goes X S3 L 2 [some (.ref 72), some (.int v1), some (.int x1), none, none] [] (zpv P)) : zU mX11_goes X S L 70 [some (.ref 72), some (.int v1), some (.int v2), some (.int v3), none] [.int w0] (zpv P) := by
  refine zi_istore dX11_goes_70 (by decide) rfl ?_
  refine zi_aload_n dX11_goes_72 rfl rfl ?_
  refine zi_getr fl_X11_55 sk72 rfl dX11_goes_73 ?_
  refine zi_iload_n dX11_goes_76 rfl rfl ?_
  refine zi_dup2_11 dX11_goes_77 rfl rfl ?_
  refine zi_iald sk88 h.1 dX11_goes_78 ?_
  replace h := h.2
  refine zi_iload dX11_goes_79 rfl ?_
  refine zi_isub dX11_goes_81 ?_
  refine zi_iast sk88 h.1 dX11_goes_82 ?_
  replace h := h.2
  refine zt_nmS (fun S1 eS1 => ?_)
  replace h := h S1 eS1
  refine zi_aload_n dX11_goes_83 rfl rfl ?_
  refine zi_dup dX11_goes_84 rfl ?_
  refine zi_geti fl_X11_233 sk72 rfl dX11_goes_85 ?_
  refine zi_iload dX11_goes_88 rfl ?_
  refine zi_iadd dX11_goes_90 ?_
  refine zi_puti fp_X11_233 sk72 rfl dX11_goes_91 ?_
  refine zt_nmS (fun S2 eS2 => ?_)
  replace h := h S2 eS2
  refine zi_aload_n dX11_goes_94 rfl rfl ?_
  refine zi_getr fl_X11_58 sk72 rfl dX11_goes_95 ?_
  refine zi_iload_n dX11_goes_98 rfl rfl ?_
  refine zi_aload_n dX11_goes_99 rfl rfl ?_
  refine zi_getr fl_X11_49 sk72 rfl dX11_goes_100 ?_
  refine zi_iload_n dX11_goes_103 rfl rfl ?_
  refine zi_iald sk86 h.1 dX11_goes_104 ?_
  replace h := h.2
  refine zi_iast sk89 h.1 dX11_goes_105 ?_
  replace h := h.2
  refine zt_nmS (fun S3 eS3 => ?_)
  replace h := h S3 eS3
  obtain ⟨x1, ex1⟩ : ∃ y : Int32, y = v2 + (1 : Int32) := ⟨_, rfl⟩
  replace h := h x1 ex1
  refine zi_iinc (v := x1) dX11_goes_106 rfl (by rw [ex1]; rfl) (by decide) rfl ?_
  refine zi_goto (tgt := 2) dX11_goes_109 (by decide) ?_
  refine zt_drop (lv' := [some (.ref 72), some (.int v1), some (.int x1), none, none]) [true, true, true, false, false] rfl ?_
  exact h
theorem e_X11_goes {month : Int32} {S : zS} {L : zL} {P : zS → zL → Prop} (h : ∀ X, zU mX11_goes X S L 0 [some (.ref 72), some (.int month), none, none, none] [] (zpv P)) : zCv mX11_goes S L [.ref 72, .int month] P := zCv_of pn_X11_goes (Nat.le_of_ble_eq_true rfl) (fun X => zt_pad (j := 3) rfl (h X))
set_option maxHeartbeats 2000000 in
theorem b_X11_shears_0 {who : Int32} {month : Int32} {X : Nat × (Nat → Int32)} {S : zS} {L : zL} {P : zS → zL → Prop} (h : vp_in who 8 ∧ ∀ x1 : Int32, x1 = (S 89 who.toNatClampNeg) → vp_in x1 4 ∧ vp_in who 8 ∧ vp_in x1 4 ∧ ∀ S1 : zS, S1 = zc S 93 (upd (S 93) x1.toNatClampNeg ((S 93 x1.toNatClampNeg) + (S 88 who.toNatClampNeg))) → vp_in x1 4 ∧ vp_in who 8 ∧ vp_in who 9 ∧ ((¬ (S1 75 who.toNatClampNeg) = 0 → vp_in who 9 ∧ ((¬ (S1 75 who.toNatClampNeg) = (1 : Int32) → zU mX11_shears X S1 L 63 [some (.ref 72), some (.int who), some (.int month), none] [.int (2 : Int32), .int (S1 88 who.toNatClampNeg), .int (S1 94 x1.toNatClampNeg), .int x1, .ref 94] (zpv P)) ∧ ((S1 75 who.toNatClampNeg) = (1 : Int32) → zU mX11_shears X S1 L 63 [some (.ref 72), some (.int who), some (.int month), none] [.int (1 : Int32), .int (S1 88 who.toNatClampNeg), .int (S1 94 x1.toNatClampNeg), .int x1, .ref 94] (zpv P)))) ∧ ((S1 75 who.toNatClampNeg) = 0 → zU mX11_shears X S1 L 63 [some (.ref 72), some (.int who), some (.int month), none] [.int (3 : Int32), .int (S1 88 who.toNatClampNeg), .int (S1 94 x1.toNatClampNeg), .int x1, .ref 94] (zpv P)))) : zU mX11_shears X S L 0 [some (.ref 72), some (.int who), some (.int month), none] [] (zpv P) := by
  refine zi_aload_n dX11_shears_0 rfl rfl ?_
  refine zi_getr fl_X11_58 sk72 rfl dX11_shears_1 ?_
  refine zi_iload_n dX11_shears_4 rfl rfl ?_
  refine zi_iald sk89 h.1 dX11_shears_5 ?_
  replace h := h.2
  refine zt_nmi (fun x1 ex1 => ?_)
  replace h := h x1 ex1
  refine zi_istore_n dX11_shears_6 rfl (by decide) rfl ?_
  refine zi_aload_n dX11_shears_7 rfl rfl ?_
  refine zi_getr fl_X11_70 sk72 rfl dX11_shears_8 ?_
  refine zi_iload_n dX11_shears_11 rfl rfl ?_
  refine zi_dup2_11 dX11_shears_12 rfl rfl ?_
  refine zi_iald sk93 h.1 dX11_shears_13 ?_
  replace h := h.2
  refine zi_aload_n dX11_shears_14 rfl rfl ?_
  refine zi_getr fl_X11_55 sk72 rfl dX11_shears_15 ?_
  refine zi_iload_n dX11_shears_18 rfl rfl ?_
  refine zi_iald sk88 h.1 dX11_shears_19 ?_
  replace h := h.2
  refine zi_iadd dX11_shears_20 ?_
  refine zi_iast sk93 h.1 dX11_shears_21 ?_
  replace h := h.2
  refine zt_nmS (fun S1 eS1 => ?_)
  replace h := h S1 eS1
  refine zi_aload_n dX11_shears_22 rfl rfl ?_
  refine zi_getr fl_X11_73 sk72 rfl dX11_shears_23 ?_
  refine zi_iload_n dX11_shears_26 rfl rfl ?_
  refine zi_dup2_11 dX11_shears_27 rfl rfl ?_
  refine zi_iald sk94 h.1 dX11_shears_28 ?_
  replace h := h.2
  refine zi_aload_n dX11_shears_29 rfl rfl ?_
  refine zi_getr fl_X11_55 sk72 rfl dX11_shears_30 ?_
  refine zi_iload_n dX11_shears_33 rfl rfl ?_
  refine zi_iald sk88 h.1 dX11_shears_34 ?_
  replace h := h.2
  refine zi_aload_n dX11_shears_35 rfl rfl ?_
  refine zi_getr fl_X11_16 sk72 rfl dX11_shears_36 ?_
  refine zi_iload_n dX11_shears_39 rfl rfl ?_
  refine zi_iald sk75 h.1 dX11_shears_40 ?_
  replace h := h.2
  refine zi_if_ne (tgt := 48) dX11_shears_41 (by decide) (fun q9 => ?_) (fun q9 => ?_)
  · replace h := h.1 q9
    refine zi_aload_n dX11_shears_48 rfl rfl ?_
    refine zi_getr fl_X11_16 sk72 rfl dX11_shears_49 ?_
    refine zi_iload_n dX11_shears_52 rfl rfl ?_
    refine zi_iald sk75 h.1 dX11_shears_53 ?_
    replace h := h.2
    refine zi_iconst (v := 1) dX11_shears_54 (by decide) ?_
    refine zi_icmp_ne (tgt := 62) dX11_shears_55 (by decide) (fun q9 => ?_) (fun q9 => ?_)
    · replace h := h.1 q9
      refine zi_iconst (v := 2) dX11_shears_62 (by decide) ?_
      refine zt_drop (lv' := [some (.ref 72), some (.int who), some (.int month), none]) [true, true, true, false] rfl ?_
      exact h
    · replace h := h.2 q9
      refine zi_iconst (v := 1) dX11_shears_58 (by decide) ?_
      refine zi_goto (tgt := 63) dX11_shears_59 (by decide) ?_
      refine zt_drop (lv' := [some (.ref 72), some (.int who), some (.int month), none]) [true, true, true, false] rfl ?_
      exact h
  · replace h := h.2 q9
    refine zi_iconst (v := 3) dX11_shears_44 (by decide) ?_
    refine zi_goto (tgt := 63) dX11_shears_45 (by decide) ?_
    refine zt_drop (lv' := [some (.ref 72), some (.int who), some (.int month), none]) [true, true, true, false] rfl ?_
    exact h
set_option maxHeartbeats 2000000 in
theorem b_X11_shears_63 {v1 : Int32} {v2 : Int32} {w4 : Int32} {w3 : Int32} {w2 : Int32} {w1 : Int32} {X : Nat × (Nat → Int32)} {S : zS} {L : zL} {P : zS → zL → Prop} (h : vp_in w1 4 ∧ ∀ S1 : zS, S1 = zc S 94 (upd (S 94) w1.toNatClampNeg (w2 + (w3 * w4))) → vp_in v1 8 ∧ vp_in v1 8 ∧ vp_in v1 8 ∧ ∀ S2 : zS, S2 = zc S1 91 (upd (S1 91) v1.toNatClampNeg ((S1 91 v1.toNatClampNeg) + (S1 88 v1.toNatClampNeg))) → vp_in v1 8 ∧ vp_in v1 8 ∧ ∀ S3 : zS, S3 = zc S2 90 (upd (S2 90) v1.toNatClampNeg ((S2 90 v1.toNatClampNeg) + (1 : Int32))) → (((((S3 72 24) >>> (v2 &&& 31)) &&& 1 = 1) → vp_in v1 8 ∧ (((S3 88 v1.toNatClampNeg) < (S3 72 11) → zU mX11_shears X S3 L 124 [some (.ref 72), some (.int v1), some (.int v2), none] [.int v1, .ref 92] (zpv P)) ∧ (¬ (S3 88 v1.toNatClampNeg) < (S3 72 11) → zU mX11_shears X S3 L 125 [some (.ref 72), some (.int v1), some (.int v2), none] [.int v2, .int v1, .ref 92] (zpv P)))) ∧ (¬ (((S3 72 24) >>> (v2 &&& 31)) &&& 1 = 1) → zU mX11_shears X S3 L 124 [some (.ref 72), some (.int v1), some (.int v2), none] [.int v1, .ref 92] (zpv P)))) : zU mX11_shears X S L 63 [some (.ref 72), some (.int v1), some (.int v2), none] [.int w4, .int w3, .int w2, .int w1, .ref 94] (zpv P) := by
  refine zi_imul dX11_shears_63 ?_
  refine zi_iadd dX11_shears_64 ?_
  refine zi_iast sk94 h.1 dX11_shears_65 ?_
  replace h := h.2
  refine zt_nmS (fun S1 eS1 => ?_)
  replace h := h S1 eS1
  refine zi_aload_n dX11_shears_66 rfl rfl ?_
  refine zi_getr fl_X11_64 sk72 rfl dX11_shears_67 ?_
  refine zi_iload_n dX11_shears_70 rfl rfl ?_
  refine zi_dup2_11 dX11_shears_71 rfl rfl ?_
  refine zi_iald sk91 h.1 dX11_shears_72 ?_
  replace h := h.2
  refine zi_aload_n dX11_shears_73 rfl rfl ?_
  refine zi_getr fl_X11_55 sk72 rfl dX11_shears_74 ?_
  refine zi_iload_n dX11_shears_77 rfl rfl ?_
  refine zi_iald sk88 h.1 dX11_shears_78 ?_
  replace h := h.2
  refine zi_iadd dX11_shears_79 ?_
  refine zi_iast sk91 h.1 dX11_shears_80 ?_
  replace h := h.2
  refine zt_nmS (fun S2 eS2 => ?_)
  replace h := h S2 eS2
  refine zi_aload_n dX11_shears_81 rfl rfl ?_
  refine zi_getr fl_X11_61 sk72 rfl dX11_shears_82 ?_
  refine zi_iload_n dX11_shears_85 rfl rfl ?_
  refine zi_dup2_11 dX11_shears_86 rfl rfl ?_
  refine zi_iald sk90 h.1 dX11_shears_87 ?_
  replace h := h.2
  refine zi_iconst (v := 1) dX11_shears_88 (by decide) ?_
  refine zi_iadd dX11_shears_89 ?_
  refine zi_iast sk90 h.1 dX11_shears_90 ?_
  replace h := h.2
  refine zt_nmS (fun S3 eS3 => ?_)
  replace h := h S3 eS3
  refine zi_aload_n dX11_shears_91 rfl rfl ?_
  refine zi_getr fl_X11_67 sk72 rfl dX11_shears_92 ?_
  refine zi_iload_n dX11_shears_95 rfl rfl ?_
  refine zi_aload_n dX11_shears_96 rfl rfl ?_
  refine zi_geti fl_X11_217 sk72 rfl dX11_shears_97 ?_
  refine zi_iload_n dX11_shears_100 rfl rfl ?_
  refine zt_Si (As := [.int (S3 72 24), .int v2]) dX11_shears_101 lk_X11_223 ⟨⟨by decide, by decide⟩, rfl, rfl⟩ rfl ⟨Nat.le_of_ble_eq_true rfl, rfl, rfl⟩ (isIn_s (P := fun y S9 L9 => y = (if (((S3 72 24) >>> (v2 &&& 31)) &&& 1 = 1) then (1 : Int32) else 0) ∧ S3 = S9 ∧ L = L9) ⟨rfl, rfl, rfl⟩) (fun y1 S9 L9 q9 => ?_)
  obtain ⟨ey1, rfl, rfl⟩ := q9
  by_cases q9 : (((S3 72 24) >>> (v2 &&& 31)) &&& 1 = 1)
  · replace h := h.1 q9
    rw [if_pos q9] at ey1
    subst ey1
    refine zi_if_eq (tgt := 124) dX11_shears_104 (by decide) (fun z9 => absurd z9 (by decide)) (fun _ => ?_)
    refine zi_aload_n dX11_shears_107 rfl rfl ?_
    refine zi_getr fl_X11_55 sk72 rfl dX11_shears_108 ?_
    refine zi_iload_n dX11_shears_111 rfl rfl ?_
    refine zi_iald sk88 h.1 dX11_shears_112 ?_
    replace h := h.2
    refine zi_aload_n dX11_shears_113 rfl rfl ?_
    refine zi_geti fl_X11_135 sk72 rfl dX11_shears_114 ?_
    refine zi_icmp_lt (tgt := 124) dX11_shears_117 (by decide) (fun q9 => ?_) (fun q9 => ?_)
    · replace h := h.1 q9
      refine zt_drop (lv' := [some (.ref 72), some (.int v1), some (.int v2), none]) [true, true, true, false] rfl ?_
      exact h
    · replace h := h.2 q9
      refine zi_iload_n dX11_shears_120 rfl rfl ?_
      refine zi_goto (tgt := 125) dX11_shears_121 (by decide) ?_
      refine zt_drop (lv' := [some (.ref 72), some (.int v1), some (.int v2), none]) [true, true, true, false] rfl ?_
      exact h
  · replace h := h.2 q9
    rw [if_neg q9] at ey1
    subst ey1
    refine zi_if_eq (tgt := 124) dX11_shears_104 (by decide) (fun _ => ?_) (fun z9 => absurd rfl z9)
    refine zt_drop (lv' := [some (.ref 72), some (.int v1), some (.int v2), none]) [true, true, true, false] rfl ?_
    exact h
set_option maxHeartbeats 2000000 in
theorem b_X11_shears_124 {v1 : Int32} {v2 : Int32} {w1 : Int32} {X : Nat × (Nat → Int32)} {S : zS} {L : zL} {P : zS → zL → Prop} (h : zU mX11_shears X S L 125 [some (.ref 72), some (.int v1), some (.int v2), none] [.int (-1 : Int32), .int w1, .ref 92] (zpv P)) : zU mX11_shears X S L 124 [some (.ref 72), some (.int v1), some (.int v2), none] [.int w1, .ref 92] (zpv P) := by
  refine zi_iconst (v := -1) dX11_shears_124 (by decide) ?_
  refine zt_drop (lv' := [some (.ref 72), some (.int v1), some (.int v2), none]) [true, true, true, false] rfl ?_
  exact h
set_option maxHeartbeats 2000000 in
theorem b_X11_shears_125 {v1 : Int32} {v2 : Int32} {w2 : Int32} {w1 : Int32} {X : Nat × (Nat → Int32)} {S : zS} {L : zL} {P : zS → zL → Prop} (h : vp_in w1 8 ∧ ∀ S1 : zS, S1 = zc S 92 (upd (S 92) w1.toNatClampNeg w2) → vp_in v1 8 ∧ ∀ S2 : zS, S2 = zc S1 88 (upd (S1 88) v1.toNatClampNeg (0 : Int32)) → ((¬ (S2 72 32) = (-1 : Int32) → zU mX11_shears X S2 L 150 [some (.ref 72), none, some (.int v2), none] [.int (S2 72 33), .ref 72] (zpv P)) ∧ ((S2 72 32) = (-1 : Int32) → zU mX11_shears X S2 L 150 [some (.ref 72), none, some (.int v2), none] [.int v1, .ref 72] (zpv P)))) : zU mX11_shears X S L 125 [some (.ref 72), some (.int v1), some (.int v2), none] [.int w2, .int w1, .ref 92] (zpv P) := by
  refine zi_iast sk92 h.1 dX11_shears_125 ?_
  replace h := h.2
  refine zt_nmS (fun S1 eS1 => ?_)
  replace h := h S1 eS1
  refine zi_aload_n dX11_shears_126 rfl rfl ?_
  refine zi_getr fl_X11_55 sk72 rfl dX11_shears_127 ?_
  refine zi_iload_n dX11_shears_130 rfl rfl ?_
  refine zi_iconst (v := 0) dX11_shears_131 (by decide) ?_
  refine zi_iast sk88 h.1 dX11_shears_132 ?_
  replace h := h.2
  refine zt_nmS (fun S2 eS2 => ?_)
  replace h := h S2 eS2
  refine zi_aload_n dX11_shears_133 rfl rfl ?_
  refine zi_aload_n dX11_shears_134 rfl rfl ?_
  refine zi_geti fl_X11_236 sk72 rfl dX11_shears_135 ?_
  refine zi_iconst (v := -1) dX11_shears_138 (by decide) ?_
  refine zi_icmp_ne (tgt := 146) dX11_shears_139 (by decide) (fun q9 => ?_) (fun q9 => ?_)
  · replace h := h.1 q9
    refine zi_aload_n dX11_shears_146 rfl rfl ?_
    refine zi_geti fl_X11_239 sk72 rfl dX11_shears_147 ?_
    refine zt_drop (lv' := [some (.ref 72), none, some (.int v2), none]) [true, false, true, false] rfl ?_
    exact h
  · replace h := h.2 q9
    refine zi_iload_n dX11_shears_142 rfl rfl ?_
    refine zi_goto (tgt := 150) dX11_shears_143 (by decide) ?_
    refine zt_drop (lv' := [some (.ref 72), none, some (.int v2), none]) [true, false, true, false] rfl ?_
    exact h
set_option maxHeartbeats 2000000 in
theorem b_X11_shears_150 {v2 : Int32} {w1 : Int32} {X : Nat × (Nat → Int32)} {S : zS} {L : zL} {P : zS → zL → Prop} (h : ∀ S1 : zS, S1 = zc S 72 (upd (S 72) 33 w1) → ((¬ (S1 72 32) = (-1 : Int32) → ∀ S2 : zS, S2 = zc S1 72 (upd (S1 72) 32 (S1 72 32)) → P S2 L) ∧ ((S1 72 32) = (-1 : Int32) → ∀ S2 : zS, S2 = zc S1 72 (upd (S1 72) 32 v2) → P S2 L))) : zU mX11_shears X S L 150 [some (.ref 72), none, some (.int v2), none] [.int w1, .ref 72] (zpv P) := by
  refine zi_puti fp_X11_239 sk72 rfl dX11_shears_150 ?_
  refine zt_nmS (fun S1 eS1 => ?_)
  replace h := h S1 eS1
  refine zi_aload_n dX11_shears_153 rfl rfl ?_
  refine zi_aload_n dX11_shears_154 rfl rfl ?_
  refine zi_geti fl_X11_236 sk72 rfl dX11_shears_155 ?_
  refine zi_iconst (v := -1) dX11_shears_158 (by decide) ?_
  refine zi_icmp_ne (tgt := 166) dX11_shears_159 (by decide) (fun q9 => ?_) (fun q9 => ?_)
  · replace h := h.1 q9
    refine zi_aload_n dX11_shears_166 rfl rfl ?_
    refine zi_geti fl_X11_236 sk72 rfl dX11_shears_167 ?_
    refine zi_puti fp_X11_236 sk72 rfl dX11_shears_170 ?_
    refine zt_nmS (fun S2 eS2 => ?_)
    replace h := h S2 eS2
    exact zt_vret dX11_shears_173 rfl h
  · replace h := h.2 q9
    refine zi_iload_n dX11_shears_162 rfl rfl ?_
    refine zi_goto (tgt := 170) dX11_shears_163 (by decide) ?_
    refine zi_puti fp_X11_236 sk72 rfl dX11_shears_170 ?_
    refine zt_nmS (fun S2 eS2 => ?_)
    replace h := h S2 eS2
    exact zt_vret dX11_shears_173 rfl h
theorem e_X11_shears {who : Int32} {month : Int32} {S : zS} {L : zL} {P : zS → zL → Prop} (h : ∀ X, zU mX11_shears X S L 0 [some (.ref 72), some (.int who), some (.int month), none] [] (zpv P)) : zCv mX11_shears S L [.ref 72, .int who, .int month] P := zCv_of pn_X11_shears (Nat.le_of_ble_eq_true rfl) (fun X => zt_pad (j := 1) rfl (h X))
set_option maxHeartbeats 2000000 in
theorem b_X11_shearsAll_0 {np : Nat} {month : Int32} {X : Nat × (Nat → Int32)} {S : zS} {L : zL} {P : zS → zL → Prop} (h : zU mX11_shearsAll X S L 2 [some (.ref 72), some (.int month), some (.int (0 : Int32)), none, none] [] (zpv P)) : zU mX11_shearsAll X S L 0 [some (.ref 72), some (.int month), none, none, none] [] (zpv P) := by
  refine zi_iconst (v := 0) dX11_shearsAll_0 (by decide) ?_
  refine zi_istore_n dX11_shearsAll_1 rfl (by decide) rfl ?_
  refine zt_drop (lv' := [some (.ref 72), some (.int month), some (.int (0 : Int32)), none, none]) [true, true, true, false, false] rfl ?_
  exact h
set_option maxHeartbeats 2000000 in
theorem b_X11_shearsAll_2 {np : Nat} {v1 : Int32} {v2 : Int32} {X : Nat × (Nat → Int32)} {S : zS} {L : zL} {P : zS → zL → Prop} (h : (((S 72 12) ≤ v2 → P S L) ∧ (¬ (S 72 12) ≤ v2 → vp_in v2 9 ∧ ((¬ (S 81 v2.toNatClampNeg) = v1 → ∀ x1 : Int32, x1 = v2 + (1 : Int32) → zU mX11_shearsAll X S L 2 [some (.ref 72), some (.int v1), some (.int x1), none, none] [] (zpv P)) ∧ ((S 81 v2.toNatClampNeg) = v1 → (((((S 72 23) >>> (v2 &&& 31)) &&& 1 = 1) → ∀ x1 : Int32, x1 = v2 + (1 : Int32) → zU mX11_shearsAll X S L 2 [some (.ref 72), some (.int v1), some (.int x1), none, none] [] (zpv P)) ∧ (¬ (((S 72 23) >>> (v2 &&& 31)) &&& 1 = 1) → zU mX11_shearsAll X S L 33 [some (.ref 72), some (.int v1), some (.int v2), some (.int (0 : Int32)), none] [] (zpv P)))))))) : zU mX11_shearsAll X S L 2 [some (.ref 72), some (.int v1), some (.int v2), none, none] [] (zpv P) := by
  refine zi_iload_n dX11_shearsAll_2 rfl rfl ?_
  refine zi_aload_n dX11_shearsAll_3 rfl rfl ?_
  refine zi_geti fl_X11_192 sk72 rfl dX11_shearsAll_4 ?_
  refine zi_icmp_ge (tgt := 80) dX11_shearsAll_7 (by decide) (fun q9 => ?_) (fun q9 => ?_)
  · replace h := h.1 q9
    exact zt_vret dX11_shearsAll_80 rfl h
  · replace h := h.2 q9
    refine zi_aload_n dX11_shearsAll_10 rfl rfl ?_
    refine zi_getr fl_X11_34 sk72 rfl dX11_shearsAll_11 ?_
    refine zi_iload_n dX11_shearsAll_14 rfl rfl ?_
    refine zi_iald sk81 h.1 dX11_shearsAll_15 ?_
    replace h := h.2
    refine zi_iload_n dX11_shearsAll_16 rfl rfl ?_
    refine zi_icmp_ne (tgt := 74) dX11_shearsAll_17 (by decide) (fun q9 => ?_) (fun q9 => ?_)
    · replace h := h.1 q9
      obtain ⟨x1, ex1⟩ : ∃ y : Int32, y = v2 + (1 : Int32) := ⟨_, rfl⟩
      replace h := h x1 ex1
      refine zi_iinc (v := x1) dX11_shearsAll_74 rfl (by rw [ex1]; rfl) (by decide) rfl ?_
      refine zi_goto (tgt := 2) dX11_shearsAll_77 (by decide) ?_
      refine zt_drop (lv' := [some (.ref 72), some (.int v1), some (.int x1), none, none]) [true, true, true, false, false] rfl ?_
      exact h
    · replace h := h.2 q9
      refine zi_aload_n dX11_shearsAll_20 rfl rfl ?_
      refine zi_geti fl_X11_214 sk72 rfl dX11_shearsAll_21 ?_
      refine zi_iload_n dX11_shearsAll_24 rfl rfl ?_
      refine zt_Si (As := [.int (S 72 23), .int v2]) dX11_shearsAll_25 lk_X11_223 ⟨⟨by decide, by decide⟩, rfl, rfl⟩ rfl ⟨Nat.le_of_ble_eq_true rfl, rfl, rfl⟩ (isIn_s (P := fun y S9 L9 => y = (if (((S 72 23) >>> (v2 &&& 31)) &&& 1 = 1) then (1 : Int32) else 0) ∧ S = S9 ∧ L = L9) ⟨rfl, rfl, rfl⟩) (fun y1 S9 L9 q9 => ?_)
      obtain ⟨ey1, rfl, rfl⟩ := q9
      by_cases q9 : (((S 72 23) >>> (v2 &&& 31)) &&& 1 = 1)
      · replace h := h.1 q9
        rw [if_pos q9] at ey1
        subst ey1
        refine zi_if_ne (tgt := 74) dX11_shearsAll_28 (by decide) (fun _ => ?_) (fun z9 => absurd z9 (by decide))
        obtain ⟨x1, ex1⟩ : ∃ y : Int32, y = v2 + (1 : Int32) := ⟨_, rfl⟩
        replace h := h x1 ex1
        refine zi_iinc (v := x1) dX11_shearsAll_74 rfl (by rw [ex1]; rfl) (by decide) rfl ?_
        refine zi_goto (tgt := 2) dX11_shearsAll_77 (by decide) ?_
        refine zt_drop (lv' := [some (.ref 72), some (.int v1), some (.int x1), none, none]) [true, true, true, false, false] rfl ?_
        exact h
      · replace h := h.2 q9
        rw [if_neg q9] at ey1
        subst ey1
        refine zi_if_ne (tgt := 74) dX11_shearsAll_28 (by decide) (fun z9 => absurd rfl z9) (fun _ => ?_)
        refine zi_iconst (v := 0) dX11_shearsAll_31 (by decide) ?_
        refine zi_istore_n dX11_shearsAll_32 rfl (by decide) rfl ?_
        refine zt_drop (lv' := [some (.ref 72), some (.int v1), some (.int v2), some (.int (0 : Int32)), none]) [true, true, true, true, false] rfl ?_
        exact h
set_option maxHeartbeats 2000000 in
theorem b_X11_shearsAll_33 {np : Nat} {v1 : Int32} {v2 : Int32} {v3 : Int32} {X : Nat × (Nat → Int32)} {S : zS} {L : zL} {P : zS → zL → Prop} (h : vp_in v2 9 ∧ (((S 83 v2.toNatClampNeg) ≤ v3 → ∀ x1 : Int32, x1 = v2 + (1 : Int32) → zU mX11_shearsAll X S L 2 [some (.ref 72), some (.int v1), some (.int x1), none, none] [] (zpv P)) ∧ (¬ (S 83 v2.toNatClampNeg) ≤ v3 → vp_in v2 9 ∧ (S 72 2 = nI np ∧ np ≤ 8) ∧ ∀ y1 : Int32, y1 = (mNx np (S 88) (S 89) (S 92) (S 82 v2.toNatClampNeg)) → ((y1 = (-1 : Int32) → ∀ x1 : Int32, x1 = v3 + (1 : Int32) → zU mX11_shearsAll X S L 33 [some (.ref 72), some (.int v1), some (.int v2), some (.int x1), none] [] (zpv P)) ∧ (¬ y1 = (-1 : Int32) → zCv mX11_shears S L [.ref 72, .int y1, .int v1] (fun S1 L1 => ∀ x1 : Int32, x1 = v3 + (1 : Int32) → zU mX11_shearsAll X S1 L1 33 [some (.ref 72), some (.int v1), some (.int v2), some (.int x1), none] [] (zpv P))))))) : zU mX11_shearsAll X S L 33 [some (.ref 72), some (.int v1), some (.int v2), some (.int v3), none] [] (zpv P) := by
  refine zi_iload_n dX11_shearsAll_33 rfl rfl ?_
  refine zi_aload_n dX11_shearsAll_34 rfl rfl ?_
  refine zi_getr fl_X11_40 sk72 rfl dX11_shearsAll_35 ?_
  refine zi_iload_n dX11_shearsAll_38 rfl rfl ?_
  refine zi_iald sk83 h.1 dX11_shearsAll_39 ?_
  replace h := h.2
  refine zi_icmp_ge (tgt := 74) dX11_shearsAll_40 (by decide) (fun q9 => ?_) (fun q9 => ?_)
  · replace h := h.1 q9
    obtain ⟨x1, ex1⟩ : ∃ y : Int32, y = v2 + (1 : Int32) := ⟨_, rfl⟩
    replace h := h x1 ex1
    refine zi_iinc (v := x1) dX11_shearsAll_74 rfl (by rw [ex1]; rfl) (by decide) rfl ?_
    refine zi_goto (tgt := 2) dX11_shearsAll_77 (by decide) ?_
    refine zt_drop (lv' := [some (.ref 72), some (.int v1), some (.int x1), none, none]) [true, true, true, false, false] rfl ?_
    exact h
  · replace h := h.2 q9
    refine zi_aload_n dX11_shearsAll_43 rfl rfl ?_
    refine zi_aload_n dX11_shearsAll_44 rfl rfl ?_
    refine zi_getr fl_X11_37 sk72 rfl dX11_shearsAll_45 ?_
    refine zi_iload_n dX11_shearsAll_48 rfl rfl ?_
    refine zi_iald sk82 h.1 dX11_shearsAll_49 ?_
    replace h := h.2
    refine zt_Vi (As := [.int (S 82 v2.toNatClampNeg)]) dX11_shearsAll_50 lk_X11_242 sk72 rfl ⟨⟨by decide, by decide⟩, rfl, rfl⟩ rfl ⟨Nat.le_of_ble_eq_true rfl, rfl, rfl⟩ (nextIn_s h.1.1 h.1.2 (P := fun y S9 L9 => y = (mNx np (S 88) (S 89) (S 92) (S 82 v2.toNatClampNeg)) ∧ S = S9 ∧ L = L9) ⟨rfl, rfl, rfl⟩) (fun y1 S9 L9 q9 => ?_)
    obtain ⟨ey1, rfl, rfl⟩ := q9
    replace h := h.2
    replace h := h y1 ey1
    refine zi_istore dX11_shearsAll_53 (by decide) rfl ?_
    refine zi_iload dX11_shearsAll_55 rfl ?_
    refine zi_iconst (v := -1) dX11_shearsAll_57 (by decide) ?_
    refine zi_icmp_eq (tgt := 68) dX11_shearsAll_58 (by decide) (fun q9 => ?_) (fun q9 => ?_)
    · replace h := h.1 q9
      obtain ⟨x1, ex1⟩ : ∃ y : Int32, y = v3 + (1 : Int32) := ⟨_, rfl⟩
      replace h := h x1 ex1
      refine zi_iinc (v := x1) dX11_shearsAll_68 rfl (by rw [ex1]; rfl) (by decide) rfl ?_
      refine zi_goto (tgt := 33) dX11_shearsAll_71 (by decide) ?_
      refine zt_drop (lv' := [some (.ref 72), some (.int v1), some (.int v2), some (.int x1), none]) [true, true, true, true, false] rfl ?_
      exact h
    · replace h := h.2 q9
      refine zi_aload_n dX11_shearsAll_61 rfl rfl ?_
      refine zi_iload dX11_shearsAll_62 rfl ?_
      refine zi_iload_n dX11_shearsAll_64 rfl rfl ?_
      refine zt_Vv (As := [.int y1, .int v1]) dX11_shearsAll_65 lk_X11_245 sk72 rfl ⟨⟨by decide, by decide⟩, rfl, rfl⟩ rfl ⟨Nat.le_of_ble_eq_true rfl, rfl, rfl⟩ h (fun S1 L1 h => ?_)
      obtain ⟨x1, ex1⟩ : ∃ y : Int32, y = v3 + (1 : Int32) := ⟨_, rfl⟩
      replace h := h x1 ex1
      refine zi_iinc (v := x1) dX11_shearsAll_68 rfl (by rw [ex1]; rfl) (by decide) rfl ?_
      refine zi_goto (tgt := 33) dX11_shearsAll_71 (by decide) ?_
      refine zt_drop (lv' := [some (.ref 72), some (.int v1), some (.int v2), some (.int x1), none]) [true, true, true, true, false] rfl ?_
      exact h
theorem e_X11_shearsAll {month : Int32} {S : zS} {L : zL} {P : zS → zL → Prop} (h : ∀ X, zU mX11_shearsAll X S L 0 [some (.ref 72), some (.int month), none, none, none] [] (zpv P)) : zCv mX11_shearsAll S L [.ref 72, .int month] P := zCv_of pn_X11_shearsAll (Nat.le_of_ble_eq_true rfl) (fun X => zt_pad (j := 3) rfl (h X))
set_option maxHeartbeats 2000000 in
theorem b_X11_keeps_0 {np : Nat} {month : Int32} {X : Nat × (Nat → Int32)} {S : zS} {L : zL} {P : zS → zL → Prop} (h : zU mX11_keeps X S L 4 [some (.ref 72), some (.int month), some (.int (0 : Int32)), some (.int (0 : Int32))] [] (zpv P)) : zU mX11_keeps X S L 0 [some (.ref 72), some (.int month), none, none] [] (zpv P) := by
  refine zi_iconst (v := 0) dX11_keeps_0 (by decide) ?_
  refine zi_istore_n dX11_keeps_1 rfl (by decide) rfl ?_
  refine zi_iconst (v := 0) dX11_keeps_2 (by decide) ?_
  refine zi_istore_n dX11_keeps_3 rfl (by decide) rfl ?_
  refine zt_drop (lv' := [some (.ref 72), some (.int month), some (.int (0 : Int32)), some (.int (0 : Int32))]) [true, true, true, true] rfl ?_
  exact h
set_option maxHeartbeats 2000000 in
theorem b_X11_keeps_4 {np : Nat} {v1 : Int32} {v2 : Int32} {v3 : Int32} {X : Nat × (Nat → Int32)} {S : zS} {L : zL} {P : zS → zL → Prop} (h : (((S 72 2) ≤ v3 → zU mX11_keeps X S L 92 [some (.ref 72), some (.int v1), some (.int v2), some (.int (0 : Int32))] [] (zpv P)) ∧ (¬ (S 72 2) ≤ v3 → vp_in v3 8 ∧ vp_in (((8 : Int32) * v1) + v3) 192 ∧ ∀ S1 : zS, S1 = zc S 95 (upd (S 95) (((8 : Int32) * v1) + v3).toNatClampNeg (S 88 v3.toNatClampNeg)) → vp_in v3 8 ∧ vp_in (((8 : Int32) * v1) + v3) 192 ∧ ∀ S2 : zS, S2 = zc S1 96 (upd (S1 96) (((8 : Int32) * v1) + v3).toNatClampNeg (S1 89 v3.toNatClampNeg)) → vp_in v3 8 ∧ vp_in (((8 : Int32) * v1) + v3) 192 ∧ ∀ S3 : zS, S3 = zc S2 97 (upd (S2 97) (((8 : Int32) * v1) + v3).toNatClampNeg (S2 90 v3.toNatClampNeg)) → (S3 72 2 = nI np ∧ np ≤ 8) ∧ (((pLv np (S3 92) v3) → vp_in v3 8 ∧ ∀ x1 : Int32, x1 = (v2 + (S3 88 v3.toNatClampNeg)) → ∀ x2 : Int32, x2 = v3 + (1 : Int32) → zU mX11_keeps X S3 L 4 [some (.ref 72), some (.int v1), some (.int x1), some (.int x2)] [] (zpv P)) ∧ (¬ (pLv np (S3 92) v3) → ∀ x1 : Int32, x1 = (v2 + (0 : Int32)) → ∀ x2 : Int32, x2 = v3 + (1 : Int32) → zU mX11_keeps X S3 L 4 [some (.ref 72), some (.int v1), some (.int x1), some (.int x2)] [] (zpv P)))))) : zU mX11_keeps X S L 4 [some (.ref 72), some (.int v1), some (.int v2), some (.int v3)] [] (zpv P) := by
  refine zi_iload_n dX11_keeps_4 rfl rfl ?_
  refine zi_aload_n dX11_keeps_5 rfl rfl ?_
  refine zi_geti fl_X11_152 sk72 rfl dX11_keeps_6 ?_
  refine zi_icmp_ge (tgt := 90) dX11_keeps_9 (by decide) (fun q9 => ?_) (fun q9 => ?_)
  · replace h := h.1 q9
    refine zi_iconst (v := 0) dX11_keeps_90 (by decide) ?_
    refine zi_istore_n dX11_keeps_91 rfl (by decide) rfl ?_
    refine zt_drop (lv' := [some (.ref 72), some (.int v1), some (.int v2), some (.int (0 : Int32))]) [true, true, true, true] rfl ?_
    exact h
  · replace h := h.2 q9
    refine zi_aload_n dX11_keeps_12 rfl rfl ?_
    refine zi_getr fl_X11_76 sk72 rfl dX11_keeps_13 ?_
    refine zi_bipush (v := 8) dX11_keeps_16 (by decide) ?_
    refine zi_iload_n dX11_keeps_18 rfl rfl ?_
    refine zi_imul dX11_keeps_19 ?_
    refine zi_iload_n dX11_keeps_20 rfl rfl ?_
    refine zi_iadd dX11_keeps_21 ?_
    refine zi_aload_n dX11_keeps_22 rfl rfl ?_
    refine zi_getr fl_X11_55 sk72 rfl dX11_keeps_23 ?_
    refine zi_iload_n dX11_keeps_26 rfl rfl ?_
    refine zi_iald sk88 h.1 dX11_keeps_27 ?_
    replace h := h.2
    refine zi_iast sk95 h.1 dX11_keeps_28 ?_
    replace h := h.2
    refine zt_nmS (fun S1 eS1 => ?_)
    replace h := h S1 eS1
    refine zi_aload_n dX11_keeps_29 rfl rfl ?_
    refine zi_getr fl_X11_79 sk72 rfl dX11_keeps_30 ?_
    refine zi_bipush (v := 8) dX11_keeps_33 (by decide) ?_
    refine zi_iload_n dX11_keeps_35 rfl rfl ?_
    refine zi_imul dX11_keeps_36 ?_
    refine zi_iload_n dX11_keeps_37 rfl rfl ?_
    refine zi_iadd dX11_keeps_38 ?_
    refine zi_aload_n dX11_keeps_39 rfl rfl ?_
    refine zi_getr fl_X11_58 sk72 rfl dX11_keeps_40 ?_
    refine zi_iload_n dX11_keeps_43 rfl rfl ?_
    refine zi_iald sk89 h.1 dX11_keeps_44 ?_
    replace h := h.2
    refine zi_iast sk96 h.1 dX11_keeps_45 ?_
    replace h := h.2
    refine zt_nmS (fun S2 eS2 => ?_)
    replace h := h S2 eS2
    refine zi_aload_n dX11_keeps_46 rfl rfl ?_
    refine zi_getr fl_X11_82 sk72 rfl dX11_keeps_47 ?_
    refine zi_bipush (v := 8) dX11_keeps_50 (by decide) ?_
    refine zi_iload_n dX11_keeps_52 rfl rfl ?_
    refine zi_imul dX11_keeps_53 ?_
    refine zi_iload_n dX11_keeps_54 rfl rfl ?_
    refine zi_iadd dX11_keeps_55 ?_
    refine zi_aload_n dX11_keeps_56 rfl rfl ?_
    refine zi_getr fl_X11_61 sk72 rfl dX11_keeps_57 ?_
    refine zi_iload_n dX11_keeps_60 rfl rfl ?_
    refine zi_iald sk90 h.1 dX11_keeps_61 ?_
    replace h := h.2
    refine zi_iast sk97 h.1 dX11_keeps_62 ?_
    replace h := h.2
    refine zt_nmS (fun S3 eS3 => ?_)
    replace h := h S3 eS3
    refine zi_iload_n dX11_keeps_63 rfl rfl ?_
    refine zi_aload_n dX11_keeps_64 rfl rfl ?_
    refine zi_iload_n dX11_keeps_65 rfl rfl ?_
    refine zt_Vi (As := [.int v3]) dX11_keeps_66 lk_X11_227 sk72 rfl ⟨⟨by decide, by decide⟩, rfl, rfl⟩ rfl ⟨Nat.le_of_ble_eq_true rfl, rfl, rfl⟩ (mlives_s h.1.1 h.1.2 (P := fun y S9 L9 => y = (if (pLv np (S3 92) v3) then (1 : Int32) else 0) ∧ S3 = S9 ∧ L = L9) ⟨rfl, rfl, rfl⟩) (fun y1 S9 L9 q9 => ?_)
    obtain ⟨ey1, rfl, rfl⟩ := q9
    replace h := h.2
    by_cases q9 : (pLv np (S3 92) v3)
    · replace h := h.1 q9
      rw [if_pos q9] at ey1
      subst ey1
      refine zi_if_eq (tgt := 81) dX11_keeps_69 (by decide) (fun z9 => absurd z9 (by decide)) (fun _ => ?_)
      refine zi_aload_n dX11_keeps_72 rfl rfl ?_
      refine zi_getr fl_X11_55 sk72 rfl dX11_keeps_73 ?_
      refine zi_iload_n dX11_keeps_76 rfl rfl ?_
      refine zi_iald sk88 h.1 dX11_keeps_77 ?_
      replace h := h.2
      refine zi_goto (tgt := 82) dX11_keeps_78 (by decide) ?_
      refine zi_iadd dX11_keeps_82 ?_
      refine zt_nmi (fun x1 ex1 => ?_)
      replace h := h x1 ex1
      refine zi_istore_n dX11_keeps_83 rfl (by decide) rfl ?_
      obtain ⟨x2, ex2⟩ : ∃ y : Int32, y = v3 + (1 : Int32) := ⟨_, rfl⟩
      replace h := h x2 ex2
      refine zi_iinc (v := x2) dX11_keeps_84 rfl (by rw [ex2]; rfl) (by decide) rfl ?_
      refine zi_goto (tgt := 4) dX11_keeps_87 (by decide) ?_
      refine zt_drop (lv' := [some (.ref 72), some (.int v1), some (.int x1), some (.int x2)]) [true, true, true, true] rfl ?_
      exact h
    · replace h := h.2 q9
      rw [if_neg q9] at ey1
      subst ey1
      refine zi_if_eq (tgt := 81) dX11_keeps_69 (by decide) (fun _ => ?_) (fun z9 => absurd rfl z9)
      refine zi_iconst (v := 0) dX11_keeps_81 (by decide) ?_
      refine zi_iadd dX11_keeps_82 ?_
      refine zt_nmi (fun x1 ex1 => ?_)
      replace h := h x1 ex1
      refine zi_istore_n dX11_keeps_83 rfl (by decide) rfl ?_
      obtain ⟨x2, ex2⟩ : ∃ y : Int32, y = v3 + (1 : Int32) := ⟨_, rfl⟩
      replace h := h x2 ex2
      refine zi_iinc (v := x2) dX11_keeps_84 rfl (by rw [ex2]; rfl) (by decide) rfl ?_
      refine zi_goto (tgt := 4) dX11_keeps_87 (by decide) ?_
      refine zt_drop (lv' := [some (.ref 72), some (.int v1), some (.int x1), some (.int x2)]) [true, true, true, true] rfl ?_
      exact h
set_option maxHeartbeats 2000000 in
theorem b_X11_keeps_92 {np : Nat} {v1 : Int32} {v2 : Int32} {v3 : Int32} {X : Nat × (Nat → Int32)} {S : zS} {L : zL} {P : zS → zL → Prop} (h : (((4 : Int32) ≤ v3 → vp_in v1 24 ∧ ∀ S1 : zS, S1 = zc S 98 (upd (S 98) v1.toNatClampNeg (S 72 31)) → (S1 72 2 = nI np ∧ np ≤ 8) ∧ ∀ y1 : Int32, y1 = (mHv np (S1 88) (S1 92)) → vp_in v1 24 ∧ ∀ S2 : zS, S2 = zc S1 99 (upd (S1 99) v1.toNatClampNeg y1) → ((¬ v1 = (11 : Int32) → vp_in (0 : Int32) 2 ∧ zU mX11_keeps X S2 L 176 [some (.ref 72), some (.int v1), some (.int v2), none] [.int (S2 102 (0 : Int32).toNatClampNeg), .int (0 : Int32), .ref 102] (zpv P)) ∧ (v1 = (11 : Int32) → zU mX11_keeps X S2 L 176 [some (.ref 72), some (.int v1), some (.int v2), none] [.int v2, .int (0 : Int32), .ref 102] (zpv P)))) ∧ (¬ (4 : Int32) ≤ v3 → vp_in v3 4 ∧ vp_in (((4 : Int32) * v1) + v3) 96 ∧ ∀ S1 : zS, S1 = zc S 100 (upd (S 100) (((4 : Int32) * v1) + v3).toNatClampNeg (S 93 v3.toNatClampNeg)) → vp_in v3 4 ∧ vp_in (((4 : Int32) * v1) + v3) 96 ∧ ∀ S2 : zS, S2 = zc S1 101 (upd (S1 101) (((4 : Int32) * v1) + v3).toNatClampNeg (S1 94 v3.toNatClampNeg)) → ∀ x1 : Int32, x1 = v3 + (1 : Int32) → zU mX11_keeps X S2 L 92 [some (.ref 72), some (.int v1), some (.int v2), some (.int x1)] [] (zpv P)))) : zU mX11_keeps X S L 92 [some (.ref 72), some (.int v1), some (.int v2), some (.int v3)] [] (zpv P) := by
  refine zi_iload_n dX11_keeps_92 rfl rfl ?_
  refine zi_iconst (v := 4) dX11_keeps_93 (by decide) ?_
  refine zi_icmp_ge (tgt := 135) dX11_keeps_94 (by decide) (fun q9 => ?_) (fun q9 => ?_)
  · replace h := h.1 q9
    refine zi_aload_n dX11_keeps_135 rfl rfl ?_
    refine zi_getr fl_X11_85 sk72 rfl dX11_keeps_136 ?_
    refine zi_iload_n dX11_keeps_139 rfl rfl ?_
    refine zi_aload_n dX11_keeps_140 rfl rfl ?_
    refine zi_geti fl_X11_233 sk72 rfl dX11_keeps_141 ?_
    refine zi_iast sk98 h.1 dX11_keeps_144 ?_
    replace h := h.2
    refine zt_nmS (fun S1 eS1 => ?_)
    replace h := h S1 eS1
    refine zi_aload_n dX11_keeps_145 rfl rfl ?_
    refine zi_getr fl_X11_88 sk72 rfl dX11_keeps_146 ?_
    refine zi_iload_n dX11_keeps_149 rfl rfl ?_
    refine zi_aload_n dX11_keeps_150 rfl rfl ?_
    refine zt_Vi (As := []) dX11_keeps_151 lk_X11_249 sk72 rfl ⟨⟨by decide, by decide⟩, rfl, rfl⟩ rfl ⟨Nat.le_of_ble_eq_true rfl, rfl, rfl⟩ (heavy_s h.1.1 h.1.2 (P := fun y S9 L9 => y = (mHv np (S1 88) (S1 92)) ∧ S1 = S9 ∧ L = L9) ⟨rfl, rfl, rfl⟩) (fun y1 S9 L9 q9 => ?_)
    obtain ⟨ey1, rfl, rfl⟩ := q9
    replace h := h.2
    replace h := h y1 ey1
    refine zi_iast sk99 h.1 dX11_keeps_154 ?_
    replace h := h.2
    refine zt_nmS (fun S2 eS2 => ?_)
    replace h := h S2 eS2
    refine zi_aload_n dX11_keeps_155 rfl rfl ?_
    refine zi_getr fl_X11_97 sk72 rfl dX11_keeps_156 ?_
    refine zi_iconst (v := 0) dX11_keeps_159 (by decide) ?_
    refine zi_iload_n dX11_keeps_160 rfl rfl ?_
    refine zi_bipush (v := 11) dX11_keeps_161 (by decide) ?_
    refine zi_icmp_ne (tgt := 170) dX11_keeps_163 (by decide) (fun q9 => ?_) (fun q9 => ?_)
    · replace h := h.1 q9
      refine zi_aload_n dX11_keeps_170 rfl rfl ?_
      refine zi_getr fl_X11_97 sk72 rfl dX11_keeps_171 ?_
      refine zi_iconst (v := 0) dX11_keeps_174 (by decide) ?_
      refine zi_iald sk102 h.1 dX11_keeps_175 ?_
      replace h := h.2
      refine zt_drop (lv' := [some (.ref 72), some (.int v1), some (.int v2), none]) [true, true, true, false] rfl ?_
      exact h
    · replace h := h.2 q9
      refine zi_iload_n dX11_keeps_166 rfl rfl ?_
      refine zi_goto (tgt := 176) dX11_keeps_167 (by decide) ?_
      refine zt_drop (lv' := [some (.ref 72), some (.int v1), some (.int v2), none]) [true, true, true, false] rfl ?_
      exact h
  · replace h := h.2 q9
    refine zi_aload_n dX11_keeps_97 rfl rfl ?_
    refine zi_getr fl_X11_91 sk72 rfl dX11_keeps_98 ?_
    refine zi_iconst (v := 4) dX11_keeps_101 (by decide) ?_
    refine zi_iload_n dX11_keeps_102 rfl rfl ?_
    refine zi_imul dX11_keeps_103 ?_
    refine zi_iload_n dX11_keeps_104 rfl rfl ?_
    refine zi_iadd dX11_keeps_105 ?_
    refine zi_aload_n dX11_keeps_106 rfl rfl ?_
    refine zi_getr fl_X11_70 sk72 rfl dX11_keeps_107 ?_
    refine zi_iload_n dX11_keeps_110 rfl rfl ?_
    refine zi_iald sk93 h.1 dX11_keeps_111 ?_
    replace h := h.2
    refine zi_iast sk100 h.1 dX11_keeps_112 ?_
    replace h := h.2
    refine zt_nmS (fun S1 eS1 => ?_)
    replace h := h S1 eS1
    refine zi_aload_n dX11_keeps_113 rfl rfl ?_
    refine zi_getr fl_X11_94 sk72 rfl dX11_keeps_114 ?_
    refine zi_iconst (v := 4) dX11_keeps_117 (by decide) ?_
    refine zi_iload_n dX11_keeps_118 rfl rfl ?_
    refine zi_imul dX11_keeps_119 ?_
    refine zi_iload_n dX11_keeps_120 rfl rfl ?_
    refine zi_iadd dX11_keeps_121 ?_
    refine zi_aload_n dX11_keeps_122 rfl rfl ?_
    refine zi_getr fl_X11_73 sk72 rfl dX11_keeps_123 ?_
    refine zi_iload_n dX11_keeps_126 rfl rfl ?_
    refine zi_iald sk94 h.1 dX11_keeps_127 ?_
    replace h := h.2
    refine zi_iast sk101 h.1 dX11_keeps_128 ?_
    replace h := h.2
    refine zt_nmS (fun S2 eS2 => ?_)
    replace h := h S2 eS2
    obtain ⟨x1, ex1⟩ : ∃ y : Int32, y = v3 + (1 : Int32) := ⟨_, rfl⟩
    replace h := h x1 ex1
    refine zi_iinc (v := x1) dX11_keeps_129 rfl (by rw [ex1]; rfl) (by decide) rfl ?_
    refine zi_goto (tgt := 92) dX11_keeps_132 (by decide) ?_
    refine zt_drop (lv' := [some (.ref 72), some (.int v1), some (.int v2), some (.int x1)]) [true, true, true, true] rfl ?_
    exact h
set_option maxHeartbeats 2000000 in
theorem b_X11_keeps_176 {np : Nat} {v1 : Int32} {v2 : Int32} {w2 : Int32} {w1 : Int32} {X : Nat × (Nat → Int32)} {S : zS} {L : zL} {P : zS → zL → Prop} (h : vp_in w1 2 ∧ ∀ S1 : zS, S1 = zc S 102 (upd (S 102) w1.toNatClampNeg w2) → ((¬ v1 = (23 : Int32) → vp_in (1 : Int32) 2 ∧ vp_in (1 : Int32) 2 ∧ ∀ S2 : zS, S2 = zc S1 102 (upd (S1 102) (1 : Int32).toNatClampNeg (S1 102 (1 : Int32).toNatClampNeg)) → P S2 L) ∧ (v1 = (23 : Int32) → vp_in (1 : Int32) 2 ∧ ∀ S2 : zS, S2 = zc S1 102 (upd (S1 102) (1 : Int32).toNatClampNeg v2) → P S2 L))) : zU mX11_keeps X S L 176 [some (.ref 72), some (.int v1), some (.int v2), none] [.int w2, .int w1, .ref 102] (zpv P) := by
  refine zi_iast sk102 h.1 dX11_keeps_176 ?_
  replace h := h.2
  refine zt_nmS (fun S1 eS1 => ?_)
  replace h := h S1 eS1
  refine zi_aload_n dX11_keeps_177 rfl rfl ?_
  refine zi_getr fl_X11_97 sk72 rfl dX11_keeps_178 ?_
  refine zi_iconst (v := 1) dX11_keeps_181 (by decide) ?_
  refine zi_iload_n dX11_keeps_182 rfl rfl ?_
  refine zi_bipush (v := 23) dX11_keeps_183 (by decide) ?_
  refine zi_icmp_ne (tgt := 192) dX11_keeps_185 (by decide) (fun q9 => ?_) (fun q9 => ?_)
  · replace h := h.1 q9
    refine zi_aload_n dX11_keeps_192 rfl rfl ?_
    refine zi_getr fl_X11_97 sk72 rfl dX11_keeps_193 ?_
    refine zi_iconst (v := 1) dX11_keeps_196 (by decide) ?_
    refine zi_iald sk102 h.1 dX11_keeps_197 ?_
    replace h := h.2
    refine zi_iast sk102 h.1 dX11_keeps_198 ?_
    replace h := h.2
    refine zt_nmS (fun S2 eS2 => ?_)
    replace h := h S2 eS2
    exact zt_vret dX11_keeps_199 rfl h
  · replace h := h.2 q9
    refine zi_iload_n dX11_keeps_188 rfl rfl ?_
    refine zi_goto (tgt := 198) dX11_keeps_189 (by decide) ?_
    refine zi_iast sk102 h.1 dX11_keeps_198 ?_
    replace h := h.2
    refine zt_nmS (fun S2 eS2 => ?_)
    replace h := h S2 eS2
    exact zt_vret dX11_keeps_199 rfl h
theorem e_X11_keeps {month : Int32} {S : zS} {L : zL} {P : zS → zL → Prop} (h : ∀ X, zU mX11_keeps X S L 0 [some (.ref 72), some (.int month), none, none] [] (zpv P)) : zCv mX11_keeps S L [.ref 72, .int month] P := zCv_of pn_X11_keeps (Nat.le_of_ble_eq_true rfl) (fun X => zt_pad (j := 2) rfl (h X))
set_option maxHeartbeats 2000000 in
theorem b_X11_runs_0 {X : Nat × (Nat → Int32)} {S : zS} {L : zL} {P : zS → zL → Prop} (h : zU mX11_runs X S L 2 [some (.ref 72), some (.int (0 : Int32))] [] (zpv P)) : zU mX11_runs X S L 0 [some (.ref 72), none] [] (zpv P) := by
  refine zi_iconst (v := 0) dX11_runs_0 (by decide) ?_
  refine zi_istore_n dX11_runs_1 rfl (by decide) rfl ?_
  refine zt_drop (lv' := [some (.ref 72), some (.int (0 : Int32))]) [true, true] rfl ?_
  exact h
set_option maxHeartbeats 2000000 in
theorem b_X11_runs_2 {v1 : Int32} {X : Nat × (Nat → Int32)} {S : zS} {L : zL} {P : zS → zL → Prop} (h : (((S 72 2) ≤ v1 → zU mX11_runs X S L 63 [some (.ref 72), some (.int (0 : Int32))] [] (zpv P)) ∧ (¬ (S 72 2) ≤ v1 → vp_in v1 9 ∧ vp_in v1 8 ∧ ∀ S1 : zS, S1 = zc S 88 (upd (S 88) v1.toNatClampNeg (S 77 v1.toNatClampNeg)) → vp_in v1 9 ∧ vp_in v1 8 ∧ ∀ S2 : zS, S2 = zc S1 89 (upd (S1 89) v1.toNatClampNeg (S1 76 v1.toNatClampNeg)) → vp_in v1 8 ∧ ∀ S3 : zS, S3 = zc S2 90 (upd (S2 90) v1.toNatClampNeg (0 : Int32)) → vp_in v1 8 ∧ ∀ S4 : zS, S4 = zc S3 91 (upd (S3 91) v1.toNatClampNeg (0 : Int32)) → vp_in v1 8 ∧ ∀ S5 : zS, S5 = zc S4 92 (upd (S4 92) v1.toNatClampNeg (-1 : Int32)) → ∀ x1 : Int32, x1 = v1 + (1 : Int32) → zU mX11_runs X S5 L 2 [some (.ref 72), some (.int x1)] [] (zpv P)))) : zU mX11_runs X S L 2 [some (.ref 72), some (.int v1)] [] (zpv P) := by
  refine zi_iload_n dX11_runs_2 rfl rfl ?_
  refine zi_aload_n dX11_runs_3 rfl rfl ?_
  refine zi_geti fl_X11_152 sk72 rfl dX11_runs_4 ?_
  refine zi_icmp_ge (tgt := 61) dX11_runs_7 (by decide) (fun q9 => ?_) (fun q9 => ?_)
  · replace h := h.1 q9
    refine zi_iconst (v := 0) dX11_runs_61 (by decide) ?_
    refine zi_istore_n dX11_runs_62 rfl (by decide) rfl ?_
    refine zt_drop (lv' := [some (.ref 72), some (.int (0 : Int32))]) [true, true] rfl ?_
    exact h
  · replace h := h.2 q9
    refine zi_aload_n dX11_runs_10 rfl rfl ?_
    refine zi_getr fl_X11_55 sk72 rfl dX11_runs_11 ?_
    refine zi_iload_n dX11_runs_14 rfl rfl ?_
    refine zi_aload_n dX11_runs_15 rfl rfl ?_
    refine zi_getr fl_X11_22 sk72 rfl dX11_runs_16 ?_
    refine zi_iload_n dX11_runs_19 rfl rfl ?_
    refine zi_iald sk77 h.1 dX11_runs_20 ?_
    replace h := h.2
    refine zi_iast sk88 h.1 dX11_runs_21 ?_
    replace h := h.2
    refine zt_nmS (fun S1 eS1 => ?_)
    replace h := h S1 eS1
    refine zi_aload_n dX11_runs_22 rfl rfl ?_
    refine zi_getr fl_X11_58 sk72 rfl dX11_runs_23 ?_
    refine zi_iload_n dX11_runs_26 rfl rfl ?_
    refine zi_aload_n dX11_runs_27 rfl rfl ?_
    refine zi_getr fl_X11_19 sk72 rfl dX11_runs_28 ?_
    refine zi_iload_n dX11_runs_31 rfl rfl ?_
    refine zi_iald sk76 h.1 dX11_runs_32 ?_
    replace h := h.2
    refine zi_iast sk89 h.1 dX11_runs_33 ?_
    replace h := h.2
    refine zt_nmS (fun S2 eS2 => ?_)
    replace h := h S2 eS2
    refine zi_aload_n dX11_runs_34 rfl rfl ?_
    refine zi_getr fl_X11_61 sk72 rfl dX11_runs_35 ?_
    refine zi_iload_n dX11_runs_38 rfl rfl ?_
    refine zi_iconst (v := 0) dX11_runs_39 (by decide) ?_
    refine zi_iast sk90 h.1 dX11_runs_40 ?_
    replace h := h.2
    refine zt_nmS (fun S3 eS3 => ?_)
    replace h := h S3 eS3
    refine zi_aload_n dX11_runs_41 rfl rfl ?_
    refine zi_getr fl_X11_64 sk72 rfl dX11_runs_42 ?_
    refine zi_iload_n dX11_runs_45 rfl rfl ?_
    refine zi_iconst (v := 0) dX11_runs_46 (by decide) ?_
    refine zi_iast sk91 h.1 dX11_runs_47 ?_
    replace h := h.2
    refine zt_nmS (fun S4 eS4 => ?_)
    replace h := h S4 eS4
    refine zi_aload_n dX11_runs_48 rfl rfl ?_
    refine zi_getr fl_X11_67 sk72 rfl dX11_runs_49 ?_
    refine zi_iload_n dX11_runs_52 rfl rfl ?_
    refine zi_iconst (v := -1) dX11_runs_53 (by decide) ?_
    refine zi_iast sk92 h.1 dX11_runs_54 ?_
    replace h := h.2
    refine zt_nmS (fun S5 eS5 => ?_)
    replace h := h S5 eS5
    obtain ⟨x1, ex1⟩ : ∃ y : Int32, y = v1 + (1 : Int32) := ⟨_, rfl⟩
    replace h := h x1 ex1
    refine zi_iinc (v := x1) dX11_runs_55 rfl (by rw [ex1]; rfl) (by decide) rfl ?_
    refine zi_goto (tgt := 2) dX11_runs_58 (by decide) ?_
    refine zt_drop (lv' := [some (.ref 72), some (.int x1)]) [true, true] rfl ?_
    exact h
set_option maxHeartbeats 2000000 in
theorem b_X11_runs_63 {v1 : Int32} {X : Nat × (Nat → Int32)} {S : zS} {L : zL} {P : zS → zL → Prop} (h : (((4 : Int32) ≤ v1 → ∀ S1 : zS, S1 = zc S 72 (upd (S 72) 31 (0 : Int32)) → ∀ S2 : zS, S2 = zc S1 72 (upd (S1 72) 32 (-1 : Int32)) → ∀ S3 : zS, S3 = zc S2 72 (upd (S2 72) 33 (-1 : Int32)) → zU mX11_runs X S3 L 105 [some (.ref 72), some (.int (0 : Int32))] [] (zpv P)) ∧ (¬ (4 : Int32) ≤ v1 → vp_in v1 4 ∧ ∀ S1 : zS, S1 = zc S 93 (upd (S 93) v1.toNatClampNeg (0 : Int32)) → vp_in v1 4 ∧ ∀ S2 : zS, S2 = zc S1 94 (upd (S1 94) v1.toNatClampNeg (0 : Int32)) → ∀ x1 : Int32, x1 = v1 + (1 : Int32) → zU mX11_runs X S2 L 63 [some (.ref 72), some (.int x1)] [] (zpv P)))) : zU mX11_runs X S L 63 [some (.ref 72), some (.int v1)] [] (zpv P) := by
  refine zi_iload_n dX11_runs_63 rfl rfl ?_
  refine zi_iconst (v := 4) dX11_runs_64 (by decide) ?_
  refine zi_icmp_ge (tgt := 88) dX11_runs_65 (by decide) (fun q9 => ?_) (fun q9 => ?_)
  · replace h := h.1 q9
    refine zi_aload_n dX11_runs_88 rfl rfl ?_
    refine zi_iconst (v := 0) dX11_runs_89 (by decide) ?_
    refine zi_puti fp_X11_233 sk72 rfl dX11_runs_90 ?_
    refine zt_nmS (fun S1 eS1 => ?_)
    replace h := h S1 eS1
    refine zi_aload_n dX11_runs_93 rfl rfl ?_
    refine zi_iconst (v := -1) dX11_runs_94 (by decide) ?_
    refine zi_puti fp_X11_236 sk72 rfl dX11_runs_95 ?_
    refine zt_nmS (fun S2 eS2 => ?_)
    replace h := h S2 eS2
    refine zi_aload_n dX11_runs_98 rfl rfl ?_
    refine zi_iconst (v := -1) dX11_runs_99 (by decide) ?_
    refine zi_puti fp_X11_239 sk72 rfl dX11_runs_100 ?_
    refine zt_nmS (fun S3 eS3 => ?_)
    replace h := h S3 eS3
    refine zi_iconst (v := 0) dX11_runs_103 (by decide) ?_
    refine zi_istore_n dX11_runs_104 rfl (by decide) rfl ?_
    refine zt_drop (lv' := [some (.ref 72), some (.int (0 : Int32))]) [true, true] rfl ?_
    exact h
  · replace h := h.2 q9
    refine zi_aload_n dX11_runs_68 rfl rfl ?_
    refine zi_getr fl_X11_70 sk72 rfl dX11_runs_69 ?_
    refine zi_iload_n dX11_runs_72 rfl rfl ?_
    refine zi_iconst (v := 0) dX11_runs_73 (by decide) ?_
    refine zi_iast sk93 h.1 dX11_runs_74 ?_
    replace h := h.2
    refine zt_nmS (fun S1 eS1 => ?_)
    replace h := h S1 eS1
    refine zi_aload_n dX11_runs_75 rfl rfl ?_
    refine zi_getr fl_X11_73 sk72 rfl dX11_runs_76 ?_
    refine zi_iload_n dX11_runs_79 rfl rfl ?_
    refine zi_iconst (v := 0) dX11_runs_80 (by decide) ?_
    refine zi_iast sk94 h.1 dX11_runs_81 ?_
    replace h := h.2
    refine zt_nmS (fun S2 eS2 => ?_)
    replace h := h S2 eS2
    obtain ⟨x1, ex1⟩ : ∃ y : Int32, y = v1 + (1 : Int32) := ⟨_, rfl⟩
    replace h := h x1 ex1
    refine zi_iinc (v := x1) dX11_runs_82 rfl (by rw [ex1]; rfl) (by decide) rfl ?_
    refine zi_goto (tgt := 63) dX11_runs_85 (by decide) ?_
    refine zt_drop (lv' := [some (.ref 72), some (.int x1)]) [true, true] rfl ?_
    exact h
set_option maxHeartbeats 2000000 in
theorem b_X11_runs_105 {v1 : Int32} {X : Nat × (Nat → Int32)} {S : zS} {L : zL} {P : zS → zL → Prop} (h : (((24 : Int32) ≤ v1 → P S L) ∧ (¬ (24 : Int32) ≤ v1 → zCv mX11_grows S L [.ref 72, .int v1] (fun S1 L1 => zCv mX11_goes S1 L1 [.ref 72, .int v1] (fun S2 L2 => zCv mX11_shearsAll S2 L2 [.ref 72, .int v1] (fun S3 L3 => zCv mX11_keeps S3 L3 [.ref 72, .int v1] (fun S4 L4 => ∀ x1 : Int32, x1 = v1 + (1 : Int32) → zU mX11_runs X S4 L4 105 [some (.ref 72), some (.int x1)] [] (zpv P)))))))) : zU mX11_runs X S L 105 [some (.ref 72), some (.int v1)] [] (zpv P) := by
  refine zi_iload_n dX11_runs_105 rfl rfl ?_
  refine zi_bipush (v := 24) dX11_runs_106 (by decide) ?_
  refine zi_icmp_ge (tgt := 137) dX11_runs_108 (by decide) (fun q9 => ?_) (fun q9 => ?_)
  · replace h := h.1 q9
    exact zt_vret dX11_runs_137 rfl h
  · replace h := h.2 q9
    refine zi_aload_n dX11_runs_111 rfl rfl ?_
    refine zi_iload_n dX11_runs_112 rfl rfl ?_
    refine zt_Vv (As := [.int v1]) dX11_runs_113 lk_X11_253 sk72 rfl ⟨⟨by decide, by decide⟩, rfl, rfl⟩ rfl ⟨Nat.le_of_ble_eq_true rfl, rfl, rfl⟩ h (fun S1 L1 h => ?_)
    refine zi_aload_n dX11_runs_116 rfl rfl ?_
    refine zi_iload_n dX11_runs_117 rfl rfl ?_
    refine zt_Vv (As := [.int v1]) dX11_runs_118 lk_X11_257 sk72 rfl ⟨⟨by decide, by decide⟩, rfl, rfl⟩ rfl ⟨Nat.le_of_ble_eq_true rfl, rfl, rfl⟩ h (fun S2 L2 h => ?_)
    refine zi_aload_n dX11_runs_121 rfl rfl ?_
    refine zi_iload_n dX11_runs_122 rfl rfl ?_
    refine zt_Vv (As := [.int v1]) dX11_runs_123 lk_X11_260 sk72 rfl ⟨⟨by decide, by decide⟩, rfl, rfl⟩ rfl ⟨Nat.le_of_ble_eq_true rfl, rfl, rfl⟩ h (fun S3 L3 h => ?_)
    refine zi_aload_n dX11_runs_126 rfl rfl ?_
    refine zi_iload_n dX11_runs_127 rfl rfl ?_
    refine zt_Vv (As := [.int v1]) dX11_runs_128 lk_X11_263 sk72 rfl ⟨⟨by decide, by decide⟩, rfl, rfl⟩ rfl ⟨Nat.le_of_ble_eq_true rfl, rfl, rfl⟩ h (fun S4 L4 h => ?_)
    obtain ⟨x1, ex1⟩ : ∃ y : Int32, y = v1 + (1 : Int32) := ⟨_, rfl⟩
    replace h := h x1 ex1
    refine zi_iinc (v := x1) dX11_runs_131 rfl (by rw [ex1]; rfl) (by decide) rfl ?_
    refine zi_goto (tgt := 105) dX11_runs_134 (by decide) ?_
    refine zt_drop (lv' := [some (.ref 72), some (.int x1)]) [true, true] rfl ?_
    exact h
theorem e_X11_runs {S : zS} {L : zL} {P : zS → zL → Prop} (h : ∀ X, zU mX11_runs X S L 0 [some (.ref 72), none] [] (zpv P)) : zCv mX11_runs S L [.ref 72] P := zCv_of pn_X11_runs (Nat.le_of_ble_eq_true rfl) (fun X => zt_pad (j := 1) rfl (h X))
