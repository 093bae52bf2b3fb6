/-! THE START: both are made, and stand alike -/
theorem nwl_L_7 : Cond.classLink x.cls 7 RX10 ∈ zTB ∧ Cond.instantiable RX10 10 ∈ zTB ∧ Cond.initialized RX10 ∈ zTB := ⟨zme 1 22 (by decide +kernel) rfl, zme 1 23 (by decide +kernel) rfl, zme 1 1 (by decide +kernel) rfl⟩
theorem nwl_L_10 : Cond.classLink x.cls 10 RX11 ∈ zTB ∧ Cond.instantiable RX11 56 ∈ zTB ∧ Cond.initialized RX11 ∈ zTB := ⟨zme 5 32 (by decide +kernel) rfl, zme 5 33 (by decide +kernel) rfl, zme 1 14 (by decide +kernel) rfl⟩
def sg0 : sg := ([], [], 3, 10, [], [], [], [], fun _ => -1, fun _ => 0, fun _ => 0, 0)
theorem rW0 : rW [] [] [] [] := ⟨⟨by decide, by decide, by decide, by decide⟩, fun e he => (by cases he), fun e he => (by cases he), fun e he => (by cases he), fun e he => (by cases he)⟩
theorem wSh0 : wSh (fun _ => -1) (fun _ => 0) := fun s hs => ⟨Or.inl rfl, 0, by decide, rfl⟩
theorem zR0 {S : zS} {k : Nat} (h : S k 3 = 0) : zR S k [] := ⟨h, fun i e he => by simp at he⟩
theorem zTx0 {S : zS} {k : Nat} (h : S k 4 = 0) : zTx S k [] := ⟨h, fun i e he => by simp at he⟩
theorem tL00 : tL 0 [] = [] := rfl
theorem tL30 : tL 3 [] = [] := rfl
theorem cI0 {S : zS} {L : zL} (h : S 0 9 = (0 : Int32) ∧ S 1 4 = (0 : Int32) ∧ S 3 4 = (0 : Int32) ∧ S 5 5 = (3 : Int32) ∧ S 5 6 = (10 : Int32) ∧ S 6 3 = (0 : Int32) ∧ S 10 3 = (0 : Int32) ∧ S 14 3 = (0 : Int32) ∧ S 18 3 = (0 : Int32) ∧ S 22 3 = (0 : Int32) ∧ S 56 3 = (0 : Int32) ∧ S 56 4 = (-1 : Int32) ∧ S 56 8 = (-1 : Int32) ∧ S 59 4 = (0 : Int32) ∧ S 60 3 = (0 : Int32) ∧ S 65 3 = (-1 : Int32) ∧ S 68 3 = (0 : Int32) ∧ (∀ i, i < 4 → S 69 i = (-1 : Int32)) ∧ S 70 = (fun _ => (0 : Int32)) ∧ S 71 = (fun _ => (0 : Int32))) : cI sg0 S L := by
  obtain ⟨a1, a2, a3, a4, a5, a6, a7, a8, a9, a10, a11, a12, a13, a14, a15, a16, a17, a18, a19, a20⟩ := h
  refine ⟨⟨by decide, by decide, tB_nil, tB_nil⟩, zTx0 a2, zTx0 a3, cQ_clear ⟨zR0 a6, zR0 a7, zR0 a8, zR0 a9, zR0 a10, a4, a5⟩ (sW_of (by decide) (by decide) rW0) (zR0 a15) ⟨a1, a11, a12, a13, a14, a16⟩, ⟨fun s hs => ⟨a18 s hs, by rw [a19]⟩, fun i _ => by rw [a20], a17⟩, wSh0⟩
theorem mK0 {S : zS} (h : S 72 10 = (3 : Int32) ∧ S 72 11 = (10 : Int32) ∧ S 72 12 = (0 : Int32) ∧ S 72 16 = (0 : Int32) ∧ S 72 20 = (0 : Int32) ∧ S 72 45 = (0 : Int32) ∧ S 72 55 = (0 : Int32) ∧ S 73 = (fun _ => (0 : Int32)) ∧ S 108 = (fun _ => (0 : Int32)) ∧ S 110 = (fun _ => (0 : Int32)) ∧ S 111 = (fun _ => (0 : Int32))) : mK sg0 S := by
  obtain ⟨a1, a2, a3, a4, a5, a6, a7, a8, a9, a10, a11⟩ := h
  have l0 : ∀ {a b d f : Nat}, S 72 f = 0 → mL a b d f [] S := fun h => ⟨fun i e he => by simp at he, h⟩
  exact ⟨⟨by decide, by decide, tB_nil, tB_nil⟩, rW0, wSh0, ⟨mTb_nil (by rw [a8]), mTb_nil (by rw [a8])⟩, ⟨a1, a2⟩, l0 a3, l0 a4, ⟨fun i e he => by simp at he, a5⟩, l0 a6, ⟨fun s _ => ⟨by rw [a9]; rfl, fun z => absurd rfl z, by rw [a10]⟩, fun i _ => by rw [a11], a7⟩⟩
set_option maxRecDepth 100000 in
theorem law_start {X : Nat × (Nat → Int32)} {S : zS} {L : zL} {post : zP} (hX : X.1 ≤ 384) (h : ∀ S L, post (some (.int 1)) SK S L) : zV mL_law X [] S L (0, 0) 0 [some (.ref 999), none, none, none] [] post := by
  show zV mL_law X ([] ++ []) S L (0, 0) 0 [some (.ref 999), none, none, none] [] post
  refine zk_new (W := 10) (t' := [.inr (10, [some none, some none, some none, some none, some none, some none, some none, some none, some none, none])]) (n := 0) (cn' := (1, 10)) dL_law_0 zcls10 nwl_L_7 hfl10 rfl zW.nil rfl rfl (by decide) ⟨Nat.le_of_ble_eq_true rfl, Nat.le_of_ble_eq_true rfl⟩ rfl ⟨rfl, rfl⟩ rfl (fun S1 e1 => ?_)
  refine zi_dup dL_law_3 rfl ?_
  refine zk_callI (M := mL_law) (cn := (1, 10)) (S := S1) (lv := [some (.ref 999), none, none, none]) (t := [.inr (10, [some none, some none, some none, some none, some none, some none, some none, some none, some none, none])]) (t0 := []) (t' := SKc) (cn' := (72, 5171)) (As := []) (st := [.ref 0]) kX10_0 dL_law_4 lk_L_9 ⟨by decide, by decide⟩ rfl zW.nil rfl rfl (by decide) ⟨Nat.le_of_ble_eq_true rfl, Nat.le_of_ble_eq_true rfl⟩ rfl (by decide) ⟨rfl, rfl⟩ (by rw [e1, zc_eq]) rfl rfl rfl (fun S2 L2 p2 q2 => ?_)
  refine zi_astore_n dL_law_7 rfl (by decide) rfl ?_
  refine zk_new (W := 56) (t' := SKc ++ [.inr (11, [some none, some none, none, some none, some none, some none, none, some none, some none, some none, none, none, none, some none, some none, some none, none, some none, some none, some none, none, some none, none, none, none, some none, some none, some none, some none, some none, none, none, none, none, some none, some none, some none, some none, some none, some none, some none, some none, some none, some none, some none, none, some none, some none, some none, some none, some none, some none, some none, some none, some none, none])]) (n := 72) (cn' := (73, 5227)) dL_law_8 zcls11 nwl_L_10 hfl11 rfl zW.nil rfl rfl (by decide) ⟨Nat.le_of_ble_eq_true rfl, Nat.le_of_ble_eq_true rfl⟩ rfl ⟨rfl, rfl⟩ rfl (fun S3 e3 => ?_)
  refine zi_dup dL_law_11 rfl ?_
  refine zk_callI (M := mL_law) (cn := (73, 5227)) (S := S3) (lv := [some (.ref 999), some (.ref 0), none, none]) (t := SKc ++ [.inr (11, [some none, some none, none, some none, some none, some none, none, some none, some none, some none, none, none, none, some none, some none, some none, none, some none, some none, some none, none, some none, none, none, none, some none, some none, some none, some none, some none, none, none, none, none, some none, some none, some none, some none, some none, some none, some none, some none, some none, some none, some none, none, some none, some none, some none, some none, some none, some none, some none, some none, some none, none])]) (t0 := SKc) (t' := SK) (cn' := (113, 6868)) (As := []) (st := [.ref 72]) kX11_72 dL_law_12 lk_L_12 ⟨by decide, by decide⟩ rfl zW.nil rfl rfl (by decide) ⟨Nat.le_of_ble_eq_true rfl, Nat.le_of_ble_eq_true rfl⟩ rfl (by decide) ⟨rfl, rfl⟩ (by rw [e3, zc_eq]) rfl SK_cm rfl (fun S4 L4 p4 q4 => ?_)
  refine zi_astore_n dL_law_15 rfl (by decide) rfl ?_
  refine zi_iconst (v := 0) dL_law_16 (by decide) ?_
  refine zi_istore_n dL_law_17 rfl (by decide) rfl ?_
  exact law_loop (cn := (113, 6868)) hX ⟨Nat.le_of_ble_eq_true rfl, Nat.le_of_ble_eq_true rfl⟩ h X.1 0 S4 L4 (by omega) (by omega) ⟨sg0, (cI0 q2).same (L := L4) (fun j hj => by rw [p4 j hj, e3, zc_ne _ _ (by omega)]), mK0 q4⟩
/-! what is given of the start -/
abbrev tmK (i : Nat) : Term := Term.string (zSo' i).1 (zSo' i).2.1
theorem gv_ex : ∀ i, i < 7 → Cond.exactly (tmK i) "java/lang/String" ∈ flatC (Cond.and given_1 narrow_1) := by decide +kernel
theorem gv_co : ∀ i, i < 7 → Cond.eq (.field (tmK i) "java/lang/String" "coder" "B") (.int 0) ∈ flatC (Cond.and given_1 narrow_1) := by decide +kernel
theorem gv_ar : ∀ i, i < 7 → Cond.arrayOf (.field (tmK i) "java/lang/String" "value" "[B") .byte ∈ flatC (Cond.and given_1 narrow_1) := by decide +kernel
theorem gv_le : ∀ i, i < 7 → Cond.eq (.length (.field (tmK i) "java/lang/String" "value" "[B")) (.int (Int32.ofNat (zSl.getD i 0))) ∈ flatC (Cond.and given_1 narrow_1) := by decide +kernel
theorem gv_el : ∀ i, i < 7 → ∀ j, j < zSl.getD i 0 → Cond.eq (.elem (.field (tmK i) "java/lang/String" "value" "[B") (.int (Int32.ofNat j))) (.int ((zSb.getD i []).getD j 0)) ∈ flatC (Cond.and given_1 narrow_1) := by decide +kernel
theorem gv_ne : ∀ i, i < 7 → ∀ j, j < 7 → i ≠ j → Cond.not (Cond.eq (tmK i) (tmK j)) ∈ flatC (Cond.and given_1 narrow_1) ∨ Cond.not (Cond.eq (tmK j) (tmK i)) ∈ flatC (Cond.and given_1 narrow_1) := by decide +kernel
theorem gv_cs : Cond.eq (.static "java/lang/String" "COMPACT_STRINGS" "Z") (.int 1) ∈ flatC (Cond.and given_1 narrow_1) := by decide +kernel
theorem gv_sr : ∀ i, i < 7 → Cond.stringRef (zSo' i).1 (zSo' i).2.1 (zSo' i).2.2 ∈ lw_tbl := fun i hi => match i, hi with
  | 0, _ => zch_in 1 (List.mem_of_getElem? (i := 32) (by decide +kernel))
  | 1, _ => zch_in 1 (List.mem_of_getElem? (i := 33) (by decide +kernel))
  | 2, _ => zch_in 1 (List.mem_of_getElem? (i := 34) (by decide +kernel))
  | 3, _ => zch_in 1 (List.mem_of_getElem? (i := 61) (by decide +kernel))
  | 4, _ => zch_in 1 (List.mem_of_getElem? (i := 62) (by decide +kernel))
  | 5, _ => zch_in 1 (List.mem_of_getElem? (i := 63) (by decide +kernel))
  | 6, _ => zch_in 2 (List.mem_of_getElem? (i := 163) (by decide +kernel))
  | n + 7, h => absurd h (by omega)
theorem gv_nw0 : ∀ q, zNw[0]? = some q → Cond.methodLinkNest q.1 q.2.1 q.2.2.1 q.2.2.2 ∈ lw_tbl := fun q hq => by
  cases hq
  exact zch_in 1 (List.mem_of_getElem? (i := 66) (by decide +kernel))
theorem gv_nw1 : ∀ q, zNw[1]? = some q → Cond.methodLinkNest q.1 q.2.1 q.2.2.1 q.2.2.2 ∈ lw_tbl := fun q hq => by
  cases hq
  exact zch_in 1 (List.mem_of_getElem? (i := 181) (by decide +kernel))
theorem gv_nw2 : ∀ q, zNw[2]? = some q → Cond.methodLinkNest q.1 q.2.1 q.2.2.1 q.2.2.2 ∈ lw_tbl := fun q hq => by
  cases hq
  exact zch_in 1 (List.mem_of_getElem? (i := 212) (by decide +kernel))
theorem gv_nw : ∀ q ∈ zNw, Cond.methodLinkNest q.1 q.2.1 q.2.2.1 q.2.2.2 ∈ lw_tbl := by
  intro q hq
  obtain ⟨i, hi⟩ := List.mem_iff_getElem?.mp hq
  match i, hi with
  | 0, hi => exact gv_nw0 q hi
  | 1, hi => exact gv_nw1 q hi
  | 2, hi => exact gv_nw2 q hi
  | i + 3, hi => simp [zNw] at hi
theorem gv_ls : Cond.laysStatic "java/lang/String" "COMPACT_STRINGS" "Z" ∈ lw_tbl := zch_in 2 (List.mem_of_getElem? (i := 177) (by decide +kernel))
theorem gv_in : Cond.initialized "java/lang/String" ∈ lw_tbl := zch_in 1 (List.mem_of_getElem? (i := 15) (by decide +kernel))
theorem gv_i0 : Cond.instantiable RX0 6 ∈ lw_tbl := zch_in 2 (List.mem_of_getElem? (i := 49) (by decide +kernel))
theorem gv_i1 : Cond.instantiable RX1 2 ∈ lw_tbl := zch_in 1 (List.mem_of_getElem? (i := 211) (by decide +kernel))
theorem gv_i2 : Cond.instantiable RX2 6 ∈ lw_tbl := zch_in 1 (List.mem_of_getElem? (i := 148) (by decide +kernel))
theorem gv_i3 : Cond.instantiable RX3 3 ∈ lw_tbl := zch_in 1 (List.mem_of_getElem? (i := 175) (by decide +kernel))
theorem gv_i4 : Cond.instantiable RX4 11 ∈ lw_tbl := zch_in 1 (List.mem_of_getElem? (i := 205) (by decide +kernel))
theorem gv_i5 : Cond.instantiable RX5 4 ∈ lw_tbl := zch_in 1 (List.mem_of_getElem? (i := 71) (by decide +kernel))
theorem gv_i6 : Cond.instantiable RX6 4 ∈ lw_tbl := zch_in 2 (List.mem_of_getElem? (i := 75) (by decide +kernel))
theorem gv_i7 : Cond.instantiable RX7 5 ∈ lw_tbl := zch_in 1 (List.mem_of_getElem? (i := 31) (by decide +kernel))
theorem gv_i8 : Cond.instantiable RX8 7 ∈ lw_tbl := zch_in 1 (List.mem_of_getElem? (i := 65) (by decide +kernel))
theorem gv_i9 : Cond.instantiable RX9 5 ∈ lw_tbl := zch_in 2 (List.mem_of_getElem? (i := 23) (by decide +kernel))
theorem gv_i10 : Cond.instantiable RX10 10 ∈ lw_tbl := zch_in 1 (List.mem_of_getElem? (i := 23) (by decide +kernel))
theorem gv_i11 : Cond.instantiable RX11 56 ∈ lw_tbl := zch_in 5 (List.mem_of_getElem? (i := 33) (by decide +kernel))
