/-! what stands behind an array's end is nobody's -/
theorem zw_inv {ad : Nat → Nat} {cs : zA} {sk : List zK} {S : zS} {L : zL} {k : Nat} {q : Nat × va_E} (h : (zw ad cs sk S L)[k]? = some q) : ∃ c, sk[k]? = some c ∧ q = (ad k, ze ad cs S L k c) := by
  simp only [zw, List.getElem?_mapIdx] at h
  cases hc : sk[k]? with
  | none => rw [hc] at h; cases h
  | some c => rw [hc] at h; exact ⟨c, rfl, (Option.some.inj h).symm⟩
theorem zw_D {A : Nat → Prop} {ad : Nat → Nat} {cs : zA} {sk : List zK} {S S' : zS} {L L' : zL} (h : va_D A (zw ad cs sk S L)) : va_D A (zw ad cs sk S' L') := by
  refine ⟨fun i j p q hp hq e => ?_, fun k q hk => ?_⟩
  · obtain ⟨c, hc, rfl⟩ := zw_inv hp
    obtain ⟨c', hc', rfl⟩ := zw_inv hq
    exact h.1 i j _ _ (zw_get hc) (zw_get hc') e
  · obtain ⟨c, hc, rfl⟩ := zw_inv hk
    exact h.2 k (ad k, ze ad cs S L k c) (zw_get hc)
theorem arrV_ext {cI : ClassId} {n : Nat} {f g : Nat → Value} (h : ∀ j, j < n → f j = g j) : arrV cI n f = arrV cI n g := by
  unfold arrV
  congr 1
  apply Array.ext
  · simp
  · intro i h1 h2
    simp at h1
    simp [h i h1]
theorem zV_same {M : zM} {X : Nat × (Nat → Int32)} {sk : List zK} {S : zS} {L : zL} {cn : Nat × Nat} {pc : Nat} {lv : List (Option Value)} {st : List Value} {post : zP} {r t n : Nat} {f : Nat → Int32} (hr : sk[r]? = some (.inl (t, n))) (hf : ∀ j, j < n → f j = S r j) (k : zV M X sk (zc S r f) L cn pc lv st post) : zV M X sk S L cn pc lv st post := by
  intro p l e s m args below meth c H locs A ad ad0 n0 D cs ls hX hn hP hD hS hl
  refine k p l e s m args below meth c H locs A ad ad0 n0 D cs ls hX hn (fun i q hq => ?_) (zw_D hD) hS hl
  obtain ⟨ce, hc, rfl⟩ := zw_inv hq
  by_cases hi : i = r
  · subst hi
    cases hr.symm.trans hc
    have h0 := hP i _ (zw_get hr)
    match t, h0 with
    | 0, h0 =>
      have h1 : H[ad i]? = some (vp_cell cs.1 (n, .inl (S i))) := h0
      show H[ad i]? = some (vp_cell cs.1 (n, .inl (zc S i f i)))
      rw [h1, zc_eq, vp_cell_i, vp_cell_i]
      exact congrArg some (arrV_ext (fun j hj => by rw [hf j hj]))
    | 1, h0 => exact h0
    | _ + 2, h0 =>
      have h1 : H[ad i]? = some (vp_cell cs.2.2 (n, .inl (S i))) := h0
      show H[ad i]? = some (vp_cell cs.2.2 (n, .inl (zc S i f i)))
      rw [h1, zc_eq, vp_cell_i, vp_cell_i]
      exact congrArg some (arrV_ext (fun j hj => by rw [hf j hj]))
  · have h0 := hP i _ (zw_get hc)
    rw [ze_congr (S := S) (L := L) (zc_ne _ _ hi) rfl]
    exact h0
theorem zt_same {M : zM} {X : Nat × (Nat → Int32)} {S : zS} {L : zL} {pc : Nat} {lv : List (Option Value)} {st : List Value} {post : zP} {r t n : Nat} {f : Nat → Int32} (hr : SK[r]? = some (.inl (t, n))) (hf : ∀ j, j < n → f j = S r j) (k : zU M X (zc S r f) L pc lv st post) : zU M X S L pc lv st post := zV_same hr hf k
theorem zc_upd (S : zS) (r i : Nat) (x : Int32) : zc S r (upd (S r) i x) r = upd (S r) i x := zc_eq _ _ _
/-- Arrays.fill -/
theorem fill_l {r n : Nat} (hr : SK[r]? = some (.inl (0, n))) (hn : n < 2000) {x : Int32} {L : zL} {X : Nat × (Nat → Int32)} {P : zS → zL → Prop} : ∀ (d i : Nat) (S : zS), i + d = n → (∀ j, j < i → S r j = x) → P (zc S r (fun _ => x)) L → zU mJ7_fill_53178 X S L 5 [some (.ref r), some (.int x), some (.int (nI i)), some (.int (nI n))] [] (zpv P) := by
  intro d
  induction d with
  | zero =>
    intro i S hd hi h
    refine zt_same (f := fun _ => x) hr (fun j hj => (hi j (by omega)).symm) ?_
    exact b_J7_fill_53178_5 hr ⟨fun _ => h, fun q => absurd (nI_le (by omega) (by omega)) q⟩
  | succ d ih =>
    intro i S hd hi h
    refine b_J7_fill_53178_5 hr ⟨fun q => absurd q (nI_ge (by omega) (by omega)), fun _ => ⟨vp_in_nI (by omega) (by omega), fun S1 e1 x1 ex1 => ?_⟩⟩
    rw [cl_nI (by omega)] at e1
    rw [ex1, nI_1]
    refine ih (i + 1) S1 (by omega) (fun j hj => ?_) ?_
    · rw [e1, zc_eq]
      by_cases hji : j = i
      · subst hji; simp [upd]
      · simp only [upd, if_neg hji]; exact hi j (by omega)
    · rw [e1, zc_zc]; exact h
theorem fill_s {r n : Nat} (hr : SK[r]? = some (.inl (0, n))) (hn : n < 2000) {x : Int32} {S : zS} {L : zL} {P : zS → zL → Prop} (h : P (zc S r (fun _ => x)) L) : zCv mJ7_fill_53178 S L [.ref r, .int x] P := by
  refine e_J7_fill_53178 (fun X => b_J7_fill_53178_0 hr (fun x1 e1 => ?_))
  rw [e1]
  exact fill_l hr hn n 0 S (by omega) (fun j hj => absurd hj (Nat.not_lt_zero _)) h
