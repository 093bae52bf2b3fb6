section ZI
variable {M : zM} {X : Nat × (Nat → Int32)} {sk : List zK} {S : zS} {L : zL} {cn : Nat × Nat} {pc : Nat} {lv : List (Option Value)} {st : List Value} {post : zP}
theorem zV_drop {lv' : List (Option Value)} (hs : ∀ (i : Nat) (v : Value), lv'[i]? = some (some v) → lv[i]? = some (some v)) (k : zV M X sk S L cn pc lv' st post) : zV M X sk S L cn pc lv st post := by
  intro p l e s m args below meth c H locs A ad ad0 n0 D cs ls hX hn hP hD hS hl
  refine k p l e s m args below meth c H locs A ad ad0 n0 D cs ls hX hn hP hD hS (zlv_sub hl (fun q hq => ?_))
  obtain ⟨v, h1, h2⟩ := zlv_mem.mp hq
  exact zlv_mem.mpr ⟨v, hs _ _ h1, h2⟩
theorem zlv_at {ad : Nat → Nat} {ls : Array Slot} {nL : Nat} (h : lv_has ls nL (zlv ad lv)) {i : Nat} {v : Value} (hv : lv[i]? = some (some v)) : ls[i]? = some (.val (zv ad v)) := h.2.2 (i, zv ad v) (zlv_mem.mpr ⟨v, hv, rfl⟩)
/-- no long stands half ahead of place i -/
def zp1 (lv : List (Option Value)) (i : Nat) : Bool := match i with
  | 0 => true
  | j + 1 => match lv[j]? with
    | some (some v) => v.category == 1
    | _ => true
theorem zlv_st1 {ad : Nat → Nat} {ls : Array Slot} {nL i : Nat} {v : Value} (hp : zp1 lv i = true) (h : lv_has ls nL ((i, zv ad v) :: (zlv ad lv).filter (fun q => !(q.1 == i) && !(q.1 + 1 == i && q.2.category == 2)))) : lv_has ls nL (zlv ad (lv.set i (some v))) := by
  refine zlv_sub h (fun q hq => ?_)
  obtain ⟨w, h1, h2⟩ := zlv_mem.mp hq
  by_cases hi : q.1 = i
  · subst hi
    by_cases hl : q.1 < lv.length
    · rw [List.getElem?_set_self hl] at h1
      cases h1
      rw [show q = (q.1, zv ad v) from by rw [← h2]]
      exact List.mem_cons_self
    · rw [List.getElem?_eq_none (by simp; omega)] at h1
      cases h1
  · rw [List.getElem?_set_ne (Ne.symm hi)] at h1
    refine List.mem_cons_of_mem _ (List.mem_filter.mpr ⟨zlv_mem.mpr ⟨w, h1, h2⟩, ?_⟩)
    have hc : ¬ (q.1 + 1 = i ∧ q.2.category = 2) := by
      rintro ⟨rfl, h4⟩
      simp only [zp1, h1] at hp
      rw [h2, zv_cat] at h4
      simp [h4] at hp
    simp only [Bool.and_eq_true, Bool.not_eq_true', beq_eq_false_iff_ne, ne_eq, Bool.and_eq_false_iff]
    refine ⟨hi, ?_⟩
    by_cases h5 : q.1 + 1 = i
    · exact Or.inr (fun h6 => hc ⟨h5, h6⟩)
    · exact Or.inl h5
theorem zlv_st2 {ad : Nat → Nat} {ls : Array Slot} {nL i : Nat} {v : Value} (hp : zp1 lv i = true) (h : lv_has ls nL ((i, zv ad v) :: (zlv ad lv).filter (fun q => !(q.1 == i) && (!(q.1 == i + 1) && !(q.1 + 1 == i && q.2.category == 2))))) : lv_has ls nL (zlv ad ((lv.set i (some v)).set (i + 1) none)) := by
  refine zlv_sub h (fun q hq => ?_)
  obtain ⟨w, h1, h2⟩ := zlv_mem.mp hq
  by_cases hi1 : q.1 = i + 1
  · exfalso
    rw [hi1] at h1
    by_cases hl : i + 1 < (lv.set i (some v)).length
    · rw [List.getElem?_set_self hl] at h1
      cases h1
    · rw [List.getElem?_eq_none (by rw [List.length_set]; omega)] at h1
      cases h1
  · rw [List.getElem?_set_ne (Ne.symm hi1)] at h1
    by_cases hi : q.1 = i
    · subst hi
      by_cases hl : q.1 < lv.length
      · rw [List.getElem?_set_self hl] at h1
        cases h1
        rw [show q = (q.1, zv ad v) from by rw [← h2]]
        exact List.mem_cons_self
      · rw [List.getElem?_eq_none (by simp; omega)] at h1
        cases h1
    · rw [List.getElem?_set_ne (Ne.symm hi)] at h1
      refine List.mem_cons_of_mem _ (List.mem_filter.mpr ⟨zlv_mem.mpr ⟨w, h1, h2⟩, ?_⟩)
      have hc : ¬ (q.1 + 1 = i ∧ q.2.category = 2) := by
        rintro ⟨rfl, h4⟩
        simp only [zp1, h1] at hp
        rw [h2, zv_cat] at h4
        simp [h4] at hp
      simp only [Bool.and_eq_true, Bool.not_eq_true', beq_eq_false_iff_ne, ne_eq, Bool.and_eq_false_iff]
      refine ⟨hi, hi1, ?_⟩
      by_cases h5 : q.1 + 1 = i
      · exact Or.inr (fun h6 => hc ⟨h5, h6⟩)
      · exact Or.inl h5
theorem zi_iconst {n : Int} {v : Int32} (d : decode (zb M) pc = .ok (.iconst n, 1)) (hv : Int32.ofInt n = v) (k : zV M X sk S L cn (pc + 1) lv (.int v :: st) post) : zV M X sk S L cn pc lv st post := by
  intro p l e s m args below meth c H locs A ad ad0 n0 D cs ls hX hn hP hD hS hl
  exact lv_iconst hX.1.1 hX.1.2.1 d hv (k p l e s m args below meth c H locs A ad ad0 n0 D cs ls hX hn hP hD hS hl)
theorem zi_bipush {n : Int} {v : Int32} (d : decode (zb M) pc = .ok (.bipush n, 2)) (hv : (Int8.ofInt n).toInt32 = v) (k : zV M X sk S L cn (pc + 2) lv (.int v :: st) post) : zV M X sk S L cn pc lv st post := by
  intro p l e s m args below meth c H locs A ad ad0 n0 D cs ls hX hn hP hD hS hl
  exact lv_bipush hX.1.1 hX.1.2.1 d hv (k p l e s m args below meth c H locs A ad ad0 n0 D cs ls hX hn hP hD hS hl)
theorem zi_sipush {n : Int} {v : Int32} (d : decode (zb M) pc = .ok (.sipush n, 3)) (hv : (Int16.ofInt n).toInt32 = v) (k : zV M X sk S L cn (pc + 3) lv (.int v :: st) post) : zV M X sk S L cn pc lv st post := by
  intro p l e s m args below meth c H locs A ad ad0 n0 D cs ls hX hn hP hD hS hl
  exact lv_sipush hX.1.1 hX.1.2.1 d hv (k p l e s m args below meth c H locs A ad ad0 n0 D cs ls hX hn hP hD hS hl)
theorem zi_lconst {n : Fin 2} {v : Int64} (d : decode (zb M) pc = .ok (.lconst n, 1)) (hv : Int64.ofNat (n : Nat) = v) (k : zV M X sk S L cn (pc + 1) lv (.long v :: st) post) : zV M X sk S L cn pc lv st post := by
  intro p l e s m args below meth c H locs A ad ad0 n0 D cs ls hX hn hP hD hS hl
  exact lv_lconst hX.1.1 hX.1.2.1 d hv (k p l e s m args below meth c H locs A ad ad0 n0 D cs ls hX hn hP hD hS hl)
theorem zi_iload_n {n : Fin 4} {i : Nat} {x : Int32} (d : decode (zb M) pc = .ok (.iload_n n, 1)) (hi : (n : Nat) = i) (hv : lv[i]? = some (some (.int x))) (k : zV M X sk S L cn (pc + 1) lv (.int x :: st) post) : zV M X sk S L cn pc lv st post := by
  intro p l e s m args below meth c H locs A ad ad0 n0 D cs ls hX hn hP hD hS hl
  exact lv_iload_n hX.1.1 hX.1.2.1 d hi (zlv_at hl hv) (k p l e s m args below meth c H locs A ad ad0 n0 D cs ls hX hn hP hD hS hl)
theorem zi_iload {i : Nat} {x : Int32} (d : decode (zb M) pc = .ok (.iload i, 2)) (hv : lv[i]? = some (some (.int x))) (k : zV M X sk S L cn (pc + 2) lv (.int x :: st) post) : zV M X sk S L cn pc lv st post := by
  intro p l e s m args below meth c H locs A ad ad0 n0 D cs ls hX hn hP hD hS hl
  exact lv_iload hX.1.1 hX.1.2.1 d (zlv_at hl hv) (k p l e s m args below meth c H locs A ad ad0 n0 D cs ls hX hn hP hD hS hl)
theorem zi_istore_n {n : Fin 4} {i : Nat} {x : Int32} (d : decode (zb M) pc = .ok (.istore_n n, 1)) (hi : (n : Nat) = i) (hn2 : i < zn M) (hp : zp1 lv i = true) (k : zV M X sk S L cn (pc + 1) (lv.set i (some (.int x))) st post) : zV M X sk S L cn pc lv (.int x :: st) post := by
  intro p l e s m args below meth c H locs A ad ad0 n0 D cs ls hX hn hP hD hS hl
  refine lv_istore_n (lv' := _) hX.1.1 hX.1.2.1 d hi hl hn2 rfl (fun ls' hl' => ?_)
  exact k p l e s m args below meth c H locs A ad ad0 n0 D cs ls' hX hn hP hD hS (zlv_st1 hp hl')
theorem zi_istore {i : Nat} {x : Int32} (d : decode (zb M) pc = .ok (.istore i, 2)) (hn2 : i < zn M) (hp : zp1 lv i = true) (k : zV M X sk S L cn (pc + 2) (lv.set i (some (.int x))) st post) : zV M X sk S L cn pc lv (.int x :: st) post := by
  intro p l e s m args below meth c H locs A ad ad0 n0 D cs ls hX hn hP hD hS hl
  refine lv_istore (lv' := _) hX.1.1 hX.1.2.1 d hl hn2 rfl (fun ls' hl' => ?_)
  exact k p l e s m args below meth c H locs A ad ad0 n0 D cs ls' hX hn hP hD hS (zlv_st1 hp hl')
theorem zi_lload_n {n : Fin 4} {i : Nat} {x : Int64} (d : decode (zb M) pc = .ok (.lload_n n, 1)) (hi : (n : Nat) = i) (hv : lv[i]? = some (some (.long x))) (k : zV M X sk S L cn (pc + 1) lv (.long x :: st) post) : zV M X sk S L cn pc lv st post := by
  intro p l e s m args below meth c H locs A ad ad0 n0 D cs ls hX hn hP hD hS hl
  exact lv_lload_n hX.1.1 hX.1.2.1 d hi (zlv_at hl hv) (k p l e s m args below meth c H locs A ad ad0 n0 D cs ls hX hn hP hD hS hl)
theorem zi_lload {i : Nat} {x : Int64} (d : decode (zb M) pc = .ok (.lload i, 2)) (hv : lv[i]? = some (some (.long x))) (k : zV M X sk S L cn (pc + 2) lv (.long x :: st) post) : zV M X sk S L cn pc lv st post := by
  intro p l e s m args below meth c H locs A ad ad0 n0 D cs ls hX hn hP hD hS hl
  exact lv_lload hX.1.1 hX.1.2.1 d (zlv_at hl hv) (k p l e s m args below meth c H locs A ad ad0 n0 D cs ls hX hn hP hD hS hl)
theorem zi_lstore_n {n : Fin 4} {i : Nat} {x : Int64} (d : decode (zb M) pc = .ok (.lstore_n n, 1)) (hi : (n : Nat) = i) (hn2 : i + 1 < zn M) (hp : zp1 lv i = true) (k : zV M X sk S L cn (pc + 1) ((lv.set i (some (.long x))).set (i + 1) none) st post) : zV M X sk S L cn pc lv (.long x :: st) post := by
  intro p l e s m args below meth c H locs A ad ad0 n0 D cs ls hX hn hP hD hS hl
  refine lv_lstore_n (lv' := _) hX.1.1 hX.1.2.1 d hi hl hn2 rfl (fun ls' hl' => ?_)
  exact k p l e s m args below meth c H locs A ad ad0 n0 D cs ls' hX hn hP hD hS (zlv_st2 hp hl')
theorem zi_lstore {i : Nat} {x : Int64} (d : decode (zb M) pc = .ok (.lstore i, 2)) (hn2 : i + 1 < zn M) (hp : zp1 lv i = true) (k : zV M X sk S L cn (pc + 2) ((lv.set i (some (.long x))).set (i + 1) none) st post) : zV M X sk S L cn pc lv (.long x :: st) post := by
  intro p l e s m args below meth c H locs A ad ad0 n0 D cs ls hX hn hP hD hS hl
  refine lv_lstore (lv' := _) hX.1.1 hX.1.2.1 d hl hn2 rfl (fun ls' hl' => ?_)
  exact k p l e s m args below meth c H locs A ad ad0 n0 D cs ls' hX hn hP hD hS (zlv_st2 hp hl')
theorem zi_aload_n {n : Fin 4} {i : Nat} {x : Nat} (d : decode (zb M) pc = .ok (.aload_n n, 1)) (hi : (n : Nat) = i) (hv : lv[i]? = some (some (.ref x))) (k : zV M X sk S L cn (pc + 1) lv (.ref x :: st) post) : zV M X sk S L cn pc lv st post := by
  intro p l e s m args below meth c H locs A ad ad0 n0 D cs ls hX hn hP hD hS hl
  exact lv_aload_n hX.1.1 hX.1.2.1 d hi (zlv_at hl hv) (k p l e s m args below meth c H locs A ad ad0 n0 D cs ls hX hn hP hD hS hl)
theorem zi_aload {i : Nat} {x : Nat} (d : decode (zb M) pc = .ok (.aload i, 2)) (hv : lv[i]? = some (some (.ref x))) (k : zV M X sk S L cn (pc + 2) lv (.ref x :: st) post) : zV M X sk S L cn pc lv st post := by
  intro p l e s m args below meth c H locs A ad ad0 n0 D cs ls hX hn hP hD hS hl
  exact lv_aload hX.1.1 hX.1.2.1 d (zlv_at hl hv) (k p l e s m args below meth c H locs A ad ad0 n0 D cs ls hX hn hP hD hS hl)
theorem zi_astore_n {n : Fin 4} {i : Nat} {x : Nat} (d : decode (zb M) pc = .ok (.astore_n n, 1)) (hi : (n : Nat) = i) (hn2 : i < zn M) (hp : zp1 lv i = true) (k : zV M X sk S L cn (pc + 1) (lv.set i (some (.ref x))) st post) : zV M X sk S L cn pc lv (.ref x :: st) post := by
  intro p l e s m args below meth c H locs A ad ad0 n0 D cs ls hX hn hP hD hS hl
  refine lv_astore_n (lv' := _) hX.1.1 hX.1.2.1 d hi hl hn2 rfl (fun ls' hl' => ?_)
  exact k p l e s m args below meth c H locs A ad ad0 n0 D cs ls' hX hn hP hD hS (zlv_st1 hp hl')
theorem zi_astore {i : Nat} {x : Nat} (d : decode (zb M) pc = .ok (.astore i, 2)) (hn2 : i < zn M) (hp : zp1 lv i = true) (k : zV M X sk S L cn (pc + 2) (lv.set i (some (.ref x))) st post) : zV M X sk S L cn pc lv (.ref x :: st) post := by
  intro p l e s m args below meth c H locs A ad ad0 n0 D cs ls hX hn hP hD hS hl
  refine lv_astore (lv' := _) hX.1.1 hX.1.2.1 d hl hn2 rfl (fun ls' hl' => ?_)
  exact k p l e s m args below meth c H locs A ad ad0 n0 D cs ls' hX hn hP hD hS (zlv_st1 hp hl')
theorem zi_iinc {i : Nat} {n : Int} {x v : Int32} (d : decode (zb M) pc = .ok (.iinc i n, 3)) (hv : lv[i]? = some (some (.int x))) (he : x + Int32.ofInt n = v) (hn2 : i < zn M) (hp : zp1 lv i = true) (k : zV M X sk S L cn (pc + 3) (lv.set i (some (.int v))) st post) : zV M X sk S L cn pc lv st post := by
  intro p l e s m args below meth c H locs A ad ad0 n0 D cs ls hX hn hP hD hS hl
  obtain ⟨j, hj⟩ := List.getElem?_of_mem (zlv_mem (ad := ad) (q := (i, .int x)).mpr ⟨_, hv, rfl⟩)
  refine lv_iinc (lv' := _) hX.1.1 hX.1.2.1 d hl (k := j) hj he hn2 rfl (fun ls' hl' => ?_)
  exact k p l e s m args below meth c H locs A ad ad0 n0 D cs ls' hX hn hP hD hS (zlv_st1 (v := .int v) hp hl')
theorem zi_iadd {x y : Int32} (d : decode (zb M) pc = .ok (.iadd, 1)) (k : zV M X sk S L cn (pc + 1) lv (.int (x + y) :: st) post) : zV M X sk S L cn pc lv (.int y :: .int x :: st) post := by
  intro p l e s m args below meth c H locs A ad ad0 n0 D cs ls hX hn hP hD hS hl
  exact lv_iadd hX.1.1 hX.1.2.1 d (k p l e s m args below meth c H locs A ad ad0 n0 D cs ls hX hn hP hD hS hl)
theorem zi_isub {x y : Int32} (d : decode (zb M) pc = .ok (.isub, 1)) (k : zV M X sk S L cn (pc + 1) lv (.int (x - y) :: st) post) : zV M X sk S L cn pc lv (.int y :: .int x :: st) post := by
  intro p l e s m args below meth c H locs A ad ad0 n0 D cs ls hX hn hP hD hS hl
  exact lv_isub hX.1.1 hX.1.2.1 d (k p l e s m args below meth c H locs A ad ad0 n0 D cs ls hX hn hP hD hS hl)
theorem zi_imul {x y : Int32} (d : decode (zb M) pc = .ok (.imul, 1)) (k : zV M X sk S L cn (pc + 1) lv (.int (x * y) :: st) post) : zV M X sk S L cn pc lv (.int y :: .int x :: st) post := by
  intro p l e s m args below meth c H locs A ad ad0 n0 D cs ls hX hn hP hD hS hl
  exact lv_imul hX.1.1 hX.1.2.1 d (k p l e s m args below meth c H locs A ad ad0 n0 D cs ls hX hn hP hD hS hl)
theorem zi_iand {x y : Int32} (d : decode (zb M) pc = .ok (.iand, 1)) (k : zV M X sk S L cn (pc + 1) lv (.int (x &&& y) :: st) post) : zV M X sk S L cn pc lv (.int y :: .int x :: st) post := by
  intro p l e s m args below meth c H locs A ad ad0 n0 D cs ls hX hn hP hD hS hl
  exact lv_iand hX.1.1 hX.1.2.1 d (k p l e s m args below meth c H locs A ad ad0 n0 D cs ls hX hn hP hD hS hl)
theorem zi_ior {x y : Int32} (d : decode (zb M) pc = .ok (.ior, 1)) (k : zV M X sk S L cn (pc + 1) lv (.int (x ||| y) :: st) post) : zV M X sk S L cn pc lv (.int y :: .int x :: st) post := by
  intro p l e s m args below meth c H locs A ad ad0 n0 D cs ls hX hn hP hD hS hl
  exact lv_ior hX.1.1 hX.1.2.1 d (k p l e s m args below meth c H locs A ad ad0 n0 D cs ls hX hn hP hD hS hl)
theorem zi_ishl {x y : Int32} (d : decode (zb M) pc = .ok (.ishl, 1)) (k : zV M X sk S L cn (pc + 1) lv (.int (x <<< (y &&& 31)) :: st) post) : zV M X sk S L cn pc lv (.int y :: .int x :: st) post := by
  intro p l e s m args below meth c H locs A ad ad0 n0 D cs ls hX hn hP hD hS hl
  exact lv_ishl hX.1.1 hX.1.2.1 d (k p l e s m args below meth c H locs A ad ad0 n0 D cs ls hX hn hP hD hS hl)
theorem zi_ishr {x y : Int32} (d : decode (zb M) pc = .ok (.ishr, 1)) (k : zV M X sk S L cn (pc + 1) lv (.int (x >>> (y &&& 31)) :: st) post) : zV M X sk S L cn pc lv (.int y :: .int x :: st) post := by
  intro p l e s m args below meth c H locs A ad ad0 n0 D cs ls hX hn hP hD hS hl
  exact lv_ishr hX.1.1 hX.1.2.1 d (k p l e s m args below meth c H locs A ad ad0 n0 D cs ls hX hn hP hD hS hl)
theorem zi_idiv {x y : Int32} (d : decode (zb M) pc = .ok (.idiv, 1)) (hne : ¬ y = 0) (k : zV M X sk S L cn (pc + 1) lv (.int (x / y) :: st) post) : zV M X sk S L cn pc lv (.int y :: .int x :: st) post := by
  intro p l e s m args below meth c H locs A ad ad0 n0 D cs ls hX hn hP hD hS hl
  exact lv_idiv hX.1.1 hX.1.2.1 d hne (k p l e s m args below meth c H locs A ad ad0 n0 D cs ls hX hn hP hD hS hl)
theorem zi_irem {x y : Int32} (d : decode (zb M) pc = .ok (.irem, 1)) (hne : ¬ y = 0) (k : zV M X sk S L cn (pc + 1) lv (.int (x - x / y * y) :: st) post) : zV M X sk S L cn pc lv (.int y :: .int x :: st) post := by
  intro p l e s m args below meth c H locs A ad ad0 n0 D cs ls hX hn hP hD hS hl
  exact lv_irem hX.1.1 hX.1.2.1 d hne (k p l e s m args below meth c H locs A ad ad0 n0 D cs ls hX hn hP hD hS hl)
theorem zi_ladd {x y : Int64} (d : decode (zb M) pc = .ok (.ladd, 1)) (k : zV M X sk S L cn (pc + 1) lv (.long (x + y) :: st) post) : zV M X sk S L cn pc lv (.long y :: .long x :: st) post := by
  intro p l e s m args below meth c H locs A ad ad0 n0 D cs ls hX hn hP hD hS hl
  exact lv_ladd hX.1.1 hX.1.2.1 d (k p l e s m args below meth c H locs A ad ad0 n0 D cs ls hX hn hP hD hS hl)
theorem zi_lsub {x y : Int64} (d : decode (zb M) pc = .ok (.lsub, 1)) (k : zV M X sk S L cn (pc + 1) lv (.long (x - y) :: st) post) : zV M X sk S L cn pc lv (.long y :: .long x :: st) post := by
  intro p l e s m args below meth c H locs A ad ad0 n0 D cs ls hX hn hP hD hS hl
  exact lv_lsub hX.1.1 hX.1.2.1 d (k p l e s m args below meth c H locs A ad ad0 n0 D cs ls hX hn hP hD hS hl)
theorem zi_lmul {x y : Int64} (d : decode (zb M) pc = .ok (.lmul, 1)) (k : zV M X sk S L cn (pc + 1) lv (.long (x * y) :: st) post) : zV M X sk S L cn pc lv (.long y :: .long x :: st) post := by
  intro p l e s m args below meth c H locs A ad ad0 n0 D cs ls hX hn hP hD hS hl
  exact lv_lmul hX.1.1 hX.1.2.1 d (k p l e s m args below meth c H locs A ad ad0 n0 D cs ls hX hn hP hD hS hl)
theorem zi_land {x y : Int64} (d : decode (zb M) pc = .ok (.land, 1)) (k : zV M X sk S L cn (pc + 1) lv (.long (x &&& y) :: st) post) : zV M X sk S L cn pc lv (.long y :: .long x :: st) post := by
  intro p l e s m args below meth c H locs A ad ad0 n0 D cs ls hX hn hP hD hS hl
  exact lv_land hX.1.1 hX.1.2.1 d (k p l e s m args below meth c H locs A ad ad0 n0 D cs ls hX hn hP hD hS hl)
theorem zi_ldiv {x y : Int64} (d : decode (zb M) pc = .ok (.ldiv, 1)) (hne : ¬ y = 0) (k : zV M X sk S L cn (pc + 1) lv (.long (x / y) :: st) post) : zV M X sk S L cn pc lv (.long y :: .long x :: st) post := by
  intro p l e s m args below meth c H locs A ad ad0 n0 D cs ls hX hn hP hD hS hl
  exact lv_ldiv hX.1.1 hX.1.2.1 d hne (k p l e s m args below meth c H locs A ad ad0 n0 D cs ls hX hn hP hD hS hl)
theorem zi_lrem {x y : Int64} (d : decode (zb M) pc = .ok (.lrem, 1)) (hne : ¬ y = 0) (k : zV M X sk S L cn (pc + 1) lv (.long (x - x / y * y) :: st) post) : zV M X sk S L cn pc lv (.long y :: .long x :: st) post := by
  intro p l e s m args below meth c H locs A ad ad0 n0 D cs ls hX hn hP hD hS hl
  exact lv_lrem hX.1.1 hX.1.2.1 d hne (k p l e s m args below meth c H locs A ad ad0 n0 D cs ls hX hn hP hD hS hl)
theorem zi_i2l {x : Int32} (d : decode (zb M) pc = .ok (.i2l, 1)) (k : zV M X sk S L cn (pc + 1) lv (.long x.toInt64 :: st) post) : zV M X sk S L cn pc lv (.int x :: st) post := by
  intro p l e s m args below meth c H locs A ad ad0 n0 D cs ls hX hn hP hD hS hl
  exact lv_i2l hX.1.1 hX.1.2.1 d rfl (k p l e s m args below meth c H locs A ad ad0 n0 D cs ls hX hn hP hD hS hl)
theorem zi_i2b {x : Int32} (d : decode (zb M) pc = .ok (.i2b, 1)) (k : zV M X sk S L cn (pc + 1) lv (.int x.toInt8.toInt32 :: st) post) : zV M X sk S L cn pc lv (.int x :: st) post := by
  intro p l e s m args below meth c H locs A ad ad0 n0 D cs ls hX hn hP hD hS hl
  exact lv_i2b hX.1.1 hX.1.2.1 d rfl (k p l e s m args below meth c H locs A ad ad0 n0 D cs ls hX hn hP hD hS hl)
theorem zi_i2s {x : Int32} (d : decode (zb M) pc = .ok (.i2s, 1)) (k : zV M X sk S L cn (pc + 1) lv (.int x.toInt16.toInt32 :: st) post) : zV M X sk S L cn pc lv (.int x :: st) post := by
  intro p l e s m args below meth c H locs A ad ad0 n0 D cs ls hX hn hP hD hS hl
  exact lv_i2s hX.1.1 hX.1.2.1 d rfl (k p l e s m args below meth c H locs A ad ad0 n0 D cs ls hX hn hP hD hS hl)
theorem zi_i2c {x : Int32} (d : decode (zb M) pc = .ok (.i2c, 1)) (k : zV M X sk S L cn (pc + 1) lv (.int (x.toUInt32 % 65536).toInt32 :: st) post) : zV M X sk S L cn pc lv (.int x :: st) post := by
  intro p l e s m args below meth c H locs A ad ad0 n0 D cs ls hX hn hP hD hS hl
  exact lv_i2c hX.1.1 hX.1.2.1 d rfl (k p l e s m args below meth c H locs A ad ad0 n0 D cs ls hX hn hP hD hS hl)
theorem zi_iushr {x y : Int32} (d : decode (zb M) pc = .ok (.iushr, 1)) (k : zV M X sk S L cn (pc + 1) lv (.int (x.toUInt32 >>> (y.toUInt32 &&& Int32.toUInt32 31)).toInt32 :: st) post) : zV M X sk S L cn pc lv (.int y :: .int x :: st) post := by
  intro p l e s m args below meth c H locs A ad ad0 n0 D cs ls hX hn hP hD hS hl
  exact lv_iushr hX.1.1 hX.1.2.1 d rfl (k p l e s m args below meth c H locs A ad ad0 n0 D cs ls hX hn hP hD hS hl)
theorem zi_lshl {x : Int64} {y : Int32} (d : decode (zb M) pc = .ok (.lshl, 1)) (k : zV M X sk S L cn (pc + 1) lv (.long (x <<< (y.toInt64 &&& 63)) :: st) post) : zV M X sk S L cn pc lv (.int y :: .long x :: st) post := by
  intro p l e s m args below meth c H locs A ad ad0 n0 D cs ls hX hn hP hD hS hl
  exact lv_lshl hX.1.1 hX.1.2.1 d rfl (k p l e s m args below meth c H locs A ad ad0 n0 D cs ls hX hn hP hD hS hl)
theorem zi_lshr {x : Int64} {y : Int32} (d : decode (zb M) pc = .ok (.lshr, 1)) (k : zV M X sk S L cn (pc + 1) lv (.long (x >>> (y.toInt64 &&& 63)) :: st) post) : zV M X sk S L cn pc lv (.int y :: .long x :: st) post := by
  intro p l e s m args below meth c H locs A ad ad0 n0 D cs ls hX hn hP hD hS hl
  exact lv_lshr hX.1.1 hX.1.2.1 d rfl (k p l e s m args below meth c H locs A ad ad0 n0 D cs ls hX hn hP hD hS hl)
theorem zi_lcmp {x y : Int64} (d : decode (zb M) pc = .ok (.lcmp, 1)) (k : zV M X sk S L cn (pc + 1) lv (.int (lg_cmp x y) :: st) post) : zV M X sk S L cn pc lv (.long y :: .long x :: st) post := by
  intro p l e s m args below meth c H locs A ad ad0 n0 D cs ls hX hn hP hD hS hl
  exact W.lcmp hX.1.1 hX.1.2.1 d (k p l e s m args below meth c H locs A ad ad0 n0 D cs ls hX hn hP hD hS hl)
theorem zi_dup {v : Value} (d : decode (zb M) pc = .ok (.dup, 1)) (hv : v.category = 1) (k : zV M X sk S L cn (pc + 1) lv (v :: v :: st) post) : zV M X sk S L cn pc lv (v :: st) post := by
  intro p l e s m args below meth c H locs A ad ad0 n0 D cs ls hX hn hP hD hS hl
  exact lv_dup hX.1.1 hX.1.2.1 d ((zv_cat ad v).trans hv) (k p l e s m args below meth c H locs A ad ad0 n0 D cs ls hX hn hP hD hS hl)
theorem zi_pop {v : Value} (d : decode (zb M) pc = .ok (.pop, 1)) (hv : v.category = 1) (k : zV M X sk S L cn (pc + 1) lv st post) : zV M X sk S L cn pc lv (v :: st) post := by
  intro p l e s m args below meth c H locs A ad ad0 n0 D cs ls hX hn hP hD hS hl
  exact lv_pop hX.1.1 hX.1.2.1 d ((zv_cat ad v).trans hv) (k p l e s m args below meth c H locs A ad ad0 n0 D cs ls hX hn hP hD hS hl)
theorem zi_dup2_11 {v w : Value} (d : decode (zb M) pc = .ok (.dup2, 1)) (hv : v.category = 1) (hw : w.category = 1) (k : zV M X sk S L cn (pc + 1) lv (v :: w :: v :: w :: st) post) : zV M X sk S L cn pc lv (v :: w :: st) post := by
  intro p l e s m args below meth c H locs A ad ad0 n0 D cs ls hX hn hP hD hS hl
  exact lv_dup2_11 hX.1.1 hX.1.2.1 d ((zv_cat ad v).trans hv) ((zv_cat ad w).trans hw) (k p l e s m args below meth c H locs A ad ad0 n0 D cs ls hX hn hP hD hS hl)
theorem zi_dup2_2 {v : Value} (d : decode (zb M) pc = .ok (.dup2, 1)) (hv : v.category = 2) (k : zV M X sk S L cn (pc + 1) lv (v :: v :: st) post) : zV M X sk S L cn pc lv (v :: st) post := by
  intro p l e s m args below meth c H locs A ad ad0 n0 D cs ls hX hn hP hD hS hl
  exact lv_dup2_2 hX.1.1 hX.1.2.1 d ((zv_cat ad v).trans hv) (k p l e s m args below meth c H locs A ad ad0 n0 D cs ls hX hn hP hD hS hl)
theorem zi_if_eq {x : Int32} {off : Int} {tgt : Nat} (d : decode (zb M) pc = .ok (.ifCond .eq off, 3)) (ht : (pc : Int) + off = (tgt : Int)) (kt : x = 0 → zV M X sk S L cn tgt lv st post) (kf : ¬ x = 0 → zV M X sk S L cn (pc + 3) lv st post) : zV M X sk S L cn pc lv (.int x :: st) post := by
  intro p l e s m args below meth c H locs A ad ad0 n0 D cs ls hX hn hP hD hS hl
  exact lv_if_eq hX.1.1 hX.1.2.1 d ht (fun q => kt q p l e s m args below meth c H locs A ad ad0 n0 D cs ls hX hn hP hD hS hl) (fun q => kf q p l e s m args below meth c H locs A ad ad0 n0 D cs ls hX hn hP hD hS hl)
theorem zi_icmp_eq {x y : Int32} {off : Int} {tgt : Nat} (d : decode (zb M) pc = .ok (.if_icmp .eq off, 3)) (ht : (pc : Int) + off = (tgt : Int)) (kt : x = y → zV M X sk S L cn tgt lv st post) (kf : ¬ x = y → zV M X sk S L cn (pc + 3) lv st post) : zV M X sk S L cn pc lv (.int y :: .int x :: st) post := by
  intro p l e s m args below meth c H locs A ad ad0 n0 D cs ls hX hn hP hD hS hl
  exact lv_icmp_eq hX.1.1 hX.1.2.1 d ht (fun q => kt q p l e s m args below meth c H locs A ad ad0 n0 D cs ls hX hn hP hD hS hl) (fun q => kf q p l e s m args below meth c H locs A ad ad0 n0 D cs ls hX hn hP hD hS hl)
theorem zi_if_lt {x : Int32} {off : Int} {tgt : Nat} (d : decode (zb M) pc = .ok (.ifCond .lt off, 3)) (ht : (pc : Int) + off = (tgt : Int)) (kt : x < 0 → zV M X sk S L cn tgt lv st post) (kf : ¬ x < 0 → zV M X sk S L cn (pc + 3) lv st post) : zV M X sk S L cn pc lv (.int x :: st) post := by
  intro p l e s m args below meth c H locs A ad ad0 n0 D cs ls hX hn hP hD hS hl
  exact lv_if_lt hX.1.1 hX.1.2.1 d ht (fun q => kt q p l e s m args below meth c H locs A ad ad0 n0 D cs ls hX hn hP hD hS hl) (fun q => kf q p l e s m args below meth c H locs A ad ad0 n0 D cs ls hX hn hP hD hS hl)
theorem zi_icmp_lt {x y : Int32} {off : Int} {tgt : Nat} (d : decode (zb M) pc = .ok (.if_icmp .lt off, 3)) (ht : (pc : Int) + off = (tgt : Int)) (kt : x < y → zV M X sk S L cn tgt lv st post) (kf : ¬ x < y → zV M X sk S L cn (pc + 3) lv st post) : zV M X sk S L cn pc lv (.int y :: .int x :: st) post := by
  intro p l e s m args below meth c H locs A ad ad0 n0 D cs ls hX hn hP hD hS hl
  exact lv_icmp_lt hX.1.1 hX.1.2.1 d ht (fun q => kt q p l e s m args below meth c H locs A ad ad0 n0 D cs ls hX hn hP hD hS hl) (fun q => kf q p l e s m args below meth c H locs A ad ad0 n0 D cs ls hX hn hP hD hS hl)
theorem zi_if_ge {x : Int32} {off : Int} {tgt : Nat} (d : decode (zb M) pc = .ok (.ifCond .ge off, 3)) (ht : (pc : Int) + off = (tgt : Int)) (kt : 0 ≤ x → zV M X sk S L cn tgt lv st post) (kf : ¬ 0 ≤ x → zV M X sk S L cn (pc + 3) lv st post) : zV M X sk S L cn pc lv (.int x :: st) post := by
  intro p l e s m args below meth c H locs A ad ad0 n0 D cs ls hX hn hP hD hS hl
  exact lv_if_ge hX.1.1 hX.1.2.1 d ht (fun q => kt q p l e s m args below meth c H locs A ad ad0 n0 D cs ls hX hn hP hD hS hl) (fun q => kf q p l e s m args below meth c H locs A ad ad0 n0 D cs ls hX hn hP hD hS hl)
theorem zi_icmp_ge {x y : Int32} {off : Int} {tgt : Nat} (d : decode (zb M) pc = .ok (.if_icmp .ge off, 3)) (ht : (pc : Int) + off = (tgt : Int)) (kt : y ≤ x → zV M X sk S L cn tgt lv st post) (kf : ¬ y ≤ x → zV M X sk S L cn (pc + 3) lv st post) : zV M X sk S L cn pc lv (.int y :: .int x :: st) post := by
  intro p l e s m args below meth c H locs A ad ad0 n0 D cs ls hX hn hP hD hS hl
  exact lv_icmp_ge hX.1.1 hX.1.2.1 d ht (fun q => kt q p l e s m args below meth c H locs A ad ad0 n0 D cs ls hX hn hP hD hS hl) (fun q => kf q p l e s m args below meth c H locs A ad ad0 n0 D cs ls hX hn hP hD hS hl)
theorem zi_if_gt {x : Int32} {off : Int} {tgt : Nat} (d : decode (zb M) pc = .ok (.ifCond .gt off, 3)) (ht : (pc : Int) + off = (tgt : Int)) (kt : 0 < x → zV M X sk S L cn tgt lv st post) (kf : ¬ 0 < x → zV M X sk S L cn (pc + 3) lv st post) : zV M X sk S L cn pc lv (.int x :: st) post := by
  intro p l e s m args below meth c H locs A ad ad0 n0 D cs ls hX hn hP hD hS hl
  exact lv_if_gt hX.1.1 hX.1.2.1 d ht (fun q => kt q p l e s m args below meth c H locs A ad ad0 n0 D cs ls hX hn hP hD hS hl) (fun q => kf q p l e s m args below meth c H locs A ad ad0 n0 D cs ls hX hn hP hD hS hl)
theorem zi_icmp_gt {x y : Int32} {off : Int} {tgt : Nat} (d : decode (zb M) pc = .ok (.if_icmp .gt off, 3)) (ht : (pc : Int) + off = (tgt : Int)) (kt : y < x → zV M X sk S L cn tgt lv st post) (kf : ¬ y < x → zV M X sk S L cn (pc + 3) lv st post) : zV M X sk S L cn pc lv (.int y :: .int x :: st) post := by
  intro p l e s m args below meth c H locs A ad ad0 n0 D cs ls hX hn hP hD hS hl
  exact lv_icmp_gt hX.1.1 hX.1.2.1 d ht (fun q => kt q p l e s m args below meth c H locs A ad ad0 n0 D cs ls hX hn hP hD hS hl) (fun q => kf q p l e s m args below meth c H locs A ad ad0 n0 D cs ls hX hn hP hD hS hl)
theorem zi_if_le {x : Int32} {off : Int} {tgt : Nat} (d : decode (zb M) pc = .ok (.ifCond .le off, 3)) (ht : (pc : Int) + off = (tgt : Int)) (kt : x ≤ 0 → zV M X sk S L cn tgt lv st post) (kf : ¬ x ≤ 0 → zV M X sk S L cn (pc + 3) lv st post) : zV M X sk S L cn pc lv (.int x :: st) post := by
  intro p l e s m args below meth c H locs A ad ad0 n0 D cs ls hX hn hP hD hS hl
  exact lv_if_le hX.1.1 hX.1.2.1 d ht (fun q => kt q p l e s m args below meth c H locs A ad ad0 n0 D cs ls hX hn hP hD hS hl) (fun q => kf q p l e s m args below meth c H locs A ad ad0 n0 D cs ls hX hn hP hD hS hl)
theorem zi_icmp_le {x y : Int32} {off : Int} {tgt : Nat} (d : decode (zb M) pc = .ok (.if_icmp .le off, 3)) (ht : (pc : Int) + off = (tgt : Int)) (kt : x ≤ y → zV M X sk S L cn tgt lv st post) (kf : ¬ x ≤ y → zV M X sk S L cn (pc + 3) lv st post) : zV M X sk S L cn pc lv (.int y :: .int x :: st) post := by
  intro p l e s m args below meth c H locs A ad ad0 n0 D cs ls hX hn hP hD hS hl
  exact lv_icmp_le hX.1.1 hX.1.2.1 d ht (fun q => kt q p l e s m args below meth c H locs A ad ad0 n0 D cs ls hX hn hP hD hS hl) (fun q => kf q p l e s m args below meth c H locs A ad ad0 n0 D cs ls hX hn hP hD hS hl)
theorem zi_if_ne {x : Int32} {off : Int} {tgt : Nat} (d : decode (zb M) pc = .ok (.ifCond .ne off, 3)) (ht : (pc : Int) + off = (tgt : Int)) (kt : ¬ x = 0 → zV M X sk S L cn tgt lv st post) (kf : x = 0 → zV M X sk S L cn (pc + 3) lv st post) : zV M X sk S L cn pc lv (.int x :: st) post := by
  intro p l e s m args below meth c H locs A ad ad0 n0 D cs ls hX hn hP hD hS hl
  exact lv_if_ne hX.1.1 hX.1.2.1 d ht (fun q => kt q p l e s m args below meth c H locs A ad ad0 n0 D cs ls hX hn hP hD hS hl) (fun q => kf q p l e s m args below meth c H locs A ad ad0 n0 D cs ls hX hn hP hD hS hl)
theorem zi_icmp_ne {x y : Int32} {off : Int} {tgt : Nat} (d : decode (zb M) pc = .ok (.if_icmp .ne off, 3)) (ht : (pc : Int) + off = (tgt : Int)) (kt : ¬ x = y → zV M X sk S L cn tgt lv st post) (kf : x = y → zV M X sk S L cn (pc + 3) lv st post) : zV M X sk S L cn pc lv (.int y :: .int x :: st) post := by
  intro p l e s m args below meth c H locs A ad ad0 n0 D cs ls hX hn hP hD hS hl
  exact lv_icmp_ne hX.1.1 hX.1.2.1 d ht (fun q => kt q p l e s m args below meth c H locs A ad ad0 n0 D cs ls hX hn hP hD hS hl) (fun q => kf q p l e s m args below meth c H locs A ad ad0 n0 D cs ls hX hn hP hD hS hl)
theorem zi_goto {off : Int} {tgt : Nat} (d : decode (zb M) pc = .ok (.goto off, 3)) (ht : (pc : Int) + off = (tgt : Int)) (k : zV M X sk S L cn tgt lv st post) : zV M X sk S L cn pc lv st post := by
  intro p l e s m args below meth c H locs A ad ad0 n0 D cs ls hX hn hP hD hS hl
  exact lv_goto hX.1.1 hX.1.2.1 d ht (k p l e s m args below meth c H locs A ad ad0 n0 D cs ls hX hn hP hD hS hl)
theorem zi_tableOut {dflt lo hi : Int} {offs : Array Int} {len : Nat} {x : Int32} {tgt : Nat} (d : decode (zb M) pc = .ok (.tableswitch dflt lo hi offs, len)) (h : x.toInt < lo ∨ hi < x.toInt) (ht : (pc : Int) + dflt = (tgt : Int)) (k : zV M X sk S L cn tgt lv st post) : zV M X sk S L cn pc lv (.int x :: st) post := by
  intro p l e s m args below meth c H locs A ad ad0 n0 D cs ls hX hn hP hD hS hl
  exact lv_tableOut hX.1.1 hX.1.2.1 d h ht (k p l e s m args below meth c H locs A ad ad0 n0 D cs ls hX hn hP hD hS hl)
theorem zi_tableIn {dflt lo hi : Int} {offs : Array Int} {len : Nat} {x : Int32} {off : Int} {tgt : Nat} (d : decode (zb M) pc = .ok (.tableswitch dflt lo hi offs, len)) (h1 : ¬ x.toInt < lo) (h2 : ¬ hi < x.toInt) (ho : offs[(x.toInt - lo).toNat]? = some off) (ht : (pc : Int) + off = (tgt : Int)) (k : zV M X sk S L cn tgt lv st post) : zV M X sk S L cn pc lv (.int x :: st) post := by
  intro p l e s m args below meth c H locs A ad ad0 n0 D cs ls hX hn hP hD hS hl
  exact lv_tableIn hX.1.1 hX.1.2.1 d h1 h2 ho ht (k p l e s m args below meth c H locs A ad ad0 n0 D cs ls hX hn hP hD hS hl)
theorem zi_lookup {dflt : Int} {ps : Array (Int × Int)} {len : Nat} {x : Int32} {off : Int} {tgt : Nat} (d : decode (zb M) pc = .ok (.lookupswitch dflt ps, len)) (hp : (ps.toList.zip (ps.toList.drop 1)).all (fun (a, next) => a.1 < next.1) = true) (ho : Op.lookupswitch.offset ps.toList dflt x.toInt = off) (ht : (pc : Int) + off = (tgt : Int)) (k : zV M X sk S L cn tgt lv st post) : zV M X sk S L cn pc lv (.int x :: st) post := by
  intro p l e s m args below meth c H locs A ad ad0 n0 D cs ls hX hn hP hD hS hl
  exact lv_lookup hX.1.1 hX.1.2.1 d hp ho ht (k p l e s m args below meth c H locs A ad ad0 n0 D cs ls hX hn hP hD hS hl)
theorem zi_ldc {i : Nat} {v : Int32} (d : decode (zb M) pc = .ok (.ldc i, 2)) (hc : Cond.constant (zy M).cls i v ∈ zTB) (k : zV M X sk S L cn (pc + 2) lv (.int v :: st) post) : zV M X sk S L cn pc lv st post := by
  intro p l e s m args below meth c H locs A ad ad0 n0 D cs ls hX hn hP hD hS hl
  exact lv_ldc hX.1.1 hX.1.2.1 hX.1.2.2.2.2.1 (hX.1.2.2.2.2.2.1 _ hc) d (k p l e s m args below meth c H locs A ad ad0 n0 D cs ls hX hn hP hD hS hl)
theorem zi_ldcw {i : Nat} {v : Int32} (d : decode (zb M) pc = .ok (.ldc_w i, 3)) (hc : Cond.constant (zy M).cls i v ∈ zTB) (k : zV M X sk S L cn (pc + 3) lv (.int v :: st) post) : zV M X sk S L cn pc lv st post := by
  intro p l e s m args below meth c H locs A ad ad0 n0 D cs ls hX hn hP hD hS hl
  exact lv_ldcw hX.1.1 hX.1.2.1 hX.1.2.2.2.2.1 (hX.1.2.2.2.2.2.1 _ hc) d (k p l e s m args below meth c H locs A ad ad0 n0 D cs ls hX hn hP hD hS hl)
theorem zi_ldc2 {i : Nat} {v : Int64} (d : decode (zb M) pc = .ok (.ldc2_w i, 3)) (hc : Cond.constantLong (zy M).cls i v ∈ zTB) (k : zV M X sk S L cn (pc + 3) lv (.long v :: st) post) : zV M X sk S L cn pc lv st post := by
  intro p l e s m args below meth c H locs A ad ad0 n0 D cs ls hX hn hP hD hS hl
  exact lv_ldc2 hX.1.1 hX.1.2.1 hX.1.2.2.2.2.1 (hX.1.2.2.2.2.2.1 _ hc) d (k p l e s m args below meth c H locs A ad ad0 n0 D cs ls hX hn hP hD hS hl)
/-- a String constant -/
theorem zi_ldcS {i j : Nat} (hj : j < zSn) (ho : (zSo' j).1 = (zy M).cls ∧ (zSo' j).2.1 = i) (d : decode (zb M) pc = .ok (.ldc i, 2)) (k : zV M X sk S L cn (pc + 2) lv (.ref (1000 + j) :: st) post) : zV M X sk S L cn pc lv st post := by
  intro p l e s m args below meth c H locs A ad ad0 n0 D cs ls hX hn hP hD hS hl
  have hR := hX.2.2.1.2.1 j hj
  rw [ho.1, ho.2] at hR
  exact va_ldcS hX.1.1 hX.1.2.1 hX.1.2.2.2.2.1 hR d (k p l e s m args below meth c H locs A ad ad0 n0 D cs ls hX hn hP hD hS hl)
end ZI
/-! fields -/
def zcls (ci : Nat) (C : String) (T : u_T) (N : Nat) (ty : Nat → FieldType) : Prop := vwCl[ci]? = some (C, T, N) ∧ (∀ w ∈ u_ws C T N, w ∈ zTB) ∧ (∀ k, k < N → parseFieldDescriptor (T k).2.2.1 = some (ty k)) ∧ (∀ a, a < N → ∀ b, b < N → a ≠ b → (T a).2.1 ≠ (T b).2.1)
theorem zcls0 : zcls 0 RX0 TX0 6 tyX0 := ⟨rfl, inX0, tyX0_ok, nmX0⟩
theorem zcls1 : zcls 1 RX1 TX1 2 tyX1 := ⟨rfl, inX1, tyX1_ok, nmX1⟩
theorem zcls2 : zcls 2 RX2 TX2 6 tyX2 := ⟨rfl, inX2, tyX2_ok, nmX2⟩
theorem zcls3 : zcls 3 RX3 TX3 3 tyX3 := ⟨rfl, inX3, tyX3_ok, nmX3⟩
theorem zcls4 : zcls 4 RX4 TX4 11 tyX4 := ⟨rfl, inX4, tyX4_ok, nmX4⟩
theorem zcls5 : zcls 5 RX5 TX5 4 tyX5 := ⟨rfl, inX5, tyX5_ok, nmX5⟩
theorem zcls6 : zcls 6 RX6 TX6 4 tyX6 := ⟨rfl, inX6, tyX6_ok, nmX6⟩
theorem zcls7 : zcls 7 RX7 TX7 5 tyX7 := ⟨rfl, inX7, tyX7_ok, nmX7⟩
theorem zcls8 : zcls 8 RX8 TX8 7 tyX8 := ⟨rfl, inX8, tyX8_ok, nmX8⟩
theorem zcls9 : zcls 9 RX9 TX9 5 tyX9 := ⟨rfl, inX9, tyX9_ok, nmX9⟩
theorem zcls10 : zcls 10 RX10 TX10 10 tyX10 := ⟨rfl, inX10, tyX10_ok, nmX10⟩
theorem zcls11 : zcls 11 RX11 TX11 56 tyX11 := ⟨rfl, inX11, tyX11_ok, nmX11⟩
/-- the entry idx of the class own is the field j of the class ci -/
def zfl (own : String) (idx ci j : Nat) : Prop := ∃ (C : String) (T : u_T) (N : Nat) (ty : Nat → FieldType), zcls ci C T N ty ∧ j < N ∧ Cond.fieldLink own idx (T j).1 (T j).2.1 (T j).2.2.1 ∈ zTB
def zfp (own : String) (idx ci j : Nat) (fin : Bool) (t : FieldType) : Prop := ∃ (C : String) (T : u_T) (N : Nat) (ty : Nat → FieldType), zcls ci C T N ty ∧ j < N ∧ Cond.fieldLink own idx (T j).1 (T j).2.1 (T j).2.2.1 ∈ zTB ∧ (T j).2.2.2 = fin ∧ parseFieldDescriptor (T j).2.2.1 = some t ∧ (fin = true → (T j).1 = own)
section ZF
variable {M : zM} {X : Nat × (Nat → Int32)} {sk : List zK} {S : zS} {L : zL} {cn : Nat × Nat} {pc : Nat} {lv : List (Option Value)} {st : List Value} {post : zP}
theorem zi_getv {idx ci j k : Nat} {fl : List (Option (Option Nat))} {f : Option (Option Nat)} (hf : zfl (zy M).cls idx ci j) (hk : sk[k]? = some (.inr (ci, fl))) (hj : fl[j]? = some f) (d : decode (zb M) pc = .ok (.getfield idx, 3)) {v : Value} (hv : ∀ ad, zv ad v = zf ad S k j f) (kk : zV M X sk S L cn (pc + 3) lv (v :: st) post) : zV M X sk S L cn pc lv (.ref k :: st) post := by
  intro p l e s m args below meth c H locs A ad ad0 n0 D cs ls hX hn hP hD hS hl
  obtain ⟨C, T, N, ty, ⟨hc, hin, hty, hnm⟩, hN, hlk⟩ := hf
  have h1 := kk p l e s m args below meth c H locs A ad ad0 n0 D cs ls hX hn hP hD hS hl
  refine va_get (D := D) (ci := ci) (v := zv ad v) (C := C) (T := T) (N := N) hX.1.1 hX.1.2.1 hX.1.2.2.2.2.2.1 hin hX.1.2.2.2.2.1 hX.2.1.1 hP k (zw_get hk) hc j hN (hX.1.2.2.2.2.2.1 _ hlk) (fun _ h9 => h9) ?_ d h1
  rw [hv, List.getElem?_mapIdx, hj]
  rfl
theorem zi_geti {idx ci j k : Nat} {fl : List (Option (Option Nat))} (hf : zfl (zy M).cls idx ci j) (hk : sk[k]? = some (.inr (ci, fl))) (hj : fl[j]? = some none) (d : decode (zb M) pc = .ok (.getfield idx, 3)) (kk : zV M X sk S L cn (pc + 3) lv (.int (S k j) :: st) post) : zV M X sk S L cn pc lv (.ref k :: st) post := zi_getv hf hk hj d (fun _ => rfl) kk
theorem zi_getr {idx ci j k r : Nat} {fl : List (Option (Option Nat))} (hf : zfl (zy M).cls idx ci j) (hk : sk[k]? = some (.inr (ci, fl))) (hj : fl[j]? = some (some (some r))) (d : decode (zb M) pc = .ok (.getfield idx, 3)) (kk : zV M X sk S L cn (pc + 3) lv (.ref r :: st) post) : zV M X sk S L cn pc lv (.ref k :: st) post := zi_getv hf hk hj d (fun _ => rfl) kk
theorem zi_putv {idx ci j k : Nat} {t : FieldType} {x : Int32} {fl : List (Option (Option Nat))} (hf : zfp (zy M).cls idx ci j false t) (hk : sk[k]? = some (.inr (ci, fl))) (hj : fl[j]? = some none) (hnr : narrow t (.int x) = .int x) (hft : fits t (.int x) = true) (d : decode (zb M) pc = .ok (.putfield idx, 3)) (kk : zV M X sk (zc S k (upd (S k) j x)) L cn (pc + 3) lv st post) : zV M X sk S L cn pc lv (.int x :: .ref k :: st) post := by
  intro p l e s m args below meth c H locs A ad ad0 n0 D cs ls hX hn hP hD hS hl
  obtain ⟨C, T, N, ty, ⟨hc, hin, hty, hnm⟩, hN, hlk, hfin, hpd, -⟩ := hf
  have hjl : j < fl.length := (List.getElem?_eq_some_iff.mp hj).1
  refine va_put (D := D) (ci := ci) (v := .int x) (ty := t) (C := C) (T := T) (N := N) hX.1.1 hX.1.2.1 hX.1.2.2.2.2.2.1 hin ty hty hnm hX.1.2.2.2.2.1 hX.2.1.1 hP hD hS k (zw_get hk) hc j hN (hX.1.2.2.2.2.2.1 _ hlk) (fun _ h9 => h9) hfin hpd hnr hft (by simp; exact hjl) d (fun H locs hP hD hS => ?_)
  have e1 : (zw ad cs sk S L).set k (ad k, .inr (ci, (fl.mapIdx (zf ad S k)).set j (.int x))) = zw ad cs sk (zc S k (upd (S k) j x)) L := by
    rw [zf_set hj]
    exact zw_set1 hk (fun i hi => zc_ne _ _ hi) (fun _ _ => rfl)
  rw [e1] at hP hD
  exact kk p l e s m args below meth c H locs A ad ad0 n0 D cs ls hX hn hP hD hS hl
theorem zi_puti {idx ci j k : Nat} {x : Int32} {fl : List (Option (Option Nat))} (hf : zfp (zy M).cls idx ci j false .int) (hk : sk[k]? = some (.inr (ci, fl))) (hj : fl[j]? = some none) (d : decode (zb M) pc = .ok (.putfield idx, 3)) (kk : zV M X sk (zc S k (upd (S k) j x)) L cn (pc + 3) lv st post) : zV M X sk S L cn pc lv (.int x :: .ref k :: st) post := zi_putv hf hk hj rfl rfl d kk
/-- a final field, in its constructor -/
theorem zi_putr {idx ci j k r : Nat} {t : FieldType} {fl : List (Option (Option Nat))} (hf : zfp (zy M).cls idx ci j true t) (hi : (zy M).name = "<init>") (hk : sk[k]? = some (.inr (ci, fl))) (hj : j < fl.length) (hnr : ∀ a, narrow t (.ref a) = .ref a) (hft : ∀ a, fits t (.ref a) = true) (d : decode (zb M) pc = .ok (.putfield idx, 3)) (kk : zV M X (sk.set k (.inr (ci, fl.set j (some (some r))))) S L cn (pc + 3) lv st post) : zV M X sk S L cn pc lv (.ref r :: .ref k :: st) post := by
  intro p l e s m args below meth c H locs A ad ad0 n0 D cs ls hX hn hP hD hS hl
  obtain ⟨C, T, N, ty, ⟨hc, hin, hty, hnm⟩, hN, hlk, hfin, hpd, hown⟩ := hf
  refine va_putF (D := D) (ci := ci) (v := .ref (ad r)) (ty := t) (C := C) (T := T) (N := N) hX.1.1 hX.1.2.1 hX.1.2.2.2.2.2.1 hin ty hty hnm hX.1.2.2.2.2.1 hX.2.1.1 hP hD hS k (zw_get hk) hc j hN (hX.1.2.2.2.2.2.1 _ hlk) (fun _ h9 => h9) hfin (hX.1.2.2.2.2.2.2.1.trans hi) (hown rfl) hpd (hnr _) (hft _) (by simp; exact hj) d (fun H locs hP hD hS => ?_)
  have e1 : (zw ad cs sk S L).set k (ad k, .inr (ci, (fl.mapIdx (zf ad S k)).set j (.ref (ad r)))) = zw ad cs (sk.set k (.inr (ci, fl.set j (some (some r))))) S L := by
    rw [zf_setR hj]
    exact zw_set (c' := .inr (ci, fl.set j (some (some r)))) hk (fun _ _ => rfl) (fun _ _ => rfl)
  rw [e1] at hP hD
  exact kk p l e s m args below meth c H locs A ad ad0 n0 D cs ls hX ⟨by rw [List.length_set]; exact hn.1, hn.2⟩ hP hD hS hl
/-! arrays -/
theorem zi_iald {k n : Nat} {i : Int32} (hk : sk[k]? = some (.inl (0, n))) (hi : vp_in i n) (d : decode (zb M) pc = .ok (.iaload, 1)) (kk : zV M X sk S L cn (pc + 1) lv (.int (S k i.toNatClampNeg) :: st) post) : zV M X sk S L cn pc lv (.int i :: .ref k :: st) post := by
  intro p l e s m args below meth c H locs A ad ad0 n0 D cs ls hX hn hP hD hS hl
  exact va_iald (f := S k) hX.1.1 hX.1.2.1 hX.2.1.1 hP k 0 (zw_get hk) rfl hi d (kk p l e s m args below meth c H locs A ad ad0 n0 D cs ls hX hn hP hD hS hl)
theorem zi_lald {k n : Nat} {i : Int32} (hk : sk[k]? = some (.inl (1, n))) (hi : vp_in i n) (d : decode (zb M) pc = .ok (.laload, 1)) (kk : zV M X sk S L cn (pc + 1) lv (.long (L k i.toNatClampNeg) :: st) post) : zV M X sk S L cn pc lv (.int i :: .ref k :: st) post := by
  intro p l e s m args below meth c H locs A ad ad0 n0 D cs ls hX hn hP hD hS hl
  exact va_lald (f := L k) hX.1.1 hX.1.2.1 hX.2.1.1 hP k 1 (zw_get hk) rfl hi d (kk p l e s m args below meth c H locs A ad ad0 n0 D cs ls hX hn hP hD hS hl)
theorem zi_zald {k n : Nat} {i : Int32} (hk : sk[k]? = some (.inl (2, n))) (hi : vp_in i n) (d : decode (zb M) pc = .ok (.baload, 1)) (kk : zV M X sk S L cn (pc + 1) lv (.int (S k i.toNatClampNeg) :: st) post) : zV M X sk S L cn pc lv (.int i :: .ref k :: st) post := by
  intro p l e s m args below meth c H locs A ad ad0 n0 D cs ls hX hn hP hD hS hl
  exact va_zald (f := S k) hX.1.1 hX.1.2.1 hX.2.1.1 hP k 2 (zw_get hk) rfl hi d (kk p l e s m args below meth c H locs A ad ad0 n0 D cs ls hX hn hP hD hS hl)
theorem zi_iast {k n : Nat} {i x : Int32} (hk : sk[k]? = some (.inl (0, n))) (hi : vp_in i n) (d : decode (zb M) pc = .ok (.iastore, 1)) (kk : zV M X sk (zc S k (upd (S k) i.toNatClampNeg x)) L cn (pc + 1) lv st post) : zV M X sk S L cn pc lv (.int x :: .int i :: .ref k :: st) post := by
  intro p l e s m args below meth c H locs A ad ad0 n0 D cs ls hX hn hP hD hS hl
  refine va_iast (f := S k) hX.1.1 hX.1.2.1 hX.2.1.1 hP hD hS k 0 (zw_get hk) rfl hi d (fun H locs hP hD hS => ?_)
  have e1 : (zw ad cs sk S L).set k (ad k, .inl (cs.1, n, .inl (upd (S k) i.toNatClampNeg x))) = zw ad cs sk (zc S k (upd (S k) i.toNatClampNeg x)) L := by
    rw [← zw_set1 (S' := zc S k (upd (S k) i.toNatClampNeg x)) (L' := L) hk (fun i hi => zc_ne _ _ hi) (fun _ _ => rfl)]
    simp only [ze, zc_eq]
  rw [e1] at hP hD
  exact kk p l e s m args below meth c H locs A ad ad0 n0 D cs ls hX hn hP hD hS hl
theorem zi_zast {k n : Nat} {i x : Int32} (hk : sk[k]? = some (.inl (2, n))) (hi : vp_in i n) (d : decode (zb M) pc = .ok (.bastore, 1)) (kk : zV M X sk (zc S k (upd (S k) i.toNatClampNeg (vp_nar .boolean x))) L cn (pc + 1) lv st post) : zV M X sk S L cn pc lv (.int x :: .int i :: .ref k :: st) post := by
  intro p l e s m args below meth c H locs A ad ad0 n0 D cs ls hX hn hP hD hS hl
  refine va_zast (f := S k) hX.1.1 hX.1.2.1 hX.2.1.1 hP hD hS k 2 (zw_get hk) rfl hi d (fun H locs hP hD hS => ?_)
  have e1 : (zw ad cs sk S L).set k (ad k, .inl (cs.2.2, n, .inl (upd (S k) i.toNatClampNeg (vp_nar .boolean x)))) = zw ad cs sk (zc S k (upd (S k) i.toNatClampNeg (vp_nar .boolean x))) L := by
    rw [← zw_set1 (S' := zc S k (upd (S k) i.toNatClampNeg (vp_nar .boolean x))) (L' := L) hk (fun i hi => zc_ne _ _ hi) (fun _ _ => rfl)]
    simp only [ze, zc_eq]
  rw [e1] at hP hD
  exact kk p l e s m args below meth c H locs A ad ad0 n0 D cs ls hX hn hP hD hS hl
theorem zi_last {k n : Nat} {i : Int32} {x : Int64} (hk : sk[k]? = some (.inl (1, n))) (hi : vp_in i n) (d : decode (zb M) pc = .ok (.lastore, 1)) (kk : zV M X sk S (zc L k (vp_updL (L k) i.toNatClampNeg x)) cn (pc + 1) lv st post) : zV M X sk S L cn pc lv (.long x :: .int i :: .ref k :: st) post := by
  intro p l e s m args below meth c H locs A ad ad0 n0 D cs ls hX hn hP hD hS hl
  refine va_last (f := L k) hX.1.1 hX.1.2.1 hX.2.1.1 hP hD hS k 1 (zw_get hk) rfl hi d (fun H locs hP hD hS => ?_)
  have e1 : (zw ad cs sk S L).set k (ad k, .inl (cs.2.1, n, .inr (.inl (vp_updL (L k) i.toNatClampNeg x)))) = zw ad cs sk S (zc L k (vp_updL (L k) i.toNatClampNeg x)) := by
    rw [← zw_set1 (S' := S) (L' := zc L k (vp_updL (L k) i.toNatClampNeg x)) hk (fun _ _ => rfl) (fun i hi => zc_ne _ _ hi)]
    simp only [ze, zc_eq]
  rw [e1] at hP hD
  exact kk p l e s m args below meth c H locs A ad ad0 n0 D cs ls hX hn hP hD hS hl
theorem zi_alen {k t n : Nat} {v : Int32} (hk : sk[k]? = some (.inl (t, n))) (hv : Int32.ofNat n = v) (d : decode (zb M) pc = .ok (.arraylength, 1)) (kk : zV M X sk S L cn (pc + 1) lv (.int v :: st) post) : zV M X sk S L cn pc lv (.ref k :: st) post := by
  intro p l e s m args below meth c H locs A ad ad0 n0 D cs ls hX hn hP hD hS hl
  have h1 := kk p l e s m args below meth c H locs A ad ad0 n0 D cs ls hX hn hP hD hS hl
  have hg := zw_get (ad := ad) (cs := cs) (S := S) (L := L) hk
  match t, hg with
  | 0, hg => exact va_alen hX.1.1 hX.1.2.1 hX.2.1.1 hP k 0 hg rfl hv d h1
  | 1, hg => exact va_alen hX.1.1 hX.1.2.1 hX.2.1.1 hP k 1 hg rfl hv d h1
  | _ + 2, hg => exact va_alen hX.1.1 hX.1.2.1 hX.2.1.1 hP k 2 hg rfl hv d h1
end ZF
