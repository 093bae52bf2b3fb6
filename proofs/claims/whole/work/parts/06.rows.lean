/-! NEW CELLS, THE LIBRARY'S OWN, TEXTS, THE SCRIPT -/
theorem zw_push {ad : Nat → Nat} {cs : zA} {sk : List zK} {S S' : zS} {L L' : zL} {q : Nat} {c : zK} (hok : sk.all (fun c => match c with | .inl _ => true | .inr o => o.2.all (fun f => match f with | some (some r) => decide (r < sk.length) || decide (900 ≤ r) | _ => true)) = true) (hb : sk.length < 900) (hS : ∀ i, i < sk.length → S' i = S i) (hL : ∀ i, i < sk.length → L' i = L i) : zw (zc ad sk.length q) cs (sk ++ [c]) S' L' = zw ad cs sk S L ++ [(q, ze (zc ad sk.length q) cs S' L' sk.length c)] := by
  apply List.ext_getElem?
  intro i
  by_cases hi : i < sk.length
  · rw [List.getElem?_append_left (by simp [zw]; exact hi)]
    simp only [zw, List.getElem?_mapIdx, List.getElem?_append_left hi]
    cases hc : sk[i]? with
    | none => rfl
    | some x =>
      have hx := List.all_eq_true.mp hok x (List.mem_of_getElem? hc)
      have e0 : zc ad sk.length q i = ad i := zc_ne _ _ (Nat.ne_of_lt hi)
      have e1 : ze (zc ad sk.length q) cs S' L' i x = ze ad cs S L i x := by
        rw [ze_congr (hS i hi) (hL i hi)]
        match x, hx with
        | .inl (0, n), _ => rfl
        | .inl (1, n), _ => rfl
        | .inl (_ + 2, n), _ => rfl
        | .inr (ci, fl), hx =>
          simp only [ze]
          congr 2
          apply List.ext_getElem?
          intro j
          simp only [List.getElem?_mapIdx]
          cases hf : fl[j]? with
          | none => rfl
          | some f =>
            have hf2 := List.all_eq_true.mp hx f (List.mem_of_getElem? hf)
            match f, hf2 with
            | none, _ => rfl
            | some none, _ => rfl
            | some (some r), h =>
              have : r ≠ sk.length := by
                intro e
                subst e
                simp at h
                omega
              simp [zf, zc_ne _ _ this]
      simp [e0, e1]
  · by_cases h2 : i = sk.length
    · subst h2
      rw [List.getElem?_append_right (by simp [zw])]
      simp [zw, List.getElem?_mapIdx, zc_eq]
    · rw [List.getElem?_eq_none (by simp [zw]; omega), List.getElem?_eq_none (by simp [zw]; omega)]
def zskok (sk : List zK) : Bool := sk.all (fun c => match c with | .inl _ => true | .inr o => o.2.all (fun f => match f with | some (some r) => decide (r < sk.length) || decide (900 ≤ r) | _ => true))
section ZN
variable {M : zM} {X : Nat × (Nat → Int32)} {sk : List zK} {S : zS} {L : zL} {cn : Nat × Nat} {pc : Nat} {lv : List (Option Value)} {st : List Value} {post : zP}
theorem zag_push {n0 : Nat} {ad0 ad : Nat → Nat} {q : Nat} (h : n0 ≤ sk.length ∧ zag n0 ad0 ad) (hb : sk.length < 900) : zag n0 ad0 (zc ad sk.length q) ∧ zag sk.length ad (zc ad sk.length q) := by
  have h1 : zag sk.length ad (zc ad sk.length q) := fun k hk => zc_ne _ _ (by rcases hk with hk | hk <;> omega)
  exact ⟨h.2.trans h1 h.1, h1⟩
def zfs0 (fl : List (Option (Option Nat))) : List Value := fl.map (fun f => match f with | none => Value.int 0 | some _ => .null)
def zfl0 (fl : List (Option (Option Nat))) : Bool := fl.all (fun f => match f with | some (some _) => false | _ => true)
theorem zfs0_eq {fl : List (Option (Option Nat))} (h : zfl0 fl = true) (ad : Nat → Nat) {S : zS} {k : Nat} (hS : S k = fun _ => 0) : fl.mapIdx (zf ad S k) = zfs0 fl := by
  apply List.ext_getElem?
  intro j
  simp only [zfs0, List.getElem?_mapIdx, List.getElem?_map]
  cases hf : fl[j]? with
  | none => rfl
  | some f =>
    have := List.all_eq_true.mp h f (List.mem_of_getElem? hf)
    match f, this with
    | none, _ => simp [zf, hS]
    | some none, _ => rfl
theorem zi_new {idx ci : Nat} {C : String} {T : u_T} {N : Nat} {ty : Nat → FieldType} {fl : List (Option (Option Nat))} (d : decode (zb M) pc = .ok (.new idx, 3)) (hcl : zcls ci C T N ty) (hlk : Cond.classLink (zy M).cls idx C ∈ zTB ∧ Cond.instantiable C N ∈ zTB ∧ Cond.initialized C ∈ zTB) (hfl : ∀ j, j < N → defaultValue (ty j) = vp_V (zfs0 fl) j) (hfl2 : zfl0 fl = true)
    (hcn : cn.1 + 1 ≤ (zm M).cells ∧ cn.2 + N ≤ (zm M).slots) (hok : zokL sk.length lv = true ∧ st.all (zok sk.length) = true) (hsk : zskok sk = true ∧ sk.length < 900) (kk : zV M X (sk ++ [.inr (ci, fl)]) (zc S sk.length (fun _ => 0)) L (cn.1 + 1, cn.2 + N) (pc + 3) lv (.ref sk.length :: st) post) : zV M X sk S L cn pc lv st post := by
  intro p l e s m args below meth c H locs A ad ad0 n0 D cs ls hX hn hP hD hS hl
  obtain ⟨hc, hin, hty, hnm⟩ := hcl
  have hts := hX.1.2.2.2.2.2.1
  refine va_new (D := D) (ci := ci) (fs := zfs0 fl) (C := C) (T := T) (N := N) hX.1.1 hX.1.2.1 hts hin ty hty hX.1.2.2.2.2.1 (hts _ hlk.1) (hts _ hlk.2.1) (hts _ hlk.2.2) hX.2.1.1 hP hD hS hX.2.1.2 hc hfl hcn.1 hcn.2 d (fun q H1 hP1 hD1 hS1 => ?_)
  have e1 : zw ad cs sk S L ++ [(q, .inr (ci, zfs0 fl))] = zw (zc ad sk.length q) cs (sk ++ [.inr (ci, fl)]) (zc S sk.length (fun _ => 0)) L := by
    rw [zw_push (S := S) (L := L) hsk.1 hsk.2 (fun i hi => zc_ne _ _ (Nat.ne_of_lt hi)) (fun _ _ => rfl)]
    simp only [ze]
    rw [zfs0_eq hfl2 _ (zc_eq _ _ _)]
  rw [e1] at hP1 hD1
  obtain ⟨ag1, ag2⟩ := zag_push (q := q) hn hsk.2
  obtain ⟨x1, x2, x3, x4⟩ := hX
  have h1 := kk p l e s m args below meth c H1 locs A (zc ad sk.length q) ad0 n0 D cs ls ⟨x1, x2, x3.ag ag2, fun h => by rw [ag2 999 (Or.inr (by omega))]; exact x4 h⟩ ⟨by simp; omega, ag1⟩ hP1 hD1 hS1 (zlv_sub hl (zok_mapL ag2 hok.1))
  rw [List.map_cons, zok_map ag2 hok.2] at h1
  simp only [zv, zc_eq] at h1
  exact h1
/-- a new array: 0 of ints, 1 of longs, 2 of booleans -/
def zat : Nat → ArrayType
  | 0 => .int
  | 1 => .long
  | _ + 2 => .boolean
def zcA (cs : zA) : Nat → ClassId
  | 0 => cs.1
  | 1 => cs.2.1
  | _ + 2 => cs.2.2
theorem zcs_eq {D : va_G} {s : State} {cs : zA} {cA : ClassId} {t : Nat} {tys : List (ClassId × FieldType)} (hK : va_K D vwCl (ztys cs) s) (hK2 : va_K D vwCl (tys ++ [(cA, newarray.typeOf (zat t))]) s) : cA = zcA cs t := by
  have h2 := (hK2.2 tys.length (cA, newarray.typeOf (zat t)) (by simp)).2
  match t, h2 with
  | 0, h2 => exact Option.some.inj (h2.symm.trans (hK.2 0 (cs.1, .int) rfl).2)
  | 1, h2 => exact Option.some.inj (h2.symm.trans (hK.2 1 (cs.2.1, .long) rfl).2)
  | _ + 2, h2 => exact Option.some.inj (h2.symm.trans (hK.2 2 (cs.2.2, .boolean) rfl).2)
theorem zi_newa {t N : Nat} {x : Int32} (d : decode (zb M) pc = .ok (.newarray (zat t), 2)) (harr : Cond.arrayClass (newarray.typeOf (zat t)) ∈ zTB) (hx : ¬ x < 0 ∧ x.toNatClampNeg = N ∧ N * 8 ≤ 536870912)
    (hcn : cn.1 + 1 ≤ (zm M).cells ∧ cn.2 + N ≤ (zm M).slots) (hok : zokL sk.length lv = true ∧ st.all (zok sk.length) = true) (hsk : zskok sk = true ∧ sk.length < 900) (kk : zV M X (sk ++ [.inl (t, N)]) (zc S sk.length (fun _ => 0)) (zc L sk.length (fun _ => 0)) (cn.1 + 1, cn.2 + N) (pc + 2) lv (.ref sk.length :: st) post) : zV M X sk S L cn pc lv (.int x :: st) post := by
  intro p l e s m args below meth c H locs A ad ad0 n0 D cs ls hX hn hP hD hS hl
  have hts := hX.1.2.2.2.2.2.1
  have key : ∀ (q : Nat) (H1 : Heap), va_P D vwCl (zw ad cs sk S L ++ [(q, ze (zc ad sk.length q) cs (zc S sk.length (fun _ => 0)) (zc L sk.length (fun _ => 0)) sk.length (.inl (t, N)))]) H1 → va_D A (zw ad cs sk S L ++ [(q, ze (zc ad sk.length q) cs (zc S sk.length (fun _ => 0)) (zc L sk.length (fun _ => 0)) sk.length (.inl (t, N)))]) → va_S A s.heap H1 locs →
      W p l e (zm M) s m args below meth c H1 locs (cn.1 + 1) (cn.2 + N) (MQ below (zQ n0 ad0 A D cs post) args s (zm M).cells (zm M).slots A) (F0 m (pc + 2) ls (.ref q :: st.map (zv ad))) := by
    intro q H1 hP1 hD1 hS1
    rw [← zw_push (S := S) (L := L) hsk.1 hsk.2 (fun i hi => zc_ne _ _ (Nat.ne_of_lt hi)) (fun i hi => zc_ne _ _ (Nat.ne_of_lt hi))] at hP1 hD1
    obtain ⟨ag1, ag2⟩ := zag_push (q := q) hn hsk.2
    obtain ⟨x1, x2, x3, x4⟩ := hX
    have h1 := kk p l e s m args below meth c H1 locs A (zc ad sk.length q) ad0 n0 D cs ls ⟨x1, x2, x3.ag ag2, fun h => by rw [ag2 999 (Or.inr (by omega))]; exact x4 h⟩ ⟨by simp; omega, ag1⟩ hP1 hD1 hS1 (zlv_sub hl (zok_mapL ag2 hok.1))
    rw [List.map_cons, zok_map ag2 hok.2] at h1
    simp only [zv, zc_eq] at h1
    exact h1
  match t, d, harr, key with
  | 0, d, harr, key =>
    refine va_newa (atype := .int) (a0 := (N, .inl (fun _ => 0))) hX.1.1 hX.1.2.1 (hts _ harr) rfl hX.2.1.1 hP hD hS hX.2.1.2 (fun _ => rfl) hx.1 hx.2.1 (by show N * 4 ≤ _; omega) hcn.1 hcn.2 d (fun q cA H1 hK1 hP1 hD1 hS1 => ?_)
    have e : cA = cs.1 := zcs_eq (t := 0) hX.2.1.1 hK1
    subst e
    exact key q H1 (by simp only [ze, zc_eq]; exact hP1) (by simp only [ze, zc_eq]; exact hD1) hS1
  | 1, d, harr, key =>
    refine va_newa (atype := .long) (a0 := (N, .inr (.inl (fun _ => 0)))) hX.1.1 hX.1.2.1 (hts _ harr) rfl hX.2.1.1 hP hD hS hX.2.1.2 (fun _ => rfl) hx.1 hx.2.1 (by show N * 8 ≤ _; omega) hcn.1 hcn.2 d (fun q cA H1 hK1 hP1 hD1 hS1 => ?_)
    have e : cA = cs.2.1 := zcs_eq (t := 1) hX.2.1.1 hK1
    subst e
    exact key q H1 (by simp only [ze, zc_eq]; exact hP1) (by simp only [ze, zc_eq]; exact hD1) hS1
  | t + 2, d, harr, key =>
    refine va_newa (atype := .boolean) (a0 := (N, .inl (fun _ => 0))) hX.1.1 hX.1.2.1 (hts _ harr) rfl hX.2.1.1 hP hD hS hX.2.1.2 (fun _ => rfl) hx.1 hx.2.1 (by show N * 1 ≤ _; omega) hcn.1 hcn.2 d (fun q cA H1 hK1 hP1 hD1 hS1 => ?_)
    have e : cA = cs.2.2 := zcs_eq (t := t + 2) hX.2.1.1 hK1
    subst e
    exact key q H1 (by simp only [ze, zc_eq]; exact hP1) (by simp only [ze, zc_eq]; exact hD1) hS1
/-! the library's own -/
theorem zi_objInit {idx b : Nat} (d : decode (zb M) pc = .ok (.invokespecial idx, 3)) (hlk : Cond.methodLink (zy M).cls idx Lib.objectInit ∈ zTB ∧ Cond.instanceMethod Lib.objectInit ∈ zTB ∧ Cond.code Lib.objectInit ⟨#[0xb1]⟩ 1 none ∈ zTB) (hR : 1 ≤ (zm M).frames) (hl2 : (st.map fun v => v.category).sum + 12 ≤ (zm M).locals) (kk : zV M X sk S L cn (pc + 3) lv st post) : zV M X sk S L cn pc lv (.ref b :: st) post := by
  intro p l e s m args below meth c H locs A ad ad0 n0 D cs ls hX hn hP hD hS hl
  have hts := hX.1.2.2.2.2.2.1
  exact W.objInit hX.1.1 hX.1.2.1 hX.1.2.2.2.2.1 (hts _ hlk.1) (hts _ hlk.2.1) (hts _ hlk.2.2) rfl (by rw [hX.1.2.2.2.1]; exact hl.1) rfl d hR (by rw [zv_cats]; show 2 * 0 + _ + 12 ≤ _; omega) (kk p l e s m args below meth c H locs A ad ad0 n0 D cs ls hX hn hP hD hS hl)
theorem zi_mmax {idx : Nat} {x y : Int32} (d : decode (zb M) pc = .ok (.invokestatic idx, 3)) (hlk : Cond.methodLink (zy M).cls idx Lib.Math.max.name ∈ zTB ∧ Cond.static Lib.Math.max.name ∈ zTB ∧ Cond.initialized "java/lang/Math" ∈ zTB ∧ Cond.code Lib.Math.max.name Lib.Math.max.code 2 (some .int) ∈ zTB) (hR : 1 ≤ (zm M).frames ∧ cn.1 ≤ (zm M).cells ∧ cn.2 ≤ (zm M).slots) (hl2 : (st.map fun v => v.category).sum + 13 ≤ (zm M).locals) (kk : zV M X sk S L cn (pc + 3) lv (.int (if x < y then y else x) :: st) post) : zV M X sk S L cn pc lv (.int y :: .int x :: st) post := by
  intro p l e s m args below meth c H locs A ad ad0 n0 D cs ls hX hn hP hD hS hl
  have hts := hX.1.2.2.2.2.2.1
  exact va_mmax hX.1.1 hX.1.2.1 (by rw [hX.1.2.2.2.1]; exact hl.1.symm) hX.1.2.2.2.2.1 (hts _ hlk.1) (hts _ hlk.2.1) (hts _ hlk.2.2.1) (hts _ hlk.2.2.2) hR.1 (by rw [zv_cats]; exact hl2) hR.2.1 hR.2.2 d (kk p l e s m args below meth c H locs A ad ad0 n0 D cs ls hX hn hP hD hS hl)
theorem zi_mmin {idx : Nat} {x y : Int32} (d : decode (zb M) pc = .ok (.invokestatic idx, 3)) (hlk : Cond.methodLink (zy M).cls idx Lib.Math.min.name ∈ zTB ∧ Cond.static Lib.Math.min.name ∈ zTB ∧ Cond.initialized "java/lang/Math" ∈ zTB ∧ Cond.code Lib.Math.min.name Lib.Math.min.code 2 (some .int) ∈ zTB) (hR : 1 ≤ (zm M).frames ∧ cn.1 ≤ (zm M).cells ∧ cn.2 ≤ (zm M).slots) (hl2 : (st.map fun v => v.category).sum + 13 ≤ (zm M).locals) (kk : zV M X sk S L cn (pc + 3) lv (.int (if y < x then y else x) :: st) post) : zV M X sk S L cn pc lv (.int y :: .int x :: st) post := by
  intro p l e s m args below meth c H locs A ad ad0 n0 D cs ls hX hn hP hD hS hl
  have hts := hX.1.2.2.2.2.2.1
  exact va_mmin hX.1.1 hX.1.2.1 (by rw [hX.1.2.2.2.1]; exact hl.1.symm) hX.1.2.2.2.2.1 (hts _ hlk.1) (hts _ hlk.2.1) (hts _ hlk.2.2.1) (hts _ hlk.2.2.2) hR.1 (by rw [zv_cats]; exact hl2) hR.2.1 hR.2.2 d (kk p l e s m args below meth c H locs A ad ad0 n0 D cs ls hX hn hP hD hS hl)
/-- System.arraycopy between arrays of ints -/
theorem zi_copyi {idx a b n1 n2 : Nat} {sp dp n : Int32} (d : decode (zb M) pc = .ok (.invokestatic idx, 3)) (hlk : Cond.methodLink (zy M).cls idx arraycopyName ∈ zTB ∧ Cond.native arraycopyName ∈ zTB ∧ Cond.static arraycopyName ∈ zTB ∧ Cond.initialized "java/lang/System" ∈ zTB) (hR : 1 ≤ (zm M).frames) (hl2 : (st.map fun v => v.category).sum + 18 ≤ (zm M).locals) (ha : sk[a]? = some (.inl (0, n1))) (hb : sk[b]? = some (.inl (0, n2)))
    (h : (¬ sp < 0 ∧ ¬ dp < 0 ∧ ¬ n < 0) ∧ sp.toNatClampNeg + n.toNatClampNeg ≤ n1 ∧ dp.toNatClampNeg + n.toNatClampNeg ≤ n2) (kk : zV M X sk (zc S b (va_cpy (S a) (S b) sp.toNatClampNeg dp.toNatClampNeg n.toNatClampNeg)) L cn (pc + 3) lv st post) : zV M X sk S L cn pc lv (.int n :: .int dp :: .ref b :: .int sp :: .ref a :: st) post := by
  intro p l e s m args below meth c H locs A ad ad0 n0 D cs ls hX hn hP hD hS hl
  have hts := hX.1.2.2.2.2.2.1
  refine va_copyi (f := S a) (g := S b) (ty := .int) hX.1.1 hX.1.2.1 (by rw [hX.1.2.2.2.1]; exact hl.1.symm) hX.1.2.2.2.2.1 (hts _ hlk.1) (hts _ hlk.2.1) (hts _ hlk.2.2.1) (hts _ hlk.2.2.2) hX.2.1.1 hP hD hS a b 0 0 (zw_get ha) (zw_get hb) rfl rfl rfl h.1.1 h.1.2.1 h.1.2.2 h.2.1 h.2.2 (fun _ _ => rfl) hR (by rw [zv_cats]; exact hl2) d (fun H locs hP hD hS => ?_)
  have e1 : (zw ad cs sk S L).set b (ad b, .inl (cs.1, n2, .inl (va_cpy (S a) (S b) sp.toNatClampNeg dp.toNatClampNeg n.toNatClampNeg))) = zw ad cs sk (zc S b (va_cpy (S a) (S b) sp.toNatClampNeg dp.toNatClampNeg n.toNatClampNeg)) L := by
    rw [← zw_set1 (S' := zc S b (va_cpy (S a) (S b) sp.toNatClampNeg dp.toNatClampNeg n.toNatClampNeg)) (L' := L) hb (fun i hi => zc_ne _ _ hi) (fun _ _ => rfl)]
    simp only [ze, zc_eq]
  rw [e1] at hP hD
  exact kk p l e s m args below meth c H locs A ad ad0 n0 D cs ls hX hn hP hD hS hl
/-! texts -/
theorem zi_tval {idx i : Nat} (hi : i < zSn) (d : decode (zb M) pc = .ok (.getfield idx, 3)) (hlk : Cond.fieldLink (zy M).cls idx "java/lang/String" "value" "[B" ∈ zTB) (kk : zV M X sk S L cn (pc + 3) lv (.ref (1100 + i) :: st) post) : zV M X sk S L cn pc lv (.ref (1000 + i) :: st) post := by
  intro p l e s m args below meth c H locs A ad ad0 n0 D cs ls hX hn hP hD hS hl
  have hts := hX.1.2.2.2.2.2.1
  exact vk_getf hX.1.1 hX.1.2.1 (hX.2.2.1.1.1 i hi).2.2.1 hS hX.1.2.2.2.2.1 (hts _ hlk) (fun _ h => h) d (kk p l e s m args below meth c H locs A ad ad0 n0 D cs ls hX hn hP hD hS hl)
theorem zi_tcod {idx i : Nat} (hi : i < zSn) (d : decode (zb M) pc = .ok (.getfield idx, 3)) (hlk : Cond.fieldLink (zy M).cls idx "java/lang/String" "coder" "B" ∈ zTB) (kk : zV M X sk S L cn (pc + 3) lv (.int 0 :: st) post) : zV M X sk S L cn pc lv (.ref (1000 + i) :: st) post := by
  intro p l e s m args below meth c H locs A ad ad0 n0 D cs ls hX hn hP hD hS hl
  have hts := hX.1.2.2.2.2.2.1
  exact vk_getf hX.1.1 hX.1.2.1 (hX.2.2.1.1.1 i hi).2.1 hS hX.1.2.2.2.2.1 (hts _ hlk) (fun _ h => h) d (kk p l e s m args below meth c H locs A ad ad0 n0 D cs ls hX hn hP hD hS hl)
theorem zi_tcmp {idx : Nat} (d : decode (zb M) pc = .ok (.getstatic idx, 3)) (hlk : Cond.fieldLink (zy M).cls idx "java/lang/String" "COMPACT_STRINGS" "Z" ∈ zTB) (kk : zV M X sk S L cn (pc + 3) lv (.int 1 :: st) post) : zV M X sk S L cn pc lv st post := by
  intro p l e s m args below meth c H locs A ad ad0 n0 D cs ls hX hn hP hD hS hl
  have hts := hX.1.2.2.2.2.2.1
  exact va_gets hX.1.1 hX.1.2.1 hX.2.2.1.2.2.1 hS hX.1.2.2.2.2.1 (hts _ hlk) (fun _ h => h) d (kk p l e s m args below meth c H locs A ad ad0 n0 D cs ls hX hn hP hD hS hl)
theorem zi_tlen {i : Nat} {v : Int32} (hi : i < zSn) (hv : Int32.ofNat (zSl.getD i 0) = v) (d : decode (zb M) pc = .ok (.arraylength, 1)) (kk : zV M X sk S L cn (pc + 1) lv (.int v :: st) post) : zV M X sk S L cn pc lv (.ref (1100 + i) :: st) post := by
  intro p l e s m args below meth c H locs A ad ad0 n0 D cs ls hX hn hP hD hS hl
  exact va_tlen hX.1.1 hX.1.2.1 (hX.2.2.1.1.1 i hi).2.2.2 hS hv d (kk p l e s m args below meth c H locs A ad ad0 n0 D cs ls hX hn hP hD hS hl)
theorem zi_tald {i : Nat} {j : Int32} (hi : i < zSn) (hj : vp_in j (zSl.getD i 0)) (d : decode (zb M) pc = .ok (.baload, 1)) (kk : zV M X sk S L cn (pc + 1) lv (.int ((zSb.getD i []).getD j.toNatClampNeg 0) :: st) post) : zV M X sk S L cn pc lv (.int j :: .ref (1100 + i) :: st) post := by
  intro p l e s m args below meth c H locs A ad ad0 n0 D cs ls hX hn hP hD hS hl
  exact va_tb hX.1.1 hX.1.2.1 (hX.2.2.1.1.1 i hi).2.2.2 hS hj rfl d (kk p l e s m args below meth c H locs A ad ad0 n0 D cs ls hX hn hP hD hS hl)
/-! the script -/
theorem zi_sld {i : Int32} (hm : (zy M).name = "law") (hi : vp_in i X.1) (d : decode (zb M) pc = .ok (.iaload, 1)) (kk : zV M X sk S L cn (pc + 1) lv (.int (X.2 i.toNatClampNeg) :: st) post) : zV M X sk S L cn pc lv (.int i :: .ref 999 :: st) post := by
  intro p l e s m args below meth c H locs A ad ad0 n0 D cs ls hX hn hP hD hS hl
  obtain ⟨q1, q2, q3⟩ := hX.2.2.2 hm
  exact va_sld hX.1.1 hX.1.2.1 q1 q2 q3 hS hi d (kk p l e s m args below meth c H locs A ad ad0 n0 D cs ls hX hn hP hD hS hl)
theorem zi_slen (hm : (zy M).name = "law") (d : decode (zb M) pc = .ok (.arraylength, 1)) (kk : zV M X sk S L cn (pc + 1) lv (.int (Int32.ofNat X.1) :: st) post) : zV M X sk S L cn pc lv (.ref 999 :: st) post := by
  intro p l e s m args below meth c H locs A ad ad0 n0 D cs ls hX hn hP hD hS hl
  obtain ⟨q1, q2, q3⟩ := hX.2.2.2 hm
  exact va_slen hX.1.1 hX.1.2.1 q1 q2 q3 hS d (kk p l e s m args below meth c H locs A ad ad0 n0 D cs ls hX hn hP hD hS hl)
end ZN
