/-! THE PLAIN MACHINE. The whole system's cells, by numbers of their own (0, 1 ..: in the order in which they are made): a shape that stays (zK), whole numbers that change (zS, zL). -/
abbrev zS : Type := Nat → Nat → Int32
abbrev zL : Type := Nat → Nat → Int64
/-- a cell's shape: an array (0 of ints, 1 of longs, 2 of booleans; its length) or an object (its class; its fields: a number, null, a reference) -/
abbrev zK : Type := (Nat × Nat) ⊕ (Nat × List (Option (Option Nat)))
abbrev zA : Type := ClassId × ClassId × ClassId
def zc {α : Type} (S : Nat → α) (k : Nat) (f : α) : Nat → α := fun j => if j = k then f else S j
theorem zc_eq {α : Type} (S : Nat → α) (k : Nat) (f : α) : zc S k f k = f := if_pos rfl
theorem zc_ne {α : Type} (S : Nat → α) {k j : Nat} (f : α) (h : j ≠ k) : zc S k f j = S j := if_neg h
/-- a reference by its number -/
def zv (ad : Nat → Nat) : Value → Value
  | .ref a => .ref (ad a)
  | v => v
def zf (ad : Nat → Nat) (S : zS) (k j : Nat) : Option (Option Nat) → Value
  | none => .int (S k j)
  | some r => va_rf (r.map ad)
def ze (ad : Nat → Nat) (cs : zA) (S : zS) (L : zL) (k : Nat) : zK → va_E
  | .inl (0, n) => .inl (cs.1, n, .inl (S k))
  | .inl (1, n) => .inl (cs.2.1, n, .inr (.inl (L k)))
  | .inl (_ + 2, n) => .inl (cs.2.2, n, .inl (S k))
  | .inr (ci, fl) => .inr (ci, fl.mapIdx (zf ad S k))
def zw (ad : Nat → Nat) (cs : zA) (sk : List zK) (S : zS) (L : zL) : va_W := sk.mapIdx (fun k c => (ad k, ze ad cs S L k c))
theorem zw_get {ad : Nat → Nat} {cs : zA} {sk : List zK} {S : zS} {L : zL} {k : Nat} {c : zK} (h : sk[k]? = some c) : (zw ad cs sk S L)[k]? = some (ad k, ze ad cs S L k c) := by
  simp [zw, List.getElem?_mapIdx, h]
theorem ze_congr {ad : Nat → Nat} {cs : zA} {S S' : zS} {L L' : zL} {k : Nat} (hS : S' k = S k) (hL : L' k = L k) (c : zK) : ze ad cs S' L' k c = ze ad cs S L k c := by
  match c with
  | .inl (0, n) => simp [ze, hS]
  | .inl (1, n) => simp [ze, hL]
  | .inl (_ + 2, n) => simp [ze, hS]
  | .inr (ci, fl) =>
    have e : zf ad S' k = zf ad S k := by
      funext j f
      cases f with
      | none => simp [zf, hS]
      | some r => rfl
    simp [ze, e]
/-- one cell's contents or shape is another -/
theorem zw_set {ad : Nat → Nat} {cs : zA} {sk : List zK} {S S' : zS} {L L' : zL} {k : Nat} {c c' : zK} (h : sk[k]? = some c) (hS : ∀ i, i ≠ k → S' i = S i) (hL : ∀ i, i ≠ k → L' i = L i) : (zw ad cs sk S L).set k (ad k, ze ad cs S' L' k c') = zw ad cs (sk.set k c') S' L' := by
  have hk : k < sk.length := (List.getElem?_eq_some_iff.mp h).1
  apply List.ext_getElem?
  intro i
  by_cases hi : i = k
  · subst hi
    rw [List.getElem?_set_self (by simp [zw]; exact hk), zw_get (by rw [List.getElem?_set_self hk])]
  · rw [List.getElem?_set_ne (Ne.symm hi)]
    simp only [zw, List.getElem?_mapIdx, List.getElem?_set_ne (Ne.symm hi)]
    cases sk[i]? with
    | none => rfl
    | some c2 => simp [ze_congr (hS i hi) (hL i hi)]
theorem zw_set1 {ad : Nat → Nat} {cs : zA} {sk : List zK} {S S' : zS} {L L' : zL} {k : Nat} {c : zK} (h : sk[k]? = some c) (hS : ∀ i, i ≠ k → S' i = S i) (hL : ∀ i, i ≠ k → L' i = L i) : (zw ad cs sk S L).set k (ad k, ze ad cs S' L' k c) = zw ad cs sk S' L' := by
  rw [zw_set h hS hL]
  congr 1
  apply List.ext_getElem?
  intro i
  by_cases hi : i = k
  · subst hi
    rw [List.getElem?_set_self (List.getElem?_eq_some_iff.mp h).1, h]
  · rw [List.getElem?_set_ne (Ne.symm hi)]
theorem zf_set {ad : Nat → Nat} {S : zS} {k j : Nat} {fl : List (Option (Option Nat))} {x : Int32} (h : fl[j]? = some none) : (fl.mapIdx (zf ad S k)).set j (.int x) = fl.mapIdx (zf ad (zc S k (upd (S k) j x)) k) := by
  have hj : j < fl.length := (List.getElem?_eq_some_iff.mp h).1
  apply List.ext_getElem?
  intro i
  by_cases hi : i = j
  · subst hi
    rw [List.getElem?_set_self (by simp; exact hj)]
    simp [List.getElem?_mapIdx, h, zf, zc, upd]
  · rw [List.getElem?_set_ne (Ne.symm hi)]
    simp only [List.getElem?_mapIdx]
    cases fl[i]? with
    | none => rfl
    | some f => cases f <;> simp [zf, zc, upd, hi]
theorem zf_setR {ad : Nat → Nat} {S : zS} {k j r : Nat} {fl : List (Option (Option Nat))} (h : j < fl.length) : (fl.mapIdx (zf ad S k)).set j (.ref (ad r)) = (fl.set j (some (some r))).mapIdx (zf ad S k) := by
  apply List.ext_getElem?
  intro i
  by_cases hi : i = j
  · subst hi
    have h2 : i < (fl.mapIdx (zf ad S k)).length := by simp; exact h
    rw [List.getElem?_set_self h2, List.getElem?_mapIdx, List.getElem?_set_self h]
    rfl
  · rw [List.getElem?_set_ne (Ne.symm hi)]
    simp only [List.getElem?_mapIdx, List.getElem?_set_ne (Ne.symm hi)]
/-- of two ways to place the cells: they agree on those that there were, and on what stands outside -/
def zag (n0 : Nat) (ad0 ad : Nat → Nat) : Prop := ∀ k, k < n0 ∨ 900 ≤ k → ad k = ad0 k
theorem zag.rf {n0 : Nat} {ad : Nat → Nat} : zag n0 ad ad := fun _ _ => rfl
theorem zag.trans {n0 n1 : Nat} {a0 a1 a2 : Nat → Nat} (h1 : zag n0 a0 a1) (h2 : zag n1 a1 a2) (hn : n0 ≤ n1) : zag n0 a0 a2 := fun k hk => (h2 k (hk.imp (fun h => Nat.lt_of_lt_of_le h hn) id)).trans (h1 k hk)
def zok (n : Nat) : Value → Bool
  | .ref a => decide (a < n) || decide (900 ≤ a)
  | _ => true
theorem zok_zv {n : Nat} {a0 a1 : Nat → Nat} (h : zag n a0 a1) {v : Value} (hv : zok n v = true) : zv a1 v = zv a0 v := by
  cases v <;> simp_all [zok, zv]
  exact h _ (by omega)
theorem zok_map {n : Nat} {a0 a1 : Nat → Nat} (h : zag n a0 a1) {vs : List Value} (hv : vs.all (zok n) = true) : vs.map (zv a1) = vs.map (zv a0) := by
  apply List.map_congr_left
  intro v hm
  exact zok_zv h (List.all_eq_true.mp hv v hm)
/-- the locals, by their places -/
def zlv (ad : Nat → Nat) (lv : List (Option Value)) : List (Nat × Value) := (lv.mapIdx (fun i o => o.map (fun v => (i, zv ad v)))).filterMap id
theorem zlv_mem {ad : Nat → Nat} {lv : List (Option Value)} {q : Nat × Value} : q ∈ zlv ad lv ↔ ∃ v, lv[q.1]? = some (some v) ∧ q.2 = zv ad v := by
  obtain ⟨i, w⟩ := q
  simp only [zlv, List.mem_filterMap, id]
  constructor
  · rintro ⟨a, ha, rfl⟩
    obtain ⟨k, hk⟩ := List.getElem?_of_mem ha
    rw [List.getElem?_mapIdx] at hk
    cases ho : lv[k]? with
    | none => rw [ho] at hk; cases hk
    | some o =>
      rw [ho] at hk
      cases o with
      | none => simp at hk
      | some v =>
        simp at hk
        obtain ⟨rfl, rfl⟩ := hk
        exact ⟨v, ho, rfl⟩
  · rintro ⟨v, hv, rfl⟩
    refine ⟨some (i, zv ad v), List.mem_of_getElem? (i := i) ?_, rfl⟩
    rw [List.getElem?_mapIdx, hv]
    rfl
theorem zlv_sub {ls : Array Slot} {nL : Nat} {l l' : List (Nat × Value)} (h : lv_has ls nL l) (hs : ∀ q ∈ l', q ∈ l) : lv_has ls nL l' := ⟨h.1, h.2.1, fun q hq => h.2.2 q (hs q hq)⟩
def zokL (n : Nat) (lv : List (Option Value)) : Bool := lv.all (fun o => match o with | some v => zok n v | none => true)
theorem zok_mapL {n : Nat} {a0 a1 : Nat → Nat} (h : zag n a0 a1) {lv : List (Option Value)} (hv : zokL n lv = true) : ∀ q ∈ zlv a1 lv, q ∈ zlv a0 lv := by
  intro q hq
  obtain ⟨v, h1, h2⟩ := zlv_mem.mp hq
  refine zlv_mem.mpr ⟨v, h1, ?_⟩
  have := List.all_eq_true.mp hv (some v) (List.mem_of_getElem? h1)
  rw [h2, zok_zv h this]
theorem zv_cat (ad : Nat → Nat) (v : Value) : (zv ad v).category = v.category := by cases v <;> rfl
theorem zv_cats (ad : Nat → Nat) (st : List Value) : ((st.map (zv ad)).map fun v => v.category) = st.map fun v => v.category := by
  rw [List.map_map]
  apply List.map_congr_left
  intro v _
  exact zv_cat ad v
/-! the String constants -/
def zSn : Nat := 7
def zSo : List (String × Nat × String) := [("ShornSins", 11, "fch"), ("ShornSins", 13, "0123"), ("ShornSins", 15, "0123456789"), ("ShornSins", 24, "abcdefghijklmnopqrstuvwx"), ("ShornSins", 26, "01234567"), ("ShornSins", 28, "letm"), ("ShornSins$Text", 61, ";")]
def zSb : List (List Int32) := [[102, 99, 104], [48, 49, 50, 51], [48, 49, 50, 51, 52, 53, 54, 55, 56, 57], [97, 98, 99, 100, 101, 102, 103, 104, 105, 106, 107, 108, 109, 110, 111, 112, 113, 114, 115, 116, 117, 118, 119, 120], [48, 49, 50, 51, 52, 53, 54, 55], [108, 101, 116, 109], [59]]
def zSl : List Nat := [3, 4, 10, 24, 8, 4, 1]
def zSo' (i : Nat) : String × Nat × String := zSo.getD i ("", 0, "")
/-- links to private constructors of nest mates -/
def zNw : List (String × Nat × MethodName × String) := [("ShornSins", 35, yX8_init, "ShornSins"), ("ShornSins$Other", 9, yX8_init, "ShornSins"), ("ShornSins$Plans", 11, yX1_init, "ShornSins")]
def zG (ad : Nat → Nat) (A : Nat → Prop) (U : State) : Prop :=
  vk_S zSn zSl zSb (fun i => ad (1000 + i)) (fun i => ad (1100 + i)) A U U.heap ∧ (∀ i, i < zSn → vk_R (zSo' i).1 (zSo' i).2.1 (zSo' i).2.2 (ad (1000 + i)) U) ∧ va_Z "java/lang/String" "COMPACT_STRINGS" "Z" (.int 1) A U U.heap ∧ ∀ q ∈ zNw, va_Nw (.methodLinkNest q.1 q.2.1 q.2.2.1 q.2.2.2) U
theorem zG.ag {n : Nat} {a0 a1 : Nat → Nat} {A : Nat → Prop} {U : State} (h : zag n a0 a1) (g : zG a0 A U) : zG a1 A U := by
  have e1 : (fun i => a1 (1000 + i)) = fun i => a0 (1000 + i) := funext fun i => h _ (Or.inr (by omega))
  have e2 : (fun i => a1 (1100 + i)) = fun i => a0 (1100 + i) := funext fun i => h _ (Or.inr (by omega))
  obtain ⟨g1, g2, g3⟩ := g
  refine ⟨?_, fun i hi => ?_, g3⟩
  · rw [e1, e2]; exact g1
  · rw [h (1000 + i) (Or.inr (by omega))]; exact g2 i hi
/-- behind steps that leave what isn't A's: for a smaller set, in a warmer state -/
theorem zG.go {ad : Nat → Nat} {A B : Nat → Prop} {s U : State} (g : zG ad A s) (hW : s.WarmedH U.vm) (hk : ∀ q : Nat, q < s.heap.size → ¬ A q → U.heap[q]? = s.heap[q]?) (hB : ∀ q, B q → A q) : zG ad B U := by
  obtain ⟨g1, g2, g3, g4⟩ := g
  refine ⟨((g1.kept hk).moved hW.alike).narrow hB, fun i hi => (g2 i hi).warm hW, ((g3.kept hk).moved hW.alike).narrow hB, fun q hq => (g4 q hq).warmM hW⟩
theorem zG.calling {ad : Nat → Nat} {A : Nat → Prop} {U : State} (g : zG ad A U) (f : JFrame) (mk : MethodId) (a : Array Value) : zG ad A (U.calling f mk a) := by
  obtain ⟨g1, g2, g3, g4⟩ := g
  exact ⟨vk_S.moved (u := U) (U := U.calling f mk a) (Vm.Alike.refl U.vm) g1, fun i hi => vk_R.same (u := U) (U := U.calling f mk a) rfl (g2 i hi), va_Z.moved (u := U) (U := U.calling f mk a) (Vm.Alike.refl U.vm) g3, fun q hq => va_Nw.same (u := U) (U := U.calling f mk a) rfl rfl (g4 q hq)⟩

/-! a method: its name, bytes, places for locals, answer, room -/
abbrev zM : Type := MethodName × ByteArray × Nat × Option FieldType × Room
abbrev zy (M : zM) : MethodName := M.1
abbrev zb (M : zM) : ByteArray := M.2.1
abbrev zn (M : zM) : Nat := M.2.2.1
abbrev zr (M : zM) : Option FieldType := M.2.2.2.1
abbrev zm (M : zM) : Room := M.2.2.2.2
abbrev zP : Type := Option Value → List zK → zS → zL → Prop
abbrev ztys (cs : zA) : List (ClassId × FieldType) := [(cs.1, .int), (cs.2.1, .long), (cs.2.2, .boolean)]
/-- what stays while a method runs -/
def zX (M : zM) (X : Nat × (Nat → Int32)) (p : Program) (s : State) (m : MethodId) (args : Array Value) (meth : Method) (c : Code) (A : Nat → Prop) (ad : Nat → Nat) (D : va_G) (cs : zA) : Prop :=
  (p.tables.exec = Jvm.exec ∧ c.code = zb M ∧ meth.sig.returnType = zr M ∧ c.maxLocals = zn M ∧ s.vm.findClass (zy M).cls = some m.cls ∧ (∀ w ∈ zTB, w.before args s = true) ∧ meth.name = (zy M).name ∧ meth.locks = false) ∧
  (va_K D vwCl (ztys cs) s ∧ (∀ q, s.heap.size ≤ q → A q)) ∧ zG ad A s ∧ ((zy M).name = "law" → va_X (ad 999) X.1 X.2 s s.heap ∧ ad 999 < s.heap.size ∧ ¬ A (ad 999))
/-- a method's end -/
def zQ (n0 : Nat) (ad0 : Nat → Nat) (A : Nat → Prop) (D : va_G) (cs : zA) (post : zP) : Array Value → State → Outcome → State → Prop := fun _ st o t =>
  (∃ (r : Option Value) (sk : List zK) (S : zS) (L : zL) (ad : Nat → Nat), o = .returned (r.map (zv ad)) ∧ post r sk S L ∧ n0 ≤ sk.length ∧ zag n0 ad0 ad ∧ va_P D vwCl (zw ad cs sk S L) t.heap ∧ va_D A (zw ad cs sk S L)) ∧ va_F A st t
/-- THE JUDGEMENT: from this place on the method M comes to its end, and there post holds of its answer and of the cells -/
def zV (M : zM) (X : Nat × (Nat → Int32)) (sk : List zK) (S : zS) (L : zL) (cn : Nat × Nat) (pc : Nat) (lv : List (Option Value)) (st : List Value) (post : zP) : Prop :=
  ∀ (p : Program) (l : Launch) (e : Env) (s : State) (m : MethodId) (args : Array Value) (below : List Frame) (meth : Method) (c : Code) (H : Heap) (locs : List Loc) (A : Nat → Prop) (ad ad0 : Nat → Nat) (n0 : Nat) (D : va_G) (cs : zA) (ls : Array Slot),
    zX M X p s m args meth c A ad D cs → n0 ≤ sk.length ∧ zag n0 ad0 ad → va_P D vwCl (zw ad cs sk S L) H → va_D A (zw ad cs sk S L) → va_S A s.heap H locs → lv_has ls (zn M) (zlv ad lv) →
    W p l e (zm M) s m args below meth c H locs cn.1 cn.2 (MQ below (zQ n0 ad0 A D cs post) args s (zm M).cells (zm M).slots A) (F0 m pc ls (st.map (zv ad)))
/-- a method's start -/
def zPc (ad : Nat → Nat) (D : va_G) (cs : zA) (sz : Nat) (sk : List zK) (S : zS) (L : zL) (av : List Value) : Array Value → State → Prop := fun v U =>
  v = (av.map (zv ad)).toArray ∧ U.heap.size = sz ∧ va_P D vwCl (zw ad cs sk S L) U.heap ∧ va_D (fun _ => True) (zw ad cs sk S L) ∧ va_K D vwCl (ztys cs) U ∧ zG ad (va_A (zw ad cs sk S L) sz) U
abbrev zws (M : zM) : List Cond := Cond.code (zy M) (zb M) (zn M) (zr M) :: zTB
/-- A CALL: with these arguments, from these cells, M returns, and post holds -/
def zCall (M : zM) (sk : List zK) (S : zS) (L : zL) (av : List Value) (post : zP) : Prop :=
  ∀ (l : Launch) (ad : Nat → Nat) (D : va_G) (cs : zA) (sz : Nat), Met l (zy M) (zws M) (zm M) (zPc ad D cs sz sk S L av) (zQ sk.length ad (va_A (zw ad cs sk S L) sz) D cs post) (zm M).cells (zm M).slots (va_A (zw ad cs sk S L) sz)
theorem zPc_blind {ad : Nat → Nat} {D : va_G} {cs : zA} {sz : Nat} {sk : List zK} {S : zS} {L : zL} {av : List Value} : FrameBlind (zPc ad D cs sz sk S L av) := by
  intro a U g mk h
  obtain ⟨h1, h2, h3, h4, h5, h6⟩ := h
  exact ⟨h1, h2, h3, h4, va_K.moved (u := U) (U := U.calling g mk a) (Vm.Alike.refl U.vm) h5, h6.calling g mk a⟩
theorem zV_mono {M : zM} {X : Nat × (Nat → Int32)} {sk : List zK} {S : zS} {L : zL} {cn : Nat × Nat} {pc : Nat} {lv : List (Option Value)} {st : List Value} {post post' : zP} (h : zV M X sk S L cn pc lv st post) (hp : ∀ r sk S L, post r sk S L → post' r sk S L) : zV M X sk S L cn pc lv st post' := by
  intro p l e s m args below meth c H locs A ad ad0 n0 D cs ls hX hn hP hD hS hl T hT X
  obtain ⟨t, a, o, b1, b2, ⟨⟨r, sk', S', L', ad', q1, q2, q3⟩, q4⟩, b4⟩ := h p l e s m args below meth c H locs A ad ad0 n0 D cs ls hX hn hP hD hS hl T hT X
  exact ⟨t, a, o, b1, b2, ⟨⟨r, sk', S', L', ad', q1, hp _ _ _ _ q2, q3⟩, q4⟩, b4⟩
theorem z_sl (ad : Nat → Nat) (av : List Value) : (lg_sl (av.map (zv ad))).length = (lg_sl av).length := by
  induction av with
  | nil => rfl
  | cons v av ih =>
    simp only [lg_sl, List.map_cons, List.flatMap_cons, List.length_append, zv_cat] at ih ⊢
    rw [ih]
    split <;> rfl
/-- the locals at a method's start -/
def zen : List Value → List (Option Value)
  | [] => []
  | v :: vs => if v.category = 2 then some v :: none :: zen vs else some v :: zen vs
theorem z_args (ad : Nat → Nat) (av : List Value) : ∀ (i j : Nat) (v : Value), (zen av)[j]? = some (some v) → (i + j, zv ad v) ∈ lv_args i (av.map (zv ad)) := by
  induction av with
  | nil => intro i j v h; simp [zen] at h
  | cons w av ih =>
    intro i j v h
    simp only [zen] at h
    simp only [List.map_cons, lv_args, zv_cat]
    by_cases hc : w.category = 2
    · rw [if_pos hc] at h ⊢
      match j, h with
      | 0, h => simp at h; subst h; exact List.mem_cons_self
      | 1, h => simp at h
      | j + 2, h =>
        have h2 : (zen av)[j]? = some (some v) := by simpa using h
        have := ih (i + 2) j v h2
        rw [show i + (j + 2) = i + 2 + j by omega]
        exact List.mem_cons_of_mem _ this
    · rw [if_neg hc] at h ⊢
      match j, h with
      | 0, h => simp at h; subst h; exact List.mem_cons_self
      | j + 1, h =>
        have h2 : (zen av)[j]? = some (some v) := by simpa using h
        have := ih (i + 1) j v h2
        rw [show i + (j + 1) = i + 1 + j by omega]
        exact List.mem_cons_of_mem _ this
/-- the entry -/
theorem zV_entry {M : zM} {sk : List zK} {S : zS} {L : zL} {av : List Value} {post : zP} (hy : plainName (zy M).cls = true) (hn : (zy M).name ≠ "law") (hz : (lg_sl av).length ≤ zn M) (h : ∀ X, zV M X sk S L (0, 0) 0 (zen av) [] post) : zCall M sk S L av post := by
  intro l ad D cs sz
  refine Met.ofW (cc := zb M) (maxL := zn M) (ret := zr M) hy rfl ?_
  intro p e s m args below meth c s₁ B hml hv
  obtain ⟨rfl, hsz, hP, hD, hK, hG⟩ := hv
  subst hsz
  have hts := atoms_spec (ws := zws M) B.pre
  have hown : s.vm.findClass (zy M).cls = some m.cls := findClass_of_methodNamed B.named
  have hin : meth.name = (zy M).name := (name_of_methodNamed B.named B.method).1
  have hl := lv_entry (av.map (zv ad)) (n := zn M) (by rw [z_sl]; exact hz)
  have hl := zlv_sub (l' := zlv ad (zen av)) hl (fun q hq => by
    obtain ⟨v, h1, h2⟩ := zlv_mem.mp hq
    have := z_args ad av 0 q.1 v h1
    rw [Nat.zero_add, ← h2] at this
    exact this)
  rw [lg_entry_eq]
  exact h (0, fun _ => 0) p l e s m _ below meth c s.heap [] _ ad ad sk.length D cs _ ⟨⟨B.exec, B.bytes, B.returns, hml, hown, fun w hw => hts w (List.mem_cons_of_mem _ hw), hin, B.notSynchronized⟩, ⟨hK, fun q hq => Or.inr hq⟩, hG, fun h => absurd h hn⟩ ⟨Nat.le_refl _, zag.rf⟩ hP (hD.self) va_S.rf hl
section ZR
variable {M : zM} {X : Nat × (Nat → Int32)} {sk : List zK} {S : zS} {L : zL} {cn : Nat × Nat} {pc : Nat} {lv : List (Option Value)} {st : List Value} {post : zP}
/-! ends -/
theorem zv_iret {x : Int32} (d : decode (zb M) pc = .ok (.ireturn, 1)) (hr : zr M = some .int) (hc : cn.1 ≤ (zm M).cells ∧ cn.2 ≤ (zm M).slots) (h : post (some (.int x)) sk S L) : zV M X sk S L cn pc lv [.int x] post := by
  intro p l e s m args below meth c H locs A ad ad0 n0 D cs ls hX hn hP hD hS hl
  obtain ⟨⟨hx, hb, hrt, -, -, -, -, hlk⟩, -⟩ := hX
  refine W.widen hc.1 hc.2 ?_
  exact W.iret (v := x) hx hb (hrt.trans hr) (fun t ht hW => ⟨⟨some (.int x), sk, S, L, ad, rfl, h, hn.1, hn.2, by rw [ht]; exact hP, hD⟩, hS.F ht⟩) hS.2.2 d hlk
theorem zv_zret {x : Int32} {ty : FieldType} (d : decode (zb M) pc = .ok (.ireturn, 1)) (hr : zr M = some ty) (hnr : narrow ty (.int x) = .int x) (hc : cn.1 ≤ (zm M).cells ∧ cn.2 ≤ (zm M).slots) (h : post (some (.int x)) sk S L) : zV M X sk S L cn pc lv [.int x] post := by
  intro p l e s m args below meth c H locs A ad ad0 n0 D cs ls hX hn hP hD hS hl
  obtain ⟨⟨hx, hb, hrt, -, -, -, -, hlk⟩, -⟩ := hX
  refine W.widen hc.1 hc.2 ?_
  exact W.zret (v := x) hx hb (hrt.trans hr) hnr (fun t ht hW => ⟨⟨some (.int x), sk, S, L, ad, rfl, h, hn.1, hn.2, by rw [ht]; exact hP, hD⟩, hS.F ht⟩) hS.2.2 d hlk
theorem zv_lret {x : Int64} (d : decode (zb M) pc = .ok (.lreturn, 1)) (hr : zr M = some .long) (hc : cn.1 ≤ (zm M).cells ∧ cn.2 ≤ (zm M).slots) (h : post (some (.long x)) sk S L) : zV M X sk S L cn pc lv [.long x] post := by
  intro p l e s m args below meth c H locs A ad ad0 n0 D cs ls hX hn hP hD hS hl
  obtain ⟨⟨hx, hb, hrt, -, -, -, -, hlk⟩, -⟩ := hX
  refine W.widen hc.1 hc.2 ?_
  exact W.lret (v := x) hx hb (hrt.trans hr) (fun t ht hW => ⟨⟨some (.long x), sk, S, L, ad, rfl, h, hn.1, hn.2, by rw [ht]; exact hP, hD⟩, hS.F ht⟩) hS.2.2 d hlk
theorem zv_vret (d : decode (zb M) pc = .ok (.return_, 1)) (hr : zr M = none) (hc : cn.1 ≤ (zm M).cells ∧ cn.2 ≤ (zm M).slots) (h : post none sk S L) : zV M X sk S L cn pc lv [] post := by
  intro p l e s m args below meth c H locs A ad ad0 n0 D cs ls hX hn hP hD hS hl
  obtain ⟨⟨hx, hb, hrt, -, -, -, -, hlk⟩, -⟩ := hX
  refine W.widen hc.1 hc.2 ?_
  exact W.vret hx hb (hrt.trans hr) (fun t ht hW => ⟨⟨none, sk, S, L, ad, rfl, h, hn.1, hn.2, by rw [ht]; exact hP, hD⟩, hS.F ht⟩) hS.2.2 d hlk
theorem zv_aret {x : Nat} {o : String} (d : decode (zb M) pc = .ok (.areturn, 1)) (hr : zr M = some (.object o)) (hc : cn.1 ≤ (zm M).cells ∧ cn.2 ≤ (zm M).slots) (h : post (some (.ref x)) sk S L) : zV M X sk S L cn pc lv [.ref x] post := by
  intro p l e s m args below meth c H locs A ad ad0 n0 D cs ls hX hn hP hD hS hl
  obtain ⟨⟨hx, hb, hrt, -, -, -, -, hlk⟩, -⟩ := hX
  refine W.widen hc.1 hc.2 ?_
  exact W.aret (v := .ref (ad x)) hx hb (hrt.trans hr) (Or.inl ⟨_, rfl⟩) (Or.inr ⟨_, rfl⟩) (fun t ht hW => ⟨⟨some (.ref x), sk, S, L, ad, rfl, h, hn.1, hn.2, by rw [ht]; exact hP, hD⟩, hS.F ht⟩) hS.2.2 d hlk
end ZR
