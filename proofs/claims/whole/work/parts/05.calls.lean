/-! CALLS -/
theorem zgood {N : zM} (hc : Cond.code (zy N) (zb N) (zn N) (zr N) ∈ zTB) : GoodIn zTB (zws N) := by
  intro w hw
  rcases List.mem_cons.mp hw with h | h
  · subst h
    exact ⟨hc, good_of_word (zTB_good _ hc)⟩
  · exact ⟨h, good_of_word (zTB_good _ h)⟩
theorem zA_in {A : Nat → Prop} {ws : va_W} {H0 H : Heap} {locs : List Loc} (hD : va_D A ws) (hS : va_S A H0 H locs) (hA : ∀ q, H0.size ≤ q → A q) : ∀ q, va_A ws H.size q → A q := by
  intro q h
  rcases h with ⟨k, e, h⟩ | h
  · exact hD.2 k _ h
  · exact hA q (Nat.le_trans hS.1 h)
/-- the start of a call, in the caller's state -/
theorem zPc_of {M : zM} {X : Nat × (Nat → Int32)} {p : Program} {s : State} {m : MethodId} {args : Array Value} {meth : Method} {c : Code} {A : Nat → Prop} {ad : Nat → Nat} {D : va_G} {cs : zA} {sk : List zK} {S : zS} {L : zL} {H : Heap} {locs : List Loc} {av : List Value}
    (hX : zX M X p s m args meth c A ad D cs) (hP : va_P D vwCl (zw ad cs sk S L) H) (hD : va_D A (zw ad cs sk S L)) (hS : va_S A s.heap H locs) : ∀ U : State, U.heap = H → s.WarmedH U.vm → zPc ad D cs H.size sk S L av (av.map (zv ad)).toArray U := by
  intro U hU hW
  subst hU
  exact ⟨rfl, rfl, hP, hD.weaken (fun _ _ _ _ => trivial), va_K.moved hW.alike hX.2.1.1, hX.2.2.1.go hW hS.2.1 (zA_in hD hS hX.2.1.2)⟩
section ZB
variable {p : Program} {l : Launch} {e : Env} {R : Room} {s : State} {m : MethodId} {args : Array Value} {below : List Frame} {meth : Method} {c : Code} {H : Heap} {locs : List Loc} {cells slots : Nat} {Q : State → Prop}
theorem z_back {pc : Nat} {ls : Array Slot} {rest st0 : List Value} {a : Array Value} {A A1 : Nat → Prop} {mc ms n0 : Nat} {ad0 : Nat → Nat} {D : va_G} {cs : zA} {post1 : zP}
    (hr : va_Run p l e R s m args below meth c H locs cells slots mc ms (F0 m pc ls st0) rest (zQ n0 ad0 A1 D cs post1 a) A1) (hS : va_S A s.heap H locs) (hA : ∀ q, A1 q → A q)
    (kk : ∀ (r : Option Value) (sk : List zK) (S : zS) (L : zL) (ad : Nat → Nat) (H1 : Heap) (locs1 : List Loc), post1 r sk S L → n0 ≤ sk.length → zag n0 ad0 ad → va_P D vwCl (zw ad cs sk S L) H1 → va_D A (zw ad cs sk S L) → va_S A s.heap H1 locs1 →
      W p l e R s m args below meth c H1 locs1 (cells + mc) (slots + ms) Q (F0 m (pc + 3) ls ((r.map (zv ad)).toList ++ rest))) : W p l e R s m args below meth c H locs cells slots Q (F0 m pc ls st0) := by
  intro T hT X
  obtain ⟨v, st₀, t, T', L9, h0, X', hL, e1, e2, ⟨⟨r, sk, S, L, ad, hv, hp, hn, hag, hP1, hD1⟩, hz, hk⟩, st⟩ := hr T hT X
  cases hv
  rw [h0] at hz hk
  obtain ⟨t2, a1, b1⟩ := kk r sk S L ad T'.heap (locs ++ L9) hp hn hag (by rw [e1]; exact hP1) (hD1.weaken (fun _ _ _ h => hA _ h))
    ⟨Nat.le_trans hS.1 (by rw [e1]; exact hz), fun q h1 h2 => by rw [e1, hk q (Nat.lt_of_lt_of_le h1 hS.1) (fun z => h2 (hA q z))]; exact hS.2.1 q h1 h2, fun q hq => by
      rcases List.mem_append.mp hq with h | h
      · exact hS.2.2 q h
      · exact hA _ (hL q h)⟩ T' rfl X'
  exact ⟨t2, st t2 a1, b1⟩
end ZB
/-- the entry idx of the class own is the method N, of n parameters -/
def zlk (own : String) (idx : Nat) (N : zM) (n : Nat) : Prop :=
  Cond.methodLink own idx (zy N) ∈ zTB ∧ Cond.code (zy N) (zb N) (zn N) (zr N) ∈ zTB ∧ Cond.initialized (zy N).cls ∈ zTB ∧ (zy N).cls ≠ "java/lang/invoke/MethodHandle" ∧ (zy N).cls ≠ "java/lang/invoke/VarHandle" ∧ (parseMethodDescriptor (zy N).desc).map (fun d => d.parameters.length) = some n
def zlV (own : String) (idx : Nat) (N : zM) (n : Nat) : Prop := zlk own idx N n ∧ Cond.instanceMethod (zy N) ∈ zTB ∧ Cond.selects (zy N).cls (zy N) (zy N) ∈ zTB
def zlS (own : String) (idx : Nat) (N : zM) (n : Nat) : Prop := zlk own idx N n ∧ Cond.static (zy N) ∈ zTB
def zlI (own : String) (idx : Nat) (N : zM) (n : Nat) : Prop := zlk own idx N n ∧ (zy N).name = "<init>" ∧ zr N = none ∧ Cond.instanceMethod (zy N) ∈ zTB
def zlN (own : String) (idx : Nat) (N : zM) (n : Nat) : Prop := (∃ q ∈ zNw, q.1 = own ∧ q.2.1 = idx ∧ q.2.2.1 = zy N) ∧ (zy N).name = "<init>" ∧ zr N = none ∧ Cond.instanceMethod (zy N) ∈ zTB ∧ Cond.code (zy N) (zb N) (zn N) (zr N) ∈ zTB ∧ Cond.initialized (zy N).cls ∈ zTB ∧ (zy N).cls ≠ "java/lang/invoke/MethodHandle" ∧ (zy N).cls ≠ "java/lang/invoke/VarHandle" ∧ (parseMethodDescriptor (zy N).desc).map (fun d => d.parameters.length) = some n
def zrm (M N : zM) : Prop := (zm N).frames + 1 ≤ (zm M).frames ∧ 8 + (zn N + 11) + (zm N).locals ≤ (zm M).locals
theorem zcb {M N : zM} {own : String} {idx n : Nat} {s : State} {args : Array Value} (hts : ∀ w ∈ zTB, w.before args s = true) (h : zlk own idx N n) (hR : zrm M N) : CallB (zm M) s args own idx (zy N) (zb N) (zn N) (zr N) (zws N) (zm N) (zm N).cells (zm N).slots n := by
  obtain ⟨h1, h2, h3, h4⟩ := h
  exact callB_of n hts (zgood h2) rfl rfl rfl (hts _ h3) (hts _ h1) h4 hR
section ZC
variable {M N : zM} {X : Nat × (Nat → Int32)} {sk : List zK} {S : zS} {L : zL} {cn : Nat × Nat} {pc : Nat} {lv : List (Option Value)} {st : List Value} {post post1 : zP} {idx n b n9 : Nat} {As : List Value}
/-- behind a call -/
theorem zgo {p : Program} {l : Launch} {e : Env} {s : State} {m : MethodId} {args : Array Value} {below : List Frame} {meth : Method} {c : Code} {H : Heap} {locs : List Loc} {A : Nat → Prop} {ad ad0 : Nat → Nat} {n0 : Nat} {D : va_G} {cs : zA} {ls : Array Slot} {a : Array Value} {st0 : List Value}
    (hX : zX M X p s m args meth c A ad D cs) (hn : n0 ≤ sk.length ∧ zag n0 ad0 ad) (hP : va_P D vwCl (zw ad cs sk S L) H) (hD : va_D A (zw ad cs sk S L)) (hS : va_S A s.heap H locs) (hl : lv_has ls (zn M) (zlv ad lv))
    (hok : n9 ≤ sk.length ∧ zokL n9 lv = true ∧ st.all (zok n9) = true)
    (kk : ∀ (r : Option Value) (sk' : List zK) (S' : zS) (L' : zL), sk.length ≤ sk'.length → post1 r sk' S' L' → zV M X sk' S' L' (cn.1 + (zm N).cells, cn.2 + (zm N).slots) (pc + 3) lv (r.toList ++ st) post)
    (hr : va_Run p l e (zm M) s m args below meth c H locs cn.1 cn.2 (zm N).cells (zm N).slots (F0 m pc ls st0) (st.map (zv ad)) (zQ sk.length ad (va_A (zw ad cs sk S L) H.size) D cs post1 a) (va_A (zw ad cs sk S L) H.size)) :
    W p l e (zm M) s m args below meth c H locs cn.1 cn.2 (MQ below (zQ n0 ad0 A D cs post) args s (zm M).cells (zm M).slots A) (F0 m pc ls st0) := by
  refine z_back hr hS (zA_in hD hS hX.2.1.2) (fun r sk' S' L' ad' H1 locs1 hp hle hag hP1 hD1 hS1 => ?_)
  have hag9 : zag n9 ad ad' := fun k hk => hag k (hk.imp (fun h => Nat.lt_of_lt_of_le h hok.1) id)
  have e1 : st.map (zv ad) = st.map (zv ad') := (zok_map hag9 hok.2.2).symm
  have e2 : (r.map (zv ad')).toList ++ st.map (zv ad) = (r.toList ++ st).map (zv ad') := by
    rw [e1, List.map_append]
    cases r <;> rfl
  rw [e2]
  obtain ⟨x1, x2, x3, x4⟩ := hX
  refine kk r sk' S' L' hle hp p l e s m args below meth c H1 locs1 A ad' ad0 n0 D cs ls ⟨x1, x2, x3.ag hag9, fun h => ?_⟩ ⟨Nat.le_trans hn.1 hle, hn.2.trans hag hn.1⟩ hP1 hD1 hS1 (zlv_sub hl (zok_mapL hag9 hok.2.1))
  rw [hag 999 (Or.inr (by omega))]
  exact x4 h
theorem zi_callV (d : decode (zb M) pc = .ok (.invokevirtual idx, 3)) (hlk : zlV (zy M).cls idx N n) {ci : Nat} {fl : List (Option (Option Nat))} (hb : sk[b]? = some (.inr (ci, fl))) (hci : (vwCl[ci]?).map (fun q => q.1) = some (zy N).cls) (hR : zrm M N) (hn9 : As.length = n) (hcn : cn.1 + (zm N).cells ≤ (zm M).cells ∧ cn.2 + (zm N).slots ≤ (zm M).slots) (hst : (st.map fun v => v.category).sum ≤ 8) (hok : n9 ≤ sk.length ∧ zokL n9 lv = true ∧ st.all (zok n9) = true)
    (hc : zCall N sk S L (.ref b :: As) post1) (kk : ∀ (r : Option Value) (sk' : List zK) (S' : zS) (L' : zL), sk.length ≤ sk'.length → post1 r sk' S' L' → zV M X sk' S' L' (cn.1 + (zm N).cells, cn.2 + (zm N).slots) (pc + 3) lv (r.toList ++ st) post) : zV M X sk S L cn pc lv (As.reverse ++ .ref b :: st) post := by
  intro p l e s m args below meth c H locs A ad ad0 n0 D cs ls hX hn hP hD hS hl
  obtain ⟨q9, hq9, hcl⟩ := Option.map_eq_some_iff.mp hci
  have hts := hX.1.2.2.2.2.2.1
  refine zgo (n9 := n9) (a := (Value.ref (ad b) :: As.map (zv ad)).toArray) hX hn hP hD hS hl hok kk ?_
  refine va_runV (As := As.map (zv ad)) (C := (zy N).cls) (b := ad b) ⟨hX.1.1, hX.1.2.1, hX.1.2.2.2.1, hX.1.2.2.2.2.1, hts⟩ (hc l ad D cs H.size) ⟨zcb hts hlk.1 hR, hts _ hlk.2.1, hts _ hlk.2.2⟩ ⟨zPc_blind, ?_, zPc_of (av := .ref b :: As) hX hP hD hS⟩ rfl (by rw [List.length_map]; exact hn9) hl.1 (by simp [zv]) (lv_room (by rw [zv_cats]; exact hst)) d hcn
  rw [← hcl]
  exact va_recv hX.2.1.1 hP hq9 (zw_get hb)
/-- a String constant's method -/
theorem zi_callT {i : Nat} (d : decode (zb M) pc = .ok (.invokevirtual idx, 3)) (hlk : zlV (zy M).cls idx N n) (hi : i < zSn) (hci : (zy N).cls = "java/lang/String") (hR : zrm M N) (hn9 : As.length = n) (hcn : cn.1 + (zm N).cells ≤ (zm M).cells ∧ cn.2 + (zm N).slots ≤ (zm M).slots) (hst : (st.map fun v => v.category).sum ≤ 8) (hok : n9 ≤ sk.length ∧ zokL n9 lv = true ∧ st.all (zok n9) = true)
    (hc : zCall N sk S L (.ref (1000 + i) :: As) post1) (kk : ∀ (r : Option Value) (sk' : List zK) (S' : zS) (L' : zL), sk.length ≤ sk'.length → post1 r sk' S' L' → zV M X sk' S' L' (cn.1 + (zm N).cells, cn.2 + (zm N).slots) (pc + 3) lv (r.toList ++ st) post) : zV M X sk S L cn pc lv (As.reverse ++ .ref (1000 + i) :: st) post := by
  intro p l e s m args below meth c H locs A ad ad0 n0 D cs ls hX hn hP hD hS hl
  have hts := hX.1.2.2.2.2.2.1
  refine zgo (n9 := n9) (a := (Value.ref (ad (1000 + i)) :: As.map (zv ad)).toArray) hX hn hP hD hS hl hok kk ?_
  refine va_runV (As := As.map (zv ad)) (C := (zy N).cls) (b := ad (1000 + i)) ⟨hX.1.1, hX.1.2.1, hX.1.2.2.2.1, hX.1.2.2.2.2.1, hts⟩ (hc l ad D cs H.size) ⟨zcb hts hlk.1 hR, hts _ hlk.2.1, hts _ hlk.2.2⟩ ⟨zPc_blind, ?_, zPc_of (av := .ref (1000 + i) :: As) hX hP hD hS⟩ rfl (by rw [List.length_map]; exact hn9) hl.1 (by simp [zv]) (lv_room (by rw [zv_cats]; exact hst)) d hcn
  rw [hci]
  exact vk_recv (adK := fun i => ad (1000 + i)) (i := i) hX.2.2.1.1 hi hS
theorem zi_callS (d : decode (zb M) pc = .ok (.invokestatic idx, 3)) (hlk : zlS (zy M).cls idx N n) (hR : zrm M N) (hn9 : As.length = n) (hcn : cn.1 + (zm N).cells ≤ (zm M).cells ∧ cn.2 + (zm N).slots ≤ (zm M).slots) (hst : (st.map fun v => v.category).sum ≤ 8) (hok : n9 ≤ sk.length ∧ zokL n9 lv = true ∧ st.all (zok n9) = true)
    (hc : zCall N sk S L As post1) (kk : ∀ (r : Option Value) (sk' : List zK) (S' : zS) (L' : zL), sk.length ≤ sk'.length → post1 r sk' S' L' → zV M X sk' S' L' (cn.1 + (zm N).cells, cn.2 + (zm N).slots) (pc + 3) lv (r.toList ++ st) post) : zV M X sk S L cn pc lv (As.reverse ++ st) post := by
  intro p l e s m args below meth c H locs A ad ad0 n0 D cs ls hX hn hP hD hS hl
  have hts := hX.1.2.2.2.2.2.1
  refine zgo (n9 := n9) (a := (As.map (zv ad)).toArray) hX hn hP hD hS hl hok kk ?_
  exact va_runS (As := As.map (zv ad)) ⟨hX.1.1, hX.1.2.1, hX.1.2.2.2.1, hX.1.2.2.2.2.1, hts⟩ (hc l ad D cs H.size) ⟨zcb hts hlk.1 hR, hts _ hlk.2⟩ ⟨zPc_blind, zPc_of (av := As) hX hP hD hS⟩ rfl (by rw [List.length_map]; exact hn9) hl.1 (by simp) (lv_room (by rw [zv_cats]; exact hst)) d hcn
theorem zi_callI (d : decode (zb M) pc = .ok (.invokespecial idx, 3)) (hlk : zlI (zy M).cls idx N n) (hR : zrm M N) (hn9 : As.length = n) (hcn : cn.1 + (zm N).cells ≤ (zm M).cells ∧ cn.2 + (zm N).slots ≤ (zm M).slots) (hst : (st.map fun v => v.category).sum ≤ 8) (hok : n9 ≤ sk.length ∧ zokL n9 lv = true ∧ st.all (zok n9) = true)
    (hc : zCall N sk S L (.ref b :: As) post1) (kk : ∀ (r : Option Value) (sk' : List zK) (S' : zS) (L' : zL), sk.length ≤ sk'.length → post1 r sk' S' L' → zV M X sk' S' L' (cn.1 + (zm N).cells, cn.2 + (zm N).slots) (pc + 3) lv (r.toList ++ st) post) : zV M X sk S L cn pc lv (As.reverse ++ .ref b :: st) post := by
  intro p l e s m args below meth c H locs A ad ad0 n0 D cs ls hX hn hP hD hS hl
  have hts := hX.1.2.2.2.2.2.1
  refine zgo (n9 := n9) (a := (Value.ref (ad b) :: As.map (zv ad)).toArray) hX hn hP hD hS hl hok kk ?_
  have hcb := zcb hts hlk.1 hR
  rw [hlk.2.2.1] at hcb
  exact va_runI (As := As.map (zv ad)) (b := ad b) ⟨hX.1.1, hX.1.2.1, hX.1.2.2.2.1, hX.1.2.2.2.2.1, hts⟩ (hc l ad D cs H.size) ⟨hcb, hlk.2.1, hts _ hlk.2.2.2⟩ ⟨zPc_blind, zPc_of (av := .ref b :: As) hX hP hD hS⟩ rfl (by rw [List.length_map]; exact hn9) hl.1 (by simp [zv]) (lv_room (by rw [zv_cats]; exact hst)) d hcn
theorem zi_callN (d : decode (zb M) pc = .ok (.invokespecial idx, 3)) (hlk : zlN (zy M).cls idx N n) (hR : zrm M N) (hn9 : As.length = n) (hcn : cn.1 + (zm N).cells ≤ (zm M).cells ∧ cn.2 + (zm N).slots ≤ (zm M).slots) (hst : (st.map fun v => v.category).sum ≤ 8) (hok : n9 ≤ sk.length ∧ zokL n9 lv = true ∧ st.all (zok n9) = true)
    (hc : zCall N sk S L (.ref b :: As) post1) (kk : ∀ (r : Option Value) (sk' : List zK) (S' : zS) (L' : zL), sk.length ≤ sk'.length → post1 r sk' S' L' → zV M X sk' S' L' (cn.1 + (zm N).cells, cn.2 + (zm N).slots) (pc + 3) lv (r.toList ++ st) post) : zV M X sk S L cn pc lv (As.reverse ++ .ref b :: st) post := by
  intro p l e s m args below meth c H locs A ad ad0 n0 D cs ls hX hn hP hD hS hl
  have hts := hX.1.2.2.2.2.2.1
  refine zgo (n9 := n9) (a := (Value.ref (ad b) :: As.map (zv ad)).toArray) hX hn hP hD hS hl hok kk ?_
  obtain ⟨⟨q, hq, rfl2, rfl3, hqy⟩, hi, hr, hin, hcd, hini, hd9⟩ := hlk
  have hnw := hX.2.2.1.2.2.2 q hq
  rw [rfl2, rfl3, hqy] at hnw
  have hcb : va_CN (zm M) s args (zy M).cls idx (zy N) q.2.2.2 (zb N) (zn N) (zr N) (zws N) (zm N) (zm N).cells (zm N).slots n := va_cnB n hts (zgood hcd) rfl rfl rfl hnw (hts _ hini) hd9 hR
  rw [hr] at hcb
  exact va_runIN (As := As.map (zv ad)) (b := ad b) ⟨hX.1.1, hX.1.2.1, hX.1.2.2.2.1, hX.1.2.2.2.2.1, hts⟩ (hc l ad D cs H.size) ⟨hcb, hi, hts _ hin⟩ ⟨zPc_blind, zPc_of (av := .ref b :: As) hX hP hD hS⟩ rfl (by rw [List.length_map]; exact hn9) hl.1 (by simp [zv]) (lv_room (by rw [zv_cats]; exact hst)) d hcn
end ZC
