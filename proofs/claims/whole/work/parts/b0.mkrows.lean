/-! CONSTRUCTORS: the cells there are grow -/
def zq (n : Nat) (c : zK) : Bool := match c with | .inl _ => true | .inr o => o.2.all (fun f => match f with | some (some r) => decide (r < n) || decide (900 ≤ r) | _ => true)
theorem zskok_q {sk : List zK} : zskok sk = sk.all (zq sk.length) := rfl
theorem zq_mono {n m : Nat} (h : n ≤ m) : ∀ c, zq n c = true → zq m c = true
  | .inl _, _ => rfl
  | .inr o, hc => by
    simp only [zq] at hc ⊢
    rw [List.all_eq_true] at hc ⊢
    intro f hf
    have := hc f hf
    match f, this with
    | none, _ => rfl
    | some none, _ => rfl
    | some (some r), this =>
      simp only [Bool.or_eq_true, decide_eq_true_eq] at this ⊢
      omega
def zW (s : List zK) (K : Nat) : Prop := s.length = K ∧ s.all (zq K) = true ∧ K < 700
theorem zW.app {s t : List zK} {K n : Nat} (h : zW s K) (hn : K + t.length = n) (ht : t.all (zq n) = true) (h7 : n < 700) : zW (s ++ t) n := by
  obtain ⟨h1, h2, h3⟩ := h
  refine ⟨by rw [List.length_append, h1, hn], ?_, h7⟩
  rw [List.all_append, ht, Bool.and_true]
  rw [List.all_eq_true] at h2 ⊢
  exact fun c hc => zq_mono (by omega) c (h2 c hc)
theorem zW.ok {s : List zK} {K : Nat} (h : zW s K) : zskok s = true ∧ s.length < 900 := by
  obtain ⟨h1, h2, h3⟩ := h
  exact ⟨by rw [zskok_q, h1]; exact h2, by omega⟩
theorem zW.nil : zW [] 0 := ⟨rfl, rfl, by decide⟩
theorem sk_get {s t : List zK} {K i : Nat} (h : s.length = K) : (s ++ t)[K + i]? = t[i]? := by
  rw [List.getElem?_append_right (by omega), h, Nat.add_sub_cancel_left]
theorem sk_set {s t : List zK} {K i : Nat} {c : zK} (h : s.length = K) : (s ++ t).set (K + i) c = s ++ t.set i c := by
  rw [List.set_append_right _ _ (by omega), h, Nat.add_sub_cancel_left]
/-- a constructor: its object stands last; what is there behind it -/
def zCt (N : zM) (K : Nat) (obj : zK) (As : List Value) (t : List zK) (Q : zS → Prop) : Prop := ∀ (s : List zK) (S : zS) (L : zL), zW s K → S K = (fun _ => 0) → zCall N (s ++ [obj]) S L (.ref K :: As) (fun r sk' S' _ => r = none ∧ sk' = s ++ t ∧ (∀ j, j < K → S' j = S j) ∧ Q S')
section MK
variable {M N : zM} {X : Nat × (Nat → Int32)} {s t t' : List zK} {S : zS} {L : zL} {cn cn' : Nat × Nat} {pc K n : Nat} {lv : List (Option Value)} {st : List Value} {post : zP}
theorem zk_newa {ty W : Nat} {x : Int32} (d : decode (zb M) pc = .ok (.newarray (zat ty), 2)) (harr : Cond.arrayClass (newarray.typeOf (zat ty)) ∈ zTB) (h : zW s K) (hn : K + t.length = n) (ht : t.all (zq n) = true) (h7 : n < 700) (hx : ¬ x < 0 ∧ x.toNatClampNeg = W ∧ W * 8 ≤ 536870912) (hcn : cn.1 + 1 ≤ (zm M).cells ∧ cn.2 + W ≤ (zm M).slots) (hc : (cn.1 + 1, cn.2 + W) = cn') (hok : zokL n lv = true ∧ st.all (zok n) = true) (ht' : t ++ [.inl (ty, W)] = t') (kk : ∀ S' L', S' = zc S n (fun _ => 0) → zV M X (s ++ t') S' L' cn' (pc + 2) lv (.ref n :: st) post) : zV M X (s ++ t) S L cn pc lv (.int x :: st) post := by
  have hW := h.app hn ht h7
  have hl := hW.1
  refine zi_newa d harr hx hcn (by rw [hl]; exact hok) hW.ok ?_
  rw [hl, List.append_assoc, ht', hc]
  exact kk _ _ rfl
theorem zk_new {idx ci W : Nat} {C : String} {T : u_T} {ty : Nat → FieldType} {fl : List (Option (Option Nat))} (d : decode (zb M) pc = .ok (.new idx, 3)) (hcl : zcls ci C T W ty) (hlk : Cond.classLink (zy M).cls idx C ∈ zTB ∧ Cond.instantiable C W ∈ zTB ∧ Cond.initialized C ∈ zTB) (hfl : ∀ j, j < W → defaultValue (ty j) = vp_V (zfs0 fl) j) (hfl2 : zfl0 fl = true) (h : zW s K) (hn : K + t.length = n) (ht : t.all (zq n) = true) (h7 : n < 700) (hcn : cn.1 + 1 ≤ (zm M).cells ∧ cn.2 + W ≤ (zm M).slots) (hc : (cn.1 + 1, cn.2 + W) = cn') (hok : zokL n lv = true ∧ st.all (zok n) = true) (ht' : t ++ [.inr (ci, fl)] = t') (kk : ∀ S', S' = zc S n (fun _ => 0) → zV M X (s ++ t') S' L cn' (pc + 3) lv (.ref n :: st) post) : zV M X (s ++ t) S L cn pc lv st post := by
  have hW := h.app hn ht h7
  have hl := hW.1
  refine zi_new d hcl hlk hfl hfl2 hcn (by rw [hl]; exact hok) hW.ok ?_
  rw [hl, List.append_assoc, ht', hc]
  exact kk _ rfl
theorem zk_putr {idx ci j i k r : Nat} {ty : FieldType} {fl : List (Option (Option Nat))} (hf : zfp (zy M).cls idx ci j true ty) (hi : (zy M).name = "<init>") (h : zW s K) (hk : K + i = k) (hg : t[i]? = some (.inr (ci, fl))) (hj : j < fl.length) (hnr : ∀ a, narrow ty (.ref a) = .ref a) (hft : ∀ a, fits ty (.ref a) = true) (ht' : t.set i (.inr (ci, fl.set j (some (some r)))) = t') (d : decode (zb M) pc = .ok (.putfield idx, 3)) (kk : zV M X (s ++ t') S L cn (pc + 3) lv st post) : zV M X (s ++ t) S L cn pc lv (.ref r :: .ref k :: st) post := by
  subst hk
  refine zi_putr hf hi (by rw [sk_get h.1]; exact hg) hj hnr hft d ?_
  rw [sk_set h.1, ht']
  exact kk
theorem zk_puti {idx ci j i k : Nat} {x : Int32} {fl : List (Option (Option Nat))} (hf : zfp (zy M).cls idx ci j false .int) (h : zW s K) (hk : K + i = k) (hg : t[i]? = some (.inr (ci, fl))) (hj : fl[j]? = some none) (d : decode (zb M) pc = .ok (.putfield idx, 3)) (kk : ∀ S', S' = zc S k (upd (S k) j x) → zV M X (s ++ t) S' L cn (pc + 3) lv st post) : zV M X (s ++ t) S L cn pc lv (.int x :: .ref k :: st) post := by
  subst hk
  exact zi_puti hf (by rw [sk_get h.1]; exact hg) hj d (kk _ rfl)
theorem zk_putz {idx ci j i k : Nat} {x : Int32} {fl : List (Option (Option Nat))} (hf : zfp (zy M).cls idx ci j false .boolean) (hnr : narrow .boolean (.int x) = .int x) (hft : fits .boolean (.int x) = true) (h : zW s K) (hk : K + i = k) (hg : t[i]? = some (.inr (ci, fl))) (hj : fl[j]? = some none) (d : decode (zb M) pc = .ok (.putfield idx, 3)) (kk : ∀ S', S' = zc S k (upd (S k) j x) → zV M X (s ++ t) S' L cn (pc + 3) lv st post) : zV M X (s ++ t) S L cn pc lv (.int x :: .ref k :: st) post := by
  subst hk
  exact zi_putv hf (by rw [sk_get h.1]; exact hg) hj hnr hft d (kk _ rfl)
theorem zk_getr {idx ci j i k r : Nat} {fl : List (Option (Option Nat))} (hf : zfl (zy M).cls idx ci j) (h : zW s K) (hk : K + i = k) (hg : t[i]? = some (.inr (ci, fl))) (hj : fl[j]? = some (some (some r))) (d : decode (zb M) pc = .ok (.getfield idx, 3)) (kk : zV M X (s ++ t) S L cn (pc + 3) lv (.ref r :: st) post) : zV M X (s ++ t) S L cn pc lv (.ref k :: st) post := by
  subst hk
  exact zi_getr hf (by rw [sk_get h.1]; exact hg) hj d kk
theorem zk_callI {idx a : Nat} {As : List Value} {t0 tN : List zK} {obj : zK} {Q : zS → Prop} (hN : zCt N n obj As tN Q) (d : decode (zb M) pc = .ok (.invokespecial idx, 3)) (hlk : zlI (zy M).cls idx N a) (hR : zrm M N) (hn9 : As.length = a) (h : zW s K) (hn : K + t0.length = n) (ht : t0.all (zq n) = true) (h7 : n < 700) (hcn : cn.1 + (zm N).cells ≤ (zm M).cells ∧ cn.2 + (zm N).slots ≤ (zm M).slots) (hc : (cn.1 + (zm N).cells, cn.2 + (zm N).slots) = cn') (hst : (st.map fun v => v.category).sum ≤ 8) (hok : zokL (n + 1) lv = true ∧ st.all (zok (n + 1)) = true) (h0 : S n = fun _ => 0) (he : t0 ++ [obj] = t) (ht' : t0 ++ tN = t') {stk : List Value} (hs : As.reverse ++ .ref n :: st = stk) (kk : ∀ S' L', (∀ j, j < n → S' j = S j) → Q S' → zV M X (s ++ t') S' L' cn' (pc + 3) lv st post) : zV M X (s ++ t) S L cn pc lv stk post := by
  have hW := h.app hn ht h7
  subst he hs
  rw [← List.append_assoc]
  refine zi_callI (n9 := n + 1) d hlk hR hn9 hcn hst ⟨by rw [List.length_append, hW.1]; exact Nat.le_refl _, hok⟩ (hN (s ++ t0) S L hW h0) (fun r sk' S' L' _ hp => ?_)
  obtain ⟨p1, p2, p3, p4⟩ := hp
  rw [p1, p2, List.append_assoc, ht', hc]
  exact kk S' L' p3 p4
theorem zk_callN {idx a : Nat} {As : List Value} {t0 tN : List zK} {obj : zK} {Q : zS → Prop} (hN : zCt N n obj As tN Q) (d : decode (zb M) pc = .ok (.invokespecial idx, 3)) (hlk : zlN (zy M).cls idx N a) (hR : zrm M N) (hn9 : As.length = a) (h : zW s K) (hn : K + t0.length = n) (ht : t0.all (zq n) = true) (h7 : n < 700) (hcn : cn.1 + (zm N).cells ≤ (zm M).cells ∧ cn.2 + (zm N).slots ≤ (zm M).slots) (hc : (cn.1 + (zm N).cells, cn.2 + (zm N).slots) = cn') (hst : (st.map fun v => v.category).sum ≤ 8) (hok : zokL (n + 1) lv = true ∧ st.all (zok (n + 1)) = true) (h0 : S n = fun _ => 0) (he : t0 ++ [obj] = t) (ht' : t0 ++ tN = t') {stk : List Value} (hs : As.reverse ++ .ref n :: st = stk) (kk : ∀ S' L', (∀ j, j < n → S' j = S j) → Q S' → zV M X (s ++ t') S' L' cn' (pc + 3) lv st post) : zV M X (s ++ t) S L cn pc lv stk post := by
  have hW := h.app hn ht h7
  subst he hs
  rw [← List.append_assoc]
  refine zi_callN (n9 := n + 1) d hlk hR hn9 hcn hst ⟨by rw [List.length_append, hW.1]; exact Nat.le_refl _, hok⟩ (hN (s ++ t0) S L hW h0) (fun r sk' S' L' _ hp => ?_)
  obtain ⟨p1, p2, p3, p4⟩ := hp
  rw [p1, p2, List.append_assoc, ht', hc]
  exact kk S' L' p3 p4
end MK
/-! Arrays.fill while the cells grow -/
section FG
variable {sk : List zK} {X : Nat × (Nat → Int32)} {L : zL} {post : zP}
theorem fg_l {r n : Nat} {x : Int32} (hr : sk[r]? = some (.inl (0, n))) (hn : n < 2000) {S0 : zS} (h : ∀ S', (∀ j, j ≠ r → S' j = S0 j) → (∀ i, i < n → S' r i = x) → post none sk S' L) : ∀ (d i : Nat) (S : zS), i + d = n → (∀ j, j ≠ r → S j = S0 j) → (∀ q, q < i → S r q = x) → zV mJ7_fill_53178 X sk S L (0, 0) 5 [some (.ref r), some (.int x), some (.int (nI i)), some (.int (nI n))] [] post := by
  intro d
  induction d with
  | zero =>
    intro i S hd h1 h2
    exact zi_iload_n dJ7_fill_53178_5 rfl rfl (zi_iload_n dJ7_fill_53178_6 rfl rfl (zi_icmp_ge dJ7_fill_53178_7 rfl (fun _ => zv_vret dJ7_fill_53178_20 rfl ⟨Nat.zero_le _, Nat.zero_le _⟩ (h S h1 (fun q hq => h2 q (by omega)))) (fun z => absurd (nI_le (by omega) (by omega)) z)))
  | succ d ih =>
    intro i S hd h1 h2
    refine zi_iload_n dJ7_fill_53178_5 rfl rfl (zi_iload_n dJ7_fill_53178_6 rfl rfl (zi_icmp_ge dJ7_fill_53178_7 rfl (fun z => absurd z (nI_ge (by omega) (by omega))) (fun _ => zi_aload_n dJ7_fill_53178_10 rfl rfl (zi_iload_n dJ7_fill_53178_11 rfl rfl (zi_iload_n dJ7_fill_53178_12 rfl rfl (zi_iast hr (vp_in_nI (by omega) (by omega)) dJ7_fill_53178_13 (zi_iinc (v := nI (i + 1)) dJ7_fill_53178_14 rfl (nI_1 i) (by decide) rfl (zi_goto (tgt := 5) dJ7_fill_53178_17 rfl ?_))))))))
    rw [cl_nI (by omega)]
    refine ih (i + 1) _ (by omega) (fun j hj => ?_) (fun q hq => ?_)
    · rw [zc_ne _ _ hj]; exact h1 j hj
    · rw [zc_eq, upd]
      by_cases hqi : q = i
      · rw [if_pos hqi]
      · rw [if_neg hqi]; exact h2 q (by omega)
theorem fg_s {r n : Nat} {x : Int32} (hr : sk[r]? = some (.inl (0, n))) (hn : n < 2000) {S : zS} (h : ∀ S', (∀ j, j ≠ r → S' j = S j) → (∀ i, i < n → S' r i = x) → post none sk S' L) : zCall mJ7_fill_53178 sk S L [.ref r, .int x] post := by
  refine zV_entry (by decide) (by decide) (Nat.le_of_ble_eq_true rfl) (fun X => ?_)
  refine zV_drop (lv' := [some (.ref r), some (.int x), none, none]) (fun i v hv => ?_) ?_
  · match i, hv with
    | 0, hv => exact hv
    | 1, hv => exact hv
    | 2, hv => simp at hv
    | 3, hv => simp at hv
    | i + 4, hv => simp at hv
  · exact zi_iconst (v := 0) dJ7_fill_53178_0 (by decide) (zi_istore_n dJ7_fill_53178_1 rfl (by decide) rfl (zi_aload_n dJ7_fill_53178_2 rfl rfl (zi_alen hr rfl dJ7_fill_53178_3 (zi_istore_n dJ7_fill_53178_4 rfl (by decide) rfl (fg_l hr hn h n 0 S (by omega) (fun _ _ => rfl) (fun q hq => absurd hq (Nat.not_lt_zero _)))))))
end FG
