/-! TEXTS: what a sign means, the first fault, the things told -/
def tTb (x i : Nat) : Nat := if i % 4 = 0 then x else if i % 4 = 1 then x + 1 else if i % 4 = 2 then x + 2 else 6
def tM (x i : Nat) (b : Int32) : Int32 := pIx (tTb x i) b
def tE (i : Nat) : Int32 := if i = 0 ∨ i % 4 = 3 then -1 else nI i
def tFs (x : Nat) : Nat → List Int32 → Int32
  | i, [] => tE i
  | i, b :: r => if tM x i b < 0 then nI i else tFs x (i + 1) r
def tLs (x : Nat) : List Int32 → List T3
  | a :: b :: c :: _ :: r => (pIx x a, pIx (x + 1) b, pIx (x + 2) c) :: tLs x r
  | [a, b, c] => [(pIx x a, pIx (x + 1) b, pIx (x + 2) c)]
  | _ => []
def tL (x : Nat) (l : List Int32) : List T3 := if tFs x 0 l = -1 then tLs x l else []
theorem tLs_cons {x : Nat} {a b c : Int32} {r : List Int32} : tLs x (a :: b :: c :: r) = (pIx x a, pIx (x + 1) b, pIx (x + 2) c) :: tLs x (r.drop 1) := by
  cases r <;> rfl
def tB (l : List Int32) : Prop := ∀ b ∈ l, ∃ n, n < 256 ∧ b = nI n
/-- the text object at k holds l -/
def zTx (S : zS) (k : Nat) (l : List Int32) : Prop := S k 4 = nI l.length ∧ ∀ (i : Nat) (b : Int32), l[i]? = some b → S (k + 1) i = b
theorem zTx.keep {S S' : zS} {k : Nat} {l : List Int32} (h : zTx S k l) (h0 : S' k = S k) (h1 : S' (k + 1) = S (k + 1)) : zTx S' k l := by
  unfold zTx; rw [h0, h1]; exact h
theorem chr_nI {n : Nat} (h : n < 256) : ((nI n).toUInt32 % 65536).toInt32 = nI n := by
  rw [pk_char, pk_tn (by omega), Nat.mod_eq_of_lt (by omega)]
theorem rem4 {i : Nat} (h : i < 2000) : nI i - nI i / (4 : Int32) * (4 : Int32) = nI (i % 4) := by
  rw [show (4 : Int32) = nI 4 by decide]
  exact pk_rem (by omega) (by omega) (by omega)
theorem dropL {α : Type} {l rest : List α} {e : α} {i : Nat} (h : l.drop i = e :: rest) : i < l.length ∧ l[i]? = some e ∧ l.drop (i + 1) = rest := by
  have hl : i < l.length := by
    rcases Nat.lt_or_ge i l.length with q | q
    · exact q
    · rw [List.drop_eq_nil_iff.mpr q] at h; cases h
  refine ⟨hl, ?_, ?_⟩
  · have : (l.drop i)[0]? = some e := by rw [h]; rfl
    simpa using this
  · rw [← List.drop_drop, h]; rfl
theorem tLs_short {x : Nat} {l : List Int32} (h : l.length ≤ 2) : tLs x l = [] := by
  match l, h with
  | [], _ => rfl
  | [_], _ => rfl
  | [_, _], _ => rfl
  | _ :: _ :: _ :: r, h => simp at h

theorem meaning1_s {l : List Int32} (hc : l.length ≤ 31) (hB : tB l) {S : zS} {L : zL} (hT : zTx S 1 l) {i : Nat} {b : Int32} (hi : l[i]? = some b) {P : Int32 → zS → zL → Prop} (h : P (tM 0 i b) S L) : zCi mX7_meaningAt S L [.ref 1, .int (nI i)] P := by
  have hil : i < l.length := (List.getElem?_eq_some_iff.mp hi).1
  obtain ⟨n, hn, rfl⟩ := hB b (List.mem_of_getElem? hi)
  refine e_X7_meaningAt_1 (fun X => b_X7_meaningAt_1_0 ⟨fun q => absurd q (nI_pos (by omega)), fun _ => ⟨fun _ => ?_, fun q => absurd (nI_lt (b := 31) (by omega) (by omega)) q⟩⟩)
  have hv : S (1 + 1) i = nI n := hT.2 i _ hi
  rw [cl_nI (n := i) (by omega), rem4 (by omega), show S 2 i = nI n from hv, chr_nI hn]
  have hin : vp_in (nI i) 31 := vp_in_nI (by omega) (by omega)
  unfold tM tTb at h
  have h4 : i % 4 = 0 ∨ i % 4 = 1 ∨ i % 4 = 2 ∨ i % 4 = 3 := by omega
  rcases h4 with z | z | z | z
  · rw [z] at h ⊢
    exact ⟨fun _ => ⟨hin, indexOf_s (i := 0) (by decide) hn h⟩, fun q => absurd (by decide) q⟩
  · rw [z] at h ⊢
    exact ⟨fun q => absurd q (by decide), fun _ => ⟨fun _ => ⟨hin, indexOf_s (i := 0 + 1) (by decide) hn h⟩, fun q => absurd (by decide) q⟩⟩
  · rw [z] at h ⊢
    exact ⟨fun q => absurd q (by decide), fun _ => ⟨fun q => absurd q (by decide), fun _ => ⟨fun _ => ⟨hin, indexOf_s (i := 0 + 2) (by decide) hn h⟩, fun q => absurd (by decide) q⟩⟩⟩
  · rw [z] at h ⊢
    exact ⟨fun q => absurd q (by decide), fun _ => ⟨fun q => absurd q (by decide), fun _ => ⟨fun q => absurd q (by decide), fun _ => ⟨hin, indexOf_s (i := 6) (by decide) hn h⟩⟩⟩⟩
theorem fault1_l {l : List Int32} (hc : l.length ≤ 31) (hB : tB l) {S : zS} {L : zL} (hT : zTx S 1 l) {X : Nat × (Nat → Int32)} {P : Int32 → zS → zL → Prop} : ∀ (rest : List Int32) (i : Nat), l.drop i = rest → i ≤ l.length → P (tFs 0 i rest) S L → zU mX7_faultPlace X S L 2 [some (.ref 1), some (.int (nI i))] [] (zpi P) := by
  intro rest
  induction rest with
  | nil =>
    intro i hd hi h
    have hl : l.length = i := by have := List.drop_eq_nil_iff.mp hd; omega
    refine b_X7_faultPlace_1_2 ?_
    rw [hT.1, hl, rem4 (by omega)]
    refine ⟨fun _ => ⟨fun q => ?_, fun q => ⟨fun q2 => ?_, fun q2 => ?_⟩⟩, fun q => absurd (nI_le (Nat.le_refl _) (by omega)) q⟩
    · have : i = 0 := (nI_eq (b := 0) (by omega) (by omega)).mp q
      subst this; exact h
    · have h1 : ¬ i = 0 := fun z => q (by rw [z]; rfl)
      have h2 : ¬ i % 4 = 3 := fun z => q2 (by rw [z]; rfl)
      rw [tFs, tE, if_neg (by omega)] at h; exact h
    · have h2 : i % 4 = 3 := (nI_eq (b := 3) (by omega) (by omega)).mp q2
      rw [tFs, tE, if_pos (Or.inr h2)] at h; exact h
  | cons b rest ih =>
    intro i hd hi h
    obtain ⟨hl, he, hd2⟩ := dropL hd
    refine b_X7_faultPlace_1_2 ?_
    rw [hT.1]
    refine ⟨fun q => absurd q (nI_ge hl (by omega)), fun _ => ?_⟩
    refine meaning1_s hc hB hT he ?_
    rw [tFs] at h
    refine ⟨fun q x1 e1 => ?_, fun q => ?_⟩
    · rw [if_neg (i32_nlt q)] at h
      rw [e1, nI_1]
      exact ih (i + 1) hd2 (by omega) h
    · rw [if_pos (i32_lt q)] at h; exact h
theorem fault1_s {l : List Int32} (hc : l.length ≤ 31) (hB : tB l) {S : zS} {L : zL} (hT : zTx S 1 l) {P : Int32 → zS → zL → Prop} (h : P (tFs 0 0 l) S L) : zCi mX7_faultPlace S L [.ref 1] P :=
  e_X7_faultPlace_1 (fun X => b_X7_faultPlace_1_0 (fault1_l hc hB hT l 0 rfl (Nat.zero_le _) h))
theorem read1_l {l : List Int32} (hc : l.length ≤ 31) (hB : tB l) {L : zL} {X : Nat × (Nat → Int32)} {P : zS → zL → Prop} : ∀ (n : Nat) (rest : List Int32) (acc : List T3) (S : zS), rest.length ≤ n → l.drop (4 * acc.length) = rest → 4 * acc.length ≤ l.length + 1 → zTx S 1 l → zR S 6 acc → (∀ S', zR S' 6 (acc ++ tLs 0 rest) → zOut 6 (6 + 3) S S' → P S' L) → zU mX7_readInto X S L 16 [some (.ref 1), some (.ref 6), some (.int (nI (4 * acc.length)))] [] (zpv P) := by
  have e2 : ∀ i, nI i + (2 : Int32) = nI (i + 2) := fun i => by rw [show (2 : Int32) = nI 2 by decide, nI_add]
  have e4 : ∀ i, nI i + (4 : Int32) = nI (i + 4) := fun i => by rw [show (4 : Int32) = nI 4 by decide, nI_add]
  have fin : ∀ (rest : List Int32) (acc : List T3) (S : zS), rest.length ≤ 2 → l.drop (4 * acc.length) = rest → 4 * acc.length ≤ l.length + 1 → zTx S 1 l → zR S 6 acc → (∀ S', zR S' 6 (acc ++ tLs 0 rest) → zOut 6 (6 + 3) S S' → P S' L) → zU mX7_readInto X S L 16 [some (.ref 1), some (.ref 6), some (.int (nI (4 * acc.length)))] [] (zpv P) := by
    intro rest acc S hn hd hi hT hR h
    have hl : l.length - 4 * acc.length = rest.length := by rw [← hd, List.length_drop]
    refine b_X7_readInto_1_16 ⟨fun _ => h S (by rw [tLs_short hn, List.append_nil]; exact hR) zOut.rf, fun q => absurd ?_ q⟩
    rw [hT.1, e2]
    exact nI_le (by omega) (by omega)
  intro n
  induction n with
  | zero => exact fun rest acc S hn => fin rest acc S (by omega)
  | succ n ih =>
    intro rest acc S hn hd hi hT hR h
    by_cases h2 : rest.length ≤ 2
    · exact fin rest acc S h2 hd hi hT hR h
    obtain ⟨a, b, c, r, rfl⟩ : ∃ a b c r, rest = a :: b :: c :: r := by
      match rest, h2 with
      | [], h2 => exact absurd (by simp) h2
      | [_], h2 => exact absurd (by simp) h2
      | [_, _], h2 => exact absurd (by simp) h2
      | a :: b :: c :: r, _ => exact ⟨a, b, c, r, rfl⟩
    obtain ⟨l1, g1, d1⟩ := dropL hd
    obtain ⟨l2, g2, d2⟩ := dropL d1
    obtain ⟨l3, g3, d3⟩ := dropL d2
    refine b_X7_readInto_1_16 ⟨fun q => absurd q ?_, fun _ => ?_⟩
    · rw [hT.1, e2]; exact nI_ge (by omega) (by omega)
    rw [e2, nI_1]
    refine meaning1_s hc hB hT g1 (meaning1_s hc hB hT g2 (meaning1_s hc hB hT g3 ?_))
    refine rows_append (n := 8) ⟨rfl, rfl, rfl, rfl⟩ hR (by omega) (by omega) (fun S' hR' hO x1 e1 => ?_)
    rw [e1, e4]
    have m1 : tM 0 (4 * acc.length) a = pIx 0 a := by unfold tM tTb; rw [if_pos (by omega)]
    have m2 : tM 0 (4 * acc.length + 1) b = pIx (0 + 1) b := by unfold tM tTb; rw [if_neg (by omega), if_pos (by omega)]
    have m3 : tM 0 (4 * acc.length + 1 + 1) c = pIx (0 + 2) c := by unfold tM tTb; rw [if_neg (by omega), if_neg (by omega), if_pos (by omega)]
    rw [m1, m2, m3] at hR'
    have hlen : 4 * acc.length + 4 = 4 * (acc ++ [(pIx 0 a, pIx (0 + 1) b, pIx (0 + 2) c)]).length := by simp; omega
    rw [hlen]
    refine ih (r.drop 1) _ S' ?_ ?_ ?_ ?_ hR' (fun S2 hR2 hO2 => h S2 ?_ (hO.trans hO2))
    · have : (a :: b :: c :: r).length = r.length + 3 := by simp
      rw [List.length_drop]; omega
    · rw [← hlen, ← d3, List.drop_drop]
    · rw [← hlen]; omega
    · exact hT.keep (hO _ (by omega)) (hO _ (by omega))
    · rw [tLs_cons, List.append_cons]; exact hR2
theorem read1_s {l : List Int32} (hc : l.length ≤ 31) (hB : tB l) {S : zS} {L : zL} (hT : zTx S 1 l) {P : zS → zL → Prop} (h : ∀ S', zR S' 6 (tL 0 l) → zOut 6 (6 + 3) S S' → P S' L) : zCv mX7_readInto S L [.ref 1, .ref 6] P := by
  refine e_X7_readInto_1 (fun X => b_X7_readInto_1_0 (fun S1 e1 => ?_))
  have hO : zOut 6 (6 + 3) S S1 := by rw [e1]; exact zOut.zc (by omega) (by omega)
  have hT1 : zTx S1 1 l := hT.keep (hO _ (by omega)) (hO _ (by omega))
  have hR1 : zR S1 6 [] := ⟨by rw [e1, zc_eq]; simp [upd]; rfl, fun i e he => by simp at he⟩
  refine fault1_s hc hB hT1 ⟨fun q => ?_, fun q => h S1 (by rw [tL, if_neg q]; exact hR1) hO⟩
  refine read1_l hc hB l.length l [] S1 (Nat.le_refl _) rfl (by simp) hT1 hR1 (fun S' hR' hO' => h S' ?_ (hO.trans hO'))
  rw [tL, if_pos q]
  exact hR'
theorem append1_s {l : List Int32} {b : Int32} {S : zS} {L : zL} (hT : zTx S 1 l) (hc : l.length < 31) {P : Int32 → zS → zL → Prop} (h : ∀ S', zTx S' 1 (l ++ [b]) → zOut 1 (1 + 1) S S' → P (nI (l.length + 1)) S' L) : zCi mX7_append S L [.ref 1, .int b] P := by
  refine e_X7_append_1 (fun X => b_X7_append_1_0 ?_)
  rw [hT.1]
  refine ⟨fun q => absurd q (nI_pos (by omega)), fun _ => ⟨fun _ => ⟨vp_in_nI hc (by omega), fun S1 e1 S2 e2 => ?_⟩, fun q => absurd (nI_lt (b := 31) hc (by omega)) q⟩⟩
  rw [cl_nI (by omega)] at e1
  have s1 : S1 1 4 = nI l.length := by rw [e1, zc_ne _ _ (by omega), hT.1]
  have s2 : S2 1 4 = nI (l.length + 1) := by rw [e2, zc_eq, upd, if_pos rfl, s1, nI_1]
  rw [s2]
  refine h S2 ⟨by rw [s2]; simp, fun i e he => ?_⟩ (fun j hj => ?_)
  · have : S2 (1 + 1) = upd (S (1 + 1)) l.length b := by rw [e2, zc_ne _ _ (by omega), e1, zc_eq]
    rw [this]
    by_cases hi : i < l.length
    · rw [List.getElem?_append_left hi] at he
      rw [upd, if_neg (by omega)]; exact hT.2 i e he
    · rw [List.getElem?_append_right (by omega)] at he
      have hz : i - l.length < 1 := (List.getElem?_eq_some_iff.mp he).1
      have : i = l.length := by omega
      subst this
      simp at he
      subst he
      simp [upd]
  · rw [e2, zc_ne _ _ (by omega), e1, zc_ne _ _ (by omega)]
theorem appfull1_s {l : List Int32} {b : Int32} {S : zS} {L : zL} (hT : zTx S 1 l) (hc : l.length = 31) {P : Int32 → zS → zL → Prop} (h : P (-4) S L) : zCi mX7_append S L [.ref 1, .int b] P := by
  refine e_X7_append_1 (fun X => b_X7_append_1_0 ?_)
  rw [hT.1, hc]
  exact ⟨fun q => absurd q (by decide), fun _ => ⟨fun q => absurd q (by decide), fun _ => h⟩⟩

theorem meaning3_s {l : List Int32} (hc : l.length ≤ 39) (hB : tB l) {S : zS} {L : zL} (hT : zTx S 3 l) {i : Nat} {b : Int32} (hi : l[i]? = some b) {P : Int32 → zS → zL → Prop} (h : P (tM 3 i b) S L) : zCi mX7_meaningAt S L [.ref 3, .int (nI i)] P := by
  have hil : i < l.length := (List.getElem?_eq_some_iff.mp hi).1
  obtain ⟨n, hn, rfl⟩ := hB b (List.mem_of_getElem? hi)
  refine e_X7_meaningAt_3 (fun X => b_X7_meaningAt_3_0 ⟨fun q => absurd q (nI_pos (by omega)), fun _ => ⟨fun _ => ?_, fun q => absurd (nI_lt (b := 39) (by omega) (by omega)) q⟩⟩)
  have hv : S (3 + 1) i = nI n := hT.2 i _ hi
  rw [cl_nI (n := i) (by omega), rem4 (by omega), show S 4 i = nI n from hv, chr_nI hn]
  have hin : vp_in (nI i) 39 := vp_in_nI (by omega) (by omega)
  unfold tM tTb at h
  have h4 : i % 4 = 0 ∨ i % 4 = 1 ∨ i % 4 = 2 ∨ i % 4 = 3 := by omega
  rcases h4 with z | z | z | z
  · rw [z] at h ⊢
    exact ⟨fun _ => ⟨hin, indexOf_s (i := 3) (by decide) hn h⟩, fun q => absurd (by decide) q⟩
  · rw [z] at h ⊢
    exact ⟨fun q => absurd q (by decide), fun _ => ⟨fun _ => ⟨hin, indexOf_s (i := 3 + 1) (by decide) hn h⟩, fun q => absurd (by decide) q⟩⟩
  · rw [z] at h ⊢
    exact ⟨fun q => absurd q (by decide), fun _ => ⟨fun q => absurd q (by decide), fun _ => ⟨fun _ => ⟨hin, indexOf_s (i := 3 + 2) (by decide) hn h⟩, fun q => absurd (by decide) q⟩⟩⟩
  · rw [z] at h ⊢
    exact ⟨fun q => absurd q (by decide), fun _ => ⟨fun q => absurd q (by decide), fun _ => ⟨fun q => absurd q (by decide), fun _ => ⟨hin, indexOf_s (i := 6) (by decide) hn h⟩⟩⟩⟩
theorem fault3_l {l : List Int32} (hc : l.length ≤ 39) (hB : tB l) {S : zS} {L : zL} (hT : zTx S 3 l) {X : Nat × (Nat → Int32)} {P : Int32 → zS → zL → Prop} : ∀ (rest : List Int32) (i : Nat), l.drop i = rest → i ≤ l.length → P (tFs 3 i rest) S L → zU mX7_faultPlace X S L 2 [some (.ref 3), some (.int (nI i))] [] (zpi P) := by
  intro rest
  induction rest with
  | nil =>
    intro i hd hi h
    have hl : l.length = i := by have := List.drop_eq_nil_iff.mp hd; omega
    refine b_X7_faultPlace_3_2 ?_
    rw [hT.1, hl, rem4 (by omega)]
    refine ⟨fun _ => ⟨fun q => ?_, fun q => ⟨fun q2 => ?_, fun q2 => ?_⟩⟩, fun q => absurd (nI_le (Nat.le_refl _) (by omega)) q⟩
    · have : i = 0 := (nI_eq (b := 0) (by omega) (by omega)).mp q
      subst this; exact h
    · have h1 : ¬ i = 0 := fun z => q (by rw [z]; rfl)
      have h2 : ¬ i % 4 = 3 := fun z => q2 (by rw [z]; rfl)
      rw [tFs, tE, if_neg (by omega)] at h; exact h
    · have h2 : i % 4 = 3 := (nI_eq (b := 3) (by omega) (by omega)).mp q2
      rw [tFs, tE, if_pos (Or.inr h2)] at h; exact h
  | cons b rest ih =>
    intro i hd hi h
    obtain ⟨hl, he, hd2⟩ := dropL hd
    refine b_X7_faultPlace_3_2 ?_
    rw [hT.1]
    refine ⟨fun q => absurd q (nI_ge hl (by omega)), fun _ => ?_⟩
    refine meaning3_s hc hB hT he ?_
    rw [tFs] at h
    refine ⟨fun q x1 e1 => ?_, fun q => ?_⟩
    · rw [if_neg (i32_nlt q)] at h
      rw [e1, nI_1]
      exact ih (i + 1) hd2 (by omega) h
    · rw [if_pos (i32_lt q)] at h; exact h
theorem fault3_s {l : List Int32} (hc : l.length ≤ 39) (hB : tB l) {S : zS} {L : zL} (hT : zTx S 3 l) {P : Int32 → zS → zL → Prop} (h : P (tFs 3 0 l) S L) : zCi mX7_faultPlace S L [.ref 3] P :=
  e_X7_faultPlace_3 (fun X => b_X7_faultPlace_3_0 (fault3_l hc hB hT l 0 rfl (Nat.zero_le _) h))
theorem read3_l {l : List Int32} (hc : l.length ≤ 39) (hB : tB l) {L : zL} {X : Nat × (Nat → Int32)} {P : zS → zL → Prop} : ∀ (n : Nat) (rest : List Int32) (acc : List T3) (S : zS), rest.length ≤ n → l.drop (4 * acc.length) = rest → 4 * acc.length ≤ l.length + 1 → zTx S 3 l → zR S 10 acc → (∀ S', zR S' 10 (acc ++ tLs 3 rest) → zOut 10 (10 + 3) S S' → P S' L) → zU mX7_readInto X S L 16 [some (.ref 3), some (.ref 10), some (.int (nI (4 * acc.length)))] [] (zpv P) := by
  have e2 : ∀ i, nI i + (2 : Int32) = nI (i + 2) := fun i => by rw [show (2 : Int32) = nI 2 by decide, nI_add]
  have e4 : ∀ i, nI i + (4 : Int32) = nI (i + 4) := fun i => by rw [show (4 : Int32) = nI 4 by decide, nI_add]
  have fin : ∀ (rest : List Int32) (acc : List T3) (S : zS), rest.length ≤ 2 → l.drop (4 * acc.length) = rest → 4 * acc.length ≤ l.length + 1 → zTx S 3 l → zR S 10 acc → (∀ S', zR S' 10 (acc ++ tLs 3 rest) → zOut 10 (10 + 3) S S' → P S' L) → zU mX7_readInto X S L 16 [some (.ref 3), some (.ref 10), some (.int (nI (4 * acc.length)))] [] (zpv P) := by
    intro rest acc S hn hd hi hT hR h
    have hl : l.length - 4 * acc.length = rest.length := by rw [← hd, List.length_drop]
    refine b_X7_readInto_3_16 ⟨fun _ => h S (by rw [tLs_short hn, List.append_nil]; exact hR) zOut.rf, fun q => absurd ?_ q⟩
    rw [hT.1, e2]
    exact nI_le (by omega) (by omega)
  intro n
  induction n with
  | zero => exact fun rest acc S hn => fin rest acc S (by omega)
  | succ n ih =>
    intro rest acc S hn hd hi hT hR h
    by_cases h2 : rest.length ≤ 2
    · exact fin rest acc S h2 hd hi hT hR h
    obtain ⟨a, b, c, r, rfl⟩ : ∃ a b c r, rest = a :: b :: c :: r := by
      match rest, h2 with
      | [], h2 => exact absurd (by simp) h2
      | [_], h2 => exact absurd (by simp) h2
      | [_, _], h2 => exact absurd (by simp) h2
      | a :: b :: c :: r, _ => exact ⟨a, b, c, r, rfl⟩
    obtain ⟨l1, g1, d1⟩ := dropL hd
    obtain ⟨l2, g2, d2⟩ := dropL d1
    obtain ⟨l3, g3, d3⟩ := dropL d2
    refine b_X7_readInto_3_16 ⟨fun q => absurd q ?_, fun _ => ?_⟩
    · rw [hT.1, e2]; exact nI_ge (by omega) (by omega)
    rw [e2, nI_1]
    refine meaning3_s hc hB hT g1 (meaning3_s hc hB hT g2 (meaning3_s hc hB hT g3 ?_))
    refine rows_append (n := 10) ⟨rfl, rfl, rfl, rfl⟩ hR (by omega) (by omega) (fun S' hR' hO x1 e1 => ?_)
    rw [e1, e4]
    have m1 : tM 3 (4 * acc.length) a = pIx 3 a := by unfold tM tTb; rw [if_pos (by omega)]
    have m2 : tM 3 (4 * acc.length + 1) b = pIx (3 + 1) b := by unfold tM tTb; rw [if_neg (by omega), if_pos (by omega)]
    have m3 : tM 3 (4 * acc.length + 1 + 1) c = pIx (3 + 2) c := by unfold tM tTb; rw [if_neg (by omega), if_neg (by omega), if_pos (by omega)]
    rw [m1, m2, m3] at hR'
    have hlen : 4 * acc.length + 4 = 4 * (acc ++ [(pIx 3 a, pIx (3 + 1) b, pIx (3 + 2) c)]).length := by simp; omega
    rw [hlen]
    refine ih (r.drop 1) _ S' ?_ ?_ ?_ ?_ hR' (fun S2 hR2 hO2 => h S2 ?_ (hO.trans hO2))
    · have : (a :: b :: c :: r).length = r.length + 3 := by simp
      rw [List.length_drop]; omega
    · rw [← hlen, ← d3, List.drop_drop]
    · rw [← hlen]; omega
    · exact hT.keep (hO _ (by omega)) (hO _ (by omega))
    · rw [tLs_cons, List.append_cons]; exact hR2
theorem read3_s {l : List Int32} (hc : l.length ≤ 39) (hB : tB l) {S : zS} {L : zL} (hT : zTx S 3 l) {P : zS → zL → Prop} (h : ∀ S', zR S' 10 (tL 3 l) → zOut 10 (10 + 3) S S' → P S' L) : zCv mX7_readInto S L [.ref 3, .ref 10] P := by
  refine e_X7_readInto_3 (fun X => b_X7_readInto_3_0 (fun S1 e1 => ?_))
  have hO : zOut 10 (10 + 3) S S1 := by rw [e1]; exact zOut.zc (by omega) (by omega)
  have hT1 : zTx S1 3 l := hT.keep (hO _ (by omega)) (hO _ (by omega))
  have hR1 : zR S1 10 [] := ⟨by rw [e1, zc_eq]; simp [upd]; rfl, fun i e he => by simp at he⟩
  refine fault3_s hc hB hT1 ⟨fun q => ?_, fun q => h S1 (by rw [tL, if_neg q]; exact hR1) hO⟩
  refine read3_l hc hB l.length l [] S1 (Nat.le_refl _) rfl (by simp) hT1 hR1 (fun S' hR' hO' => h S' ?_ (hO.trans hO'))
  rw [tL, if_pos q]
  exact hR'
theorem append3_s {l : List Int32} {b : Int32} {S : zS} {L : zL} (hT : zTx S 3 l) (hc : l.length < 39) {P : Int32 → zS → zL → Prop} (h : ∀ S', zTx S' 3 (l ++ [b]) → zOut 3 (3 + 1) S S' → P (nI (l.length + 1)) S' L) : zCi mX7_append S L [.ref 3, .int b] P := by
  refine e_X7_append_3 (fun X => b_X7_append_3_0 ?_)
  rw [hT.1]
  refine ⟨fun q => absurd q (nI_pos (by omega)), fun _ => ⟨fun _ => ⟨vp_in_nI hc (by omega), fun S1 e1 S2 e2 => ?_⟩, fun q => absurd (nI_lt (b := 39) hc (by omega)) q⟩⟩
  rw [cl_nI (by omega)] at e1
  have s1 : S1 3 4 = nI l.length := by rw [e1, zc_ne _ _ (by omega), hT.1]
  have s2 : S2 3 4 = nI (l.length + 1) := by rw [e2, zc_eq, upd, if_pos rfl, s1, nI_1]
  rw [s2]
  refine h S2 ⟨by rw [s2]; simp, fun i e he => ?_⟩ (fun j hj => ?_)
  · have : S2 (3 + 1) = upd (S (3 + 1)) l.length b := by rw [e2, zc_ne _ _ (by omega), e1, zc_eq]
    rw [this]
    by_cases hi : i < l.length
    · rw [List.getElem?_append_left hi] at he
      rw [upd, if_neg (by omega)]; exact hT.2 i e he
    · rw [List.getElem?_append_right (by omega)] at he
      have hz : i - l.length < 1 := (List.getElem?_eq_some_iff.mp he).1
      have : i = l.length := by omega
      subst this
      simp at he
      subst he
      simp [upd]
  · rw [e2, zc_ne _ _ (by omega), e1, zc_ne _ _ (by omega)]
theorem appfull3_s {l : List Int32} {b : Int32} {S : zS} {L : zL} (hT : zTx S 3 l) (hc : l.length = 39) {P : Int32 → zS → zL → Prop} (h : P (-4) S L) : zCi mX7_append S L [.ref 3, .int b] P := by
  refine e_X7_append_3 (fun X => b_X7_append_3_0 ?_)
  rw [hT.1, hc]
  exact ⟨fun q => absurd q (by decide), fun _ => ⟨fun q => absurd q (by decide), fun _ => h⟩⟩
