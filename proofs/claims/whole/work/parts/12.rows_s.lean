/-! WHAT ROWS DO: a Rows object holds a list of triples -/
abbrev T3 : Type := Int32 × Int32 × Int32
def zR (S : zS) (k : Nat) (l : List T3) : Prop := S k 3 = nI l.length ∧ ∀ (i : Nat) (e : T3), l[i]? = some e → S (k + 1) i = e.1 ∧ S (k + 2) i = e.2.1 ∧ S (k + 3) i = e.2.2
/-- nothing outside the cells from a to b is another -/
def zOut (a b : Nat) (S S' : zS) : Prop := ∀ j : Nat, j < a ∨ b < j → S' j = S j
theorem zOut.rf {a b : Nat} {S : zS} : zOut a b S S := fun _ _ => rfl
theorem zOut.trans {a b : Nat} {S S' S'' : zS} (h1 : zOut a b S S') (h2 : zOut a b S' S'') : zOut a b S S'' := fun j hj => (h2 j hj).trans (h1 j hj)
theorem zOut.mono {a b c d : Nat} {S S' : zS} (h : zOut a b S S') (h1 : c ≤ a) (h2 : b ≤ d) : zOut c d S S' := fun j hj => h j (by omega)
theorem zOut.zc {a b k : Nat} {S : zS} {f : Nat → Int32} (h1 : a ≤ k) (h2 : k ≤ b) : zOut a b S (zc S k f) := fun j hj => zc_ne _ _ (by omega)
theorem zR.keep {S S' : zS} {k : Nat} {l : List T3} (h : zR S k l) (h0 : S' k = S k) (h1 : S' (k + 1) = S (k + 1)) (h2 : S' (k + 2) = S (k + 2)) (h3 : S' (k + 3) = S (k + 3)) : zR S' k l := by
  unfold zR; rw [h0, h1, h2, h3]; exact h
theorem zR.out {S S' : zS} {k a b : Nat} {l : List T3} (h : zR S k l) (ho : zOut a b S S') (hd : k + 3 < a ∨ b < k) : zR S' k l := h.keep (ho _ (by omega)) (ho _ (by omega)) (ho _ (by omega)) (ho _ (by omega))
theorem rows_append {k n : Nat} {a b c : Int32} (hk : zRo k n) {S : zS} {L : zL} {l : List T3} (hR : zR S k l) (hl : l.length < n) (hn : n < 2 ^ 31) {P : Int32 → zS → zL → Prop} (h : ∀ S', zR S' k (l ++ [(a, b, c)]) → zOut k (k + 3) S S' → P (nI (l.length + 1)) S' L) : zCi mX5_append S L [.ref k, .int a, .int b, .int c] P := by
  refine e_X5_append (fun X => b_X5_append_0 hk ?_)
  obtain ⟨hc, hv⟩ := hR
  have hp : ¬ nI l.length < 0 := nI_pos (by omega)
  have hin : vp_in (nI l.length) n := vp_in_nI hl hn
  have hcl : (nI l.length).toNatClampNeg = l.length := nI_clamp (by omega)
  refine ⟨fun q => absurd (hc ▸ q) hp, fun _ => ⟨fun _ => ?_, fun q => absurd (hc ▸ nI_lt hl hn) q⟩⟩
  rw [hc]
  refine ⟨hin, fun S1 e1 => ?_⟩
  have c1 : S1 k 3 = nI l.length := by rw [e1, zc_ne _ _ (by omega), hc]
  rw [c1]
  refine ⟨hin, fun S2 e2 => ?_⟩
  have c2 : S2 k 3 = nI l.length := by rw [e2, zc_ne _ _ (by omega), c1]
  rw [c2]
  refine ⟨hin, fun S3 e3 => ?_⟩
  have c3 : S3 k 3 = nI l.length := by rw [e3, zc_ne _ _ (by omega), c2]
  rw [c3]
  intro S4 e4
  have c4 : S4 k 3 = nI (l.length + 1) := by rw [e4, zc_eq]; simp [upd, nI_1]
  rw [c4]
  rw [hcl] at e1 e2 e3
  have a1 : S4 (k + 1) = upd (S (k + 1)) l.length a := by
    rw [e4, zc_ne _ _ (by omega), e3, zc_ne _ _ (by omega), e2, zc_ne _ _ (by omega), e1, zc_eq]
  have a2 : S4 (k + 2) = upd (S (k + 2)) l.length b := by
    rw [e4, zc_ne _ _ (by omega), e3, zc_ne _ _ (by omega), e2, zc_eq, e1, zc_ne _ _ (by omega)]
  have a3 : S4 (k + 3) = upd (S (k + 3)) l.length c := by
    rw [e4, zc_ne _ _ (by omega), e3, zc_eq, e2, zc_ne _ _ (by omega), e1, zc_ne _ _ (by omega)]
  refine h S4 ⟨by rw [c4]; simp, fun i e he => ?_⟩ (fun j hj => ?_)
  · rw [a1, a2, a3]
    by_cases hi : i < l.length
    · rw [List.getElem?_append_left hi] at he
      obtain ⟨q1, q2, q3⟩ := hv i e he
      simp only [upd, if_neg (Nat.ne_of_lt hi)]
      exact ⟨q1, q2, q3⟩
    · rw [List.getElem?_append_right (by omega)] at he
      have hz : i - l.length < 1 := (List.getElem?_eq_some_iff.mp he).1
      have : i = l.length := by omega
      subst this
      simp at he
      subst he
      simp [upd]
  · rw [e4, zc_ne _ _ (by omega), e3, zc_ne _ _ (by omega), e2, zc_ne _ _ (by omega), e1, zc_ne _ _ (by omega)]
theorem rows_full {k n : Nat} {a b c : Int32} (hk : zRo k n) {S : zS} {L : zL} {l : List T3} (hR : zR S k l) (hl : n ≤ l.length) (hn : l.length < 2 ^ 31) {P : Int32 → zS → zL → Prop} (h : P (-4) S L) : zCi mX5_append S L [.ref k, .int a, .int b, .int c] P := by
  refine e_X5_append (fun X => b_X5_append_0 hk ?_)
  obtain ⟨hc, hv⟩ := hR
  rw [hc]
  exact ⟨fun _ => h, fun _ => ⟨fun q => absurd q (nI_nlt hl hn), fun _ => h⟩⟩
/-- the column of a triple -/
def t3c (e : T3) (col : Int32) : Int32 := if col = 0 then e.1 else if col = 1 then e.2.1 else e.2.2
theorem rows_cell {k n : Nat} {i : Nat} {col : Int32} (hk : zRo k n) {S : zS} {L : zL} {l : List T3} (hR : zR S k l) (hn : l.length ≤ n ∧ n < 2 ^ 31) {e : T3} (hi : l[i]? = some e) {P : Int32 → zS → zL → Prop} (h : P (t3c e col) S L) : zCi mX5_cell S L [.ref k, .int (nI i), .int col] P := by
  refine e_X5_cell (fun X => b_X5_cell_0 hk ?_)
  obtain ⟨hc, hv⟩ := hR
  have hil : i < l.length := (List.getElem?_eq_some_iff.mp hi).1
  obtain ⟨q1, q2, q3⟩ := hv i e hi
  have hin : vp_in (nI i) n := vp_in_nI (by omega) hn.2
  have hcl : (nI i).toNatClampNeg = i := nI_clamp (by omega)
  rw [hc, hcl, q1, q2, q3]
  refine ⟨fun q => absurd q (nI_pos (by omega)), fun _ => ⟨fun _ => ?_, fun q => absurd (nI_lt hil (by omega)) q⟩⟩
  unfold t3c at h
  refine ⟨fun z0 => ⟨fun z1 => ⟨hin, ?_⟩, fun z1 => ⟨hin, ?_⟩⟩, fun z0 => ⟨hin, ?_⟩⟩
  · rw [if_neg z0, if_neg z1] at h; exact h
  · rw [if_neg z0, if_pos z1] at h; exact h
  · rw [if_pos z0] at h; exact h
def t3s (e : T3) (col x : Int32) : T3 := if col = 0 then (x, e.2.1, e.2.2) else if col = 1 then (e.1, x, e.2.2) else (e.1, e.2.1, x)
theorem rows_setCell {k n : Nat} {i : Nat} {col x : Int32} (hk : zRo k n) {S : zS} {L : zL} {l : List T3} (hR : zR S k l) (hn : l.length ≤ n ∧ n < 2 ^ 31) {e : T3} (hi : l[i]? = some e) {P : zS → zL → Prop} (h : ∀ S', zR S' k (l.set i (t3s e col x)) → zOut k (k + 3) S S' → P S' L) : zCv mX5_setCell S L [.ref k, .int (nI i), .int col, .int x] P := by
  refine e_X5_setCell (fun X => b_X5_setCell_0 hk ?_)
  obtain ⟨hc, hv⟩ := hR
  have hil : i < l.length := (List.getElem?_eq_some_iff.mp hi).1
  have hin : vp_in (nI i) n := vp_in_nI (by omega) hn.2
  have hcl : (nI i).toNatClampNeg = i := nI_clamp (by omega)
  rw [hc, hcl]
  refine ⟨fun q => absurd q (nI_pos (by omega)), fun _ => ⟨fun _ => ?_, fun q => absurd (nI_lt hil (by omega)) q⟩⟩
  have key : ∀ (S' : zS) (e' : T3), S' k = S k → S' (k + 1) = upd (S (k + 1)) i e'.1 → S' (k + 2) = upd (S (k + 2)) i e'.2.1 → S' (k + 3) = upd (S (k + 3)) i e'.2.2 → zR S' k (l.set i e') := by
    intro S' e' g0 g1 g2 g3
    refine ⟨by rw [g0, hc, List.length_set], fun j e2 he => ?_⟩
    rw [g1, g2, g3]
    by_cases hj : j = i
    · subst hj
      rw [List.getElem?_set_self hil] at he
      cases he
      simp [upd]
    · rw [List.getElem?_set_ne (Ne.symm hj)] at he
      simp only [upd, if_neg hj]
      exact hv j e2 he
  have self : ∀ (f : Nat → Int32) (y : Int32), f i = y → upd f i y = f := by
    intro f y hy
    funext j
    by_cases hj : j = i
    · subst hj; simp [upd, hy]
    · simp [upd, hj]
  obtain ⟨q1, q2, q3⟩ := hv i e hi
  unfold t3s at h
  refine ⟨fun z0 => ⟨fun z1 => ⟨hin, fun S1 e1 => ?_⟩, fun z1 => ⟨hin, fun S1 e1 => ?_⟩⟩, fun z0 => ⟨hin, fun S1 e1 => ?_⟩⟩
  · rw [if_neg z0, if_neg z1] at h
    exact h S1 (key S1 _ (by rw [e1, zc_ne _ _ (by omega)]) (by rw [e1, zc_ne _ _ (by omega), self _ _ q1]) (by rw [e1, zc_ne _ _ (by omega), self _ _ q2]) (by rw [e1, zc_eq])) (by rw [e1]; exact zOut.zc (by omega) (by omega))
  · rw [if_neg z0, if_pos z1] at h
    exact h S1 (key S1 _ (by rw [e1, zc_ne _ _ (by omega)]) (by rw [e1, zc_ne _ _ (by omega), self _ _ q1]) (by rw [e1, zc_eq]) (by rw [e1, zc_ne _ _ (by omega), self _ _ q3])) (by rw [e1]; exact zOut.zc (by omega) (by omega))
  · rw [if_pos z0] at h
    exact h S1 (key S1 _ (by rw [e1, zc_ne _ _ (by omega)]) (by rw [e1, zc_eq]) (by rw [e1, zc_ne _ _ (by omega), self _ _ q2]) (by rw [e1, zc_ne _ _ (by omega), self _ _ q3])) (by rw [e1]; exact zOut.zc (by omega) (by omega))
theorem cpy_at {f g : Nat → Int32} {sp dp n j : Nat} : va_cpy f g sp dp n j = if dp ≤ j ∧ j < dp + n then f (sp + (j - dp)) else g j := rfl
theorem rows_takeOut {k n : Nat} {i : Nat} (hk : zRo k n) {S : zS} {L : zL} {l : List T3} (hR : zR S k l) (hn : l.length ≤ n ∧ n < 2 ^ 31) (hi : i < l.length) {P : zS → zL → Prop} (h : ∀ S', zR S' k (l.eraseIdx i) → zOut k (k + 3) S S' → P S' L) : zCv mX5_takeOut S L [.ref k, .int (nI i)] P := by
  refine e_X5_takeOut (fun X => b_X5_takeOut_0 hk ?_)
  obtain ⟨hc, hv⟩ := hR
  rw [hc]
  refine ⟨fun q => absurd q (nI_pos (by omega)), fun _ => ⟨fun _ => ?_, fun q => absurd (nI_lt hi (by omega)) q⟩⟩
  have ex : nI l.length - nI i - 1 = nI (l.length - i - 1) := by
    rw [pk_sub (by omega)]
    obtain ⟨d, hd⟩ : ∃ d, l.length - i = d + 1 := ⟨l.length - i - 1, by omega⟩
    rw [hd, nI_pred]
    rfl
  rw [ex]
  intro x1 e1
  subst e1
  have g0 : nI i + 1 = nI (i + 1) := nI_1 i
  rw [g0, nI_clamp (n := i + 1) (by omega), nI_clamp (n := i) (by omega), nI_clamp (n := l.length - i - 1) (by omega)]
  have hb : (¬ nI (i + 1) < 0 ∧ ¬ nI i < 0 ∧ ¬ nI (l.length - i - 1) < 0) ∧ i + 1 + (l.length - i - 1) ≤ n ∧ i + (l.length - i - 1) ≤ n := ⟨⟨nI_pos (by omega), nI_pos (by omega), nI_pos (by omega)⟩, by omega, by omega⟩
  refine ⟨hb, fun S1 e1 => ⟨hb, fun S2 e2 => ⟨hb, fun S3 e3 S4 e4 => ?_⟩⟩⟩
  have c3 : S3 k 3 = nI l.length := by rw [e3, zc_ne _ _ (by omega), e2, zc_ne _ _ (by omega), e1, zc_ne _ _ (by omega), hc]
  have c4 : S4 k 3 = nI (l.length - 1) := by
    rw [e4, zc_eq, c3]
    obtain ⟨d, hd⟩ : ∃ d, l.length = d + 1 := ⟨l.length - 1, by omega⟩
    simp only [upd, if_pos]
    rw [hd, nI_pred]
    rfl
  have a1 : S4 (k + 1) = va_cpy (S (k + 1)) (S (k + 1)) (i + 1) i (l.length - i - 1) := by
    rw [e4, zc_ne _ _ (by omega), e3, zc_ne _ _ (by omega), e2, zc_ne _ _ (by omega), e1, zc_eq]
  have a2 : S4 (k + 2) = va_cpy (S (k + 2)) (S (k + 2)) (i + 1) i (l.length - i - 1) := by
    rw [e4, zc_ne _ _ (by omega), e3, zc_ne _ _ (by omega), e2, zc_eq, e1, zc_ne _ _ (by omega)]
  have a3 : S4 (k + 3) = va_cpy (S (k + 3)) (S (k + 3)) (i + 1) i (l.length - i - 1) := by
    rw [e4, zc_ne _ _ (by omega), e3, zc_eq, e2, zc_ne _ _ (by omega), e1, zc_ne _ _ (by omega)]
  refine h S4 ⟨by rw [c4, List.length_eraseIdx_of_lt hi], fun j e he => ?_⟩ (fun j hj => ?_)
  · have hjl : j < l.length - 1 := by
      have := (List.getElem?_eq_some_iff.mp he).1
      rwa [List.length_eraseIdx_of_lt hi] at this
    rw [a1, a2, a3, cpy_at, cpy_at, cpy_at]
    by_cases hji : j < i
    · rw [List.getElem?_eraseIdx_of_lt hji] at he
      rw [if_neg (by omega), if_neg (by omega), if_neg (by omega)]
      exact hv j e he
    · rw [List.getElem?_eraseIdx_of_ge (by omega)] at he
      rw [if_pos (by omega), if_pos (by omega), if_pos (by omega), show i + 1 + (j - i) = j + 1 by omega]
      exact hv (j + 1) e he
  · rw [e4, zc_ne _ _ (by omega), e3, zc_ne _ _ (by omega), e2, zc_ne _ _ (by omega), e1, zc_ne _ _ (by omega)]
theorem rows_noOut {k n : Nat} {i : Int32} (hk : zRo k n) {S : zS} {L : zL} (hi : i < 0) {P : zS → zL → Prop} (h : P S L) : zCv mX5_takeOut S L [.ref k, .int i] P := by
  refine e_X5_takeOut (fun X => b_X5_takeOut_0 hk ?_)
  exact ⟨fun _ => h, fun q => absurd hi q⟩
theorem rows_become {k n j m : Nat} (hk : zRo k n) (hj : zRo j m) (hd : k + 3 < j ∨ j + 3 < k) {S : zS} {L : zL} {l : List T3} (hR : zR S j l) (hn : l.length ≤ n ∧ l.length ≤ m ∧ n < 2 ^ 31) {P : zS → zL → Prop} (h : ∀ S', zR S' k l → zOut k (k + 3) S S' → P S' L) : zCv mX5_become S L [.ref k, .ref j] P := by
  refine e_X5_become (fun X => b_X5_become_0 hk hj ?_)
  obtain ⟨hc, hv⟩ := hR
  rw [hc, if_neg (nI_nlt hn.1 hn.2.2)]
  intro x1 e1
  subst e1
  have z0 : (0 : Int32).toNatClampNeg = 0 := rfl
  rw [z0, nI_clamp (n := l.length) (by omega)]
  have hb : (¬ (0 : Int32) < 0 ∧ ¬ (0 : Int32) < 0 ∧ ¬ nI l.length < 0) ∧ 0 + l.length ≤ m ∧ 0 + l.length ≤ n := ⟨⟨by decide, by decide, nI_pos (by omega)⟩, by omega, by omega⟩
  refine ⟨hb, fun S1 e1 => ⟨hb, fun S2 e2 => ⟨hb, fun S3 e3 S4 e4 => ?_⟩⟩⟩
  have a1 : S4 (k + 1) = va_cpy (S (j + 1)) (S (k + 1)) 0 0 l.length := by
    rw [e4, zc_ne _ _ (by omega), e3, zc_ne _ _ (by omega), e2, zc_ne _ _ (by omega), e1, zc_eq]
  have a2 : S4 (k + 2) = va_cpy (S (j + 2)) (S (k + 2)) 0 0 l.length := by
    rw [e4, zc_ne _ _ (by omega), e3, zc_ne _ _ (by omega), e2, zc_eq, e1, zc_ne _ _ (by omega), zc_ne _ _ (by omega)]
  have a3 : S4 (k + 3) = va_cpy (S (j + 3)) (S (k + 3)) 0 0 l.length := by
    rw [e4, zc_ne _ _ (by omega), e3, zc_eq, e2, zc_ne _ _ (by omega), zc_ne _ _ (by omega), e1, zc_ne _ _ (by omega), zc_ne _ _ (by omega)]
  refine h S4 ⟨by rw [e4, zc_eq]; simp [upd], fun i e he => ?_⟩ (fun q hq => ?_)
  · have hil : i < l.length := (List.getElem?_eq_some_iff.mp he).1
    rw [a1, a2, a3, cpy_at, cpy_at, cpy_at, if_pos (by omega), if_pos (by omega), if_pos (by omega), show 0 + (i - 0) = i by omega]
    exact hv i e he
  · rw [e4, zc_ne _ _ (by omega), e3, zc_ne _ _ (by omega), e2, zc_ne _ _ (by omega), e1, zc_ne _ _ (by omega)]
