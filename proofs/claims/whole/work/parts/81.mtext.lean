/-! THE REFERENCE READS ITS TEXTS -/
def tBy (l : List Int32) (k : Nat) : Int32 := l.getD k (-1)
def mTb (S : zS) (t : Nat) (l : List Int32) : Prop := S 73 t = nI l.length ∧ ∀ (i : Nat) (b : Int32), l[i]? = some b → S 74 (39 * t + i) = b
theorem mTb.keep {S S' : zS} {t : Nat} {l : List Int32} (h : mTb S t l) (h0 : S' 73 = S 73) (h1 : S' 74 = S 74) : mTb S' t l := by
  unfold mTb; rw [h0, h1]; exact h
theorem tBy_ok {l : List Int32} (hB : tB l) (k : Nat) : tBy l k = -1 ∨ ∃ n, n < 256 ∧ tBy l k = nI n := by
  unfold tBy
  rw [List.getD_eq_getElem?_getD]
  cases h : l[k]? with
  | none => exact Or.inl rfl
  | some b => exact Or.inr (hB b (List.mem_of_getElem? h))
theorem byteAt_s {t k : Nat} {l : List Int32} (ht : t < 2) (hk : k < 1000) (hl : l.length ≤ 39) {S : zS} {L : zL} (hT : mTb S t l) {P : Int32 → zS → zL → Prop} (h : P (tBy l k) S L) : zCi mX11_byteAt S L [.ref 72, .int (nI t), .int (nI k)] P := by
  refine e_X11_byteAt (fun X => b_X11_byteAt_0 ?_)
  have e : (39 : Int32) * nI t + nI k = nI (39 * t + k) := by rw [show (39 : Int32) = nI 39 by decide, pk_mul, nI_add]
  rw [e, cl_nI (n := t) (by omega), cl_nI (n := 39 * t + k) (by omega), hT.1]
  unfold tBy at h
  rw [List.getD_eq_getElem?_getD] at h
  refine ⟨vp_in_nI ht (by omega), fun q => ?_, fun q => ?_⟩
  · have : l.length ≤ k := (nI_leI (by omega) (by omega)).mp q
    rw [List.getElem?_eq_none this] at h; exact h
  · have hlt : k < l.length := by
      rcases Nat.lt_or_ge k l.length with z | z
      · exact z
      · exact absurd (nI_le z (by omega)) q
    refine ⟨vp_in_nI (by omega) (by omega), ?_⟩
    rw [hT.2 k _ (List.getElem?_eq_getElem hlt)]
    rw [List.getElem?_eq_getElem hlt] at h; exact h
theorem ix_wool (b : Int32) : pIx 0 b = if b = 102 then 0 else if b = 99 then 1 else if b = 104 then 2 else -1 := by
  have : pIx 0 b = if 102 = b then nI 0 else if 99 = b then nI 1 else if 104 = b then nI 2 else -1 := rfl
  rw [this]
  simp only [eq_comm (b := b)]
  rfl
theorem ix_what (b : Int32) : pIx 5 b = if b = 108 then 0 else if b = 101 then 1 else if b = 116 then 2 else if b = 109 then 3 else -1 := by
  have : pIx 5 b = if 108 = b then nI 0 else if 101 = b then nI 1 else if 116 = b then nI 2 else if 109 = b then nI 3 else -1 := rfl
  rw [this]
  simp only [eq_comm (b := b)]
  rfl
theorem ix_semi (b : Int32) : pIx 6 b = if b = 59 then 0 else -1 := by
  have : pIx 6 b = if 59 = b then nI 0 else -1 := rfl
  rw [this]
  simp only [eq_comm (b := b)]
  rfl
theorem ix_1 {b : Int32} (h : b = -1 ∨ ∃ n, n < 256 ∧ b = nI n) : (((0 : Int32) ≤ b - 48 ∧ b - 48 ≤ 3) ↔ ¬ pIx 1 b < 0) ∧ (¬ pIx 1 b < 0 → b - 48 = pIx 1 b) := by
  rcases h with rfl | ⟨n, hn, rfl⟩
  · decide +kernel
  · exact (by decide +kernel : ∀ n, n < 256 → (((0 : Int32) ≤ nI n - 48 ∧ nI n - 48 ≤ 3) ↔ ¬ pIx 1 (nI n) < 0) ∧ (¬ pIx 1 (nI n) < 0 → nI n - 48 = pIx 1 (nI n))) n hn
theorem ix_2 {b : Int32} (h : b = -1 ∨ ∃ n, n < 256 ∧ b = nI n) : (((0 : Int32) ≤ b - 48 ∧ b - 48 ≤ 9) ↔ ¬ pIx 2 b < 0) ∧ (¬ pIx 2 b < 0 → b - 48 = pIx 2 b) := by
  rcases h with rfl | ⟨n, hn, rfl⟩
  · decide +kernel
  · exact (by decide +kernel : ∀ n, n < 256 → (((0 : Int32) ≤ nI n - 48 ∧ nI n - 48 ≤ 9) ↔ ¬ pIx 2 (nI n) < 0) ∧ (¬ pIx 2 (nI n) < 0 → nI n - 48 = pIx 2 (nI n))) n hn
theorem ix_3 {b : Int32} (h : b = -1 ∨ ∃ n, n < 256 ∧ b = nI n) : (((0 : Int32) ≤ b - 97 ∧ b - 97 ≤ 23) ↔ ¬ pIx 3 b < 0) ∧ (¬ pIx 3 b < 0 → b - 97 = pIx 3 b) := by
  rcases h with rfl | ⟨n, hn, rfl⟩
  · decide +kernel
  · exact (by decide +kernel : ∀ n, n < 256 → (((0 : Int32) ≤ nI n - 97 ∧ nI n - 97 ≤ 23) ↔ ¬ pIx 3 (nI n) < 0) ∧ (¬ pIx 3 (nI n) < 0 → nI n - 97 = pIx 3 (nI n))) n hn
theorem ix_4 {b : Int32} (h : b = -1 ∨ ∃ n, n < 256 ∧ b = nI n) : (((0 : Int32) ≤ b - 48 ∧ b - 48 ≤ 7) ↔ ¬ pIx 4 b < 0) ∧ (¬ pIx 4 b < 0 → b - 48 = pIx 4 b) := by
  rcases h with rfl | ⟨n, hn, rfl⟩
  · decide +kernel
  · exact (by decide +kernel : ∀ n, n < 256 → (((0 : Int32) ≤ nI n - 48 ∧ nI n - 48 ≤ 7) ↔ ¬ pIx 4 (nI n) < 0) ∧ (¬ pIx 4 (nI n) < 0 → nI n - 48 = pIx 4 (nI n))) n hn
theorem ix_m1 {x : Nat} (hx : x < 7) : pIx x (-1) < 0 := (by decide +kernel : ∀ x, x < 7 → pIx x (-1) < 0) x hx
theorem readsPerson_s {n k : Nat} (hn : n < 9) (hk : k < 100) {l : List Int32} (hl : l.length ≤ 39) (hB : tB l) {S : zS} {L : zL} (hT : mTb S 0 l) {P : Int32 → zS → zL → Prop}
    (h0 : pIx 0 (tBy l k) < 0 → P 0 S L) (h1 : ¬ pIx 0 (tBy l k) < 0 → pIx 1 (tBy l (k + 1)) < 0 → P 1 S L) (h2 : ¬ pIx 0 (tBy l k) < 0 → ¬ pIx 1 (tBy l (k + 1)) < 0 → pIx 2 (tBy l (k + 2)) < 0 → P 2 S L)
    (h3 : ¬ pIx 0 (tBy l k) < 0 → ¬ pIx 1 (tBy l (k + 1)) < 0 → ¬ pIx 2 (tBy l (k + 2)) < 0 → ∀ S', S' = zc (zc (zc S 75 (upd (S 75) n (pIx 0 (tBy l k)))) 76 (upd (S 76) n (pIx 1 (tBy l (k + 1))))) 77 (upd (S 77) n (pIx 2 (tBy l (k + 2)))) → P 3 S' L) : zCi mX11_readsPerson S L [.ref 72, .int (nI n), .int (nI k)] P := by
  have e2 : nI k + (2 : Int32) = nI (k + 2) := by rw [show (2 : Int32) = nI 2 by decide, nI_add]
  have tail : ∀ X w0, w0 = pIx 0 (tBy l k) → zU mX11_readsPerson X S L 38 [some (.ref 72), some (.int (nI n)), some (.int (nI k)), none, none, none, none] [.int w0] (zpi P) := by
    intro X w0 hw
    refine b_X11_readsPerson_38 ?_
    rw [nI_1, e2]
    refine byteAt_s (t := 0) (by omega) (by omega) hl hT (fun x1 ex1 => byteAt_s (t := 0) (by omega) (by omega) hl hT (fun x2 ex2 => ?_))
    obtain ⟨a1, a2⟩ := ix_1 (tBy_ok hB (k + 1))
    obtain ⟨b1, b2⟩ := ix_2 (tBy_ok hB (k + 2))
    have hw1 : w0 = -1 ↔ pIx 0 (tBy l k) < 0 := by
      rw [hw, ix_wool]
      (repeat' split) <;> decide
    refine ⟨fun q => ⟨fun q1 => ⟨fun q2 => ?_, fun q2 => ?_⟩, fun q1 => ?_⟩, fun q => h0 (hw1.mp q)⟩
    · rw [ex1] at q1
      rw [ex2] at q2
      refine ⟨vp_in_nI hn (by omega), fun S3 e3 => ⟨vp_in_nI hn (by omega), fun S4 e4 => ⟨vp_in_nI hn (by omega), fun S5 e5 => ?_⟩⟩⟩
      refine h3 (fun z => q (hw1.mpr z)) (a1.mp q1) (b1.mp q2) S5 ?_
      rw [cl_nI (by omega)] at e3 e4 e5
      rw [e5, e4, e3, ex1, ex2, a2 (a1.mp q1), b2 (b1.mp q2), hw]
      rw [zc_ne _ _ (show (76 : Nat) ≠ 75 by decide), zc_ne _ _ (show (77 : Nat) ≠ 76 by decide), zc_ne _ _ (show (77 : Nat) ≠ 75 by decide)]
    · rw [ex1] at q1
      rw [ex2] at q2
      refine h2 (fun z => q (hw1.mpr z)) (a1.mp q1) ?_
      rcases Decidable.em (pIx 2 (tBy l (k + 2)) < 0) with z | z
      · exact z
      · exact absurd (b1.mpr z) q2
    · rw [ex1] at q1
      refine h1 (fun z => q (hw1.mpr z)) ?_
      rcases Decidable.em (pIx 1 (tBy l (k + 1)) < 0) with z | z
      · exact z
      · exact absurd (a1.mpr z) q1
  refine e_X11_readsPerson (fun X => b_X11_readsPerson_0 (byteAt_s (t := 0) (by omega) (by omega) hl hT ?_))
  have hw := ix_wool (tBy l k)
  refine ⟨fun q0 => ⟨fun q1 => ⟨fun q2 => tail X _ ?_, fun q2 => tail X _ ?_⟩, fun q1 => tail X _ ?_⟩, fun q0 => tail X _ ?_⟩
  · rw [hw, if_neg q0, if_neg q1, if_neg q2]
  · rw [hw, if_neg q0, if_neg q1, if_pos q2]
  · rw [hw, if_neg q0, if_pos q1]
  · rw [hw, if_pos q0]
theorem readsDeed_s {n k : Nat} (hn : n < 11) (hk : k < 100) {l : List Int32} (hl : l.length ≤ 39) (hB : tB l) {S : zS} {L : zL} (hT : mTb S 1 l) {P : Int32 → zS → zL → Prop}
    (h0 : pIx 3 (tBy l k) < 0 → P 0 S L) (h1 : ¬ pIx 3 (tBy l k) < 0 → pIx (3 + 1) (tBy l (k + 1)) < 0 → P 1 S L) (h2 : ¬ pIx 3 (tBy l k) < 0 → ¬ pIx (3 + 1) (tBy l (k + 1)) < 0 → pIx (3 + 2) (tBy l (k + 2)) < 0 → P 2 S L)
    (h3 : ¬ pIx 3 (tBy l k) < 0 → ¬ pIx (3 + 1) (tBy l (k + 1)) < 0 → ¬ pIx (3 + 2) (tBy l (k + 2)) < 0 → ∀ S', S' = zc (zc (zc S 78 (upd (S 78) n (pIx 3 (tBy l k)))) 79 (upd (S 79) n (pIx (3 + 1) (tBy l (k + 1))))) 80 (upd (S 80) n (pIx (3 + 2) (tBy l (k + 2)))) → P 3 S' L) : zCi mX11_readsDeed S L [.ref 72, .int (nI n), .int (nI k)] P := by
  have e2 : nI k + (2 : Int32) = nI (k + 2) := by rw [show (2 : Int32) = nI 2 by decide, nI_add]
  obtain ⟨a1, a2⟩ := ix_3 (tBy_ok hB k)
  obtain ⟨b1, b2⟩ := ix_4 (tBy_ok hB (k + 1))
  have tail : ∀ X w0 x1 x2, w0 = pIx 5 (tBy l (k + 2)) → x1 = tBy l k - 97 → x2 = tBy l (k + 1) - 48 → zU mX11_readsDeed X S L 78 [some (.ref 72), some (.int (nI n)), none, some (.int x1), some (.int x2), none, none] [.int w0] (zpi P) := by
    intro X w0 x1 x2 hw ex1 ex2
    have hw1 : w0 = -1 ↔ pIx 5 (tBy l (k + 2)) < 0 := by
      rw [hw, ix_what]
      (repeat' split) <;> decide
    refine b_X11_readsDeed_78 ⟨fun q1 => ⟨fun q2 => ⟨fun q => ?_, fun q => ?_⟩, fun q2 => ?_⟩, fun q1 => h0 ?_⟩
    · rw [ex1] at q1
      rw [ex2] at q2
      refine ⟨vp_in_nI hn (by omega), fun S3 e3 => ⟨vp_in_nI hn (by omega), fun S4 e4 => ⟨vp_in_nI hn (by omega), fun S5 e5 => ?_⟩⟩⟩
      refine h3 (a1.mp q1) (b1.mp q2) (fun z => q (hw1.mpr z)) S5 ?_
      rw [cl_nI (by omega)] at e3 e4 e5
      rw [e5, e4, e3, ex1, ex2, a2 (a1.mp q1), b2 (b1.mp q2), hw]
      rw [zc_ne _ _ (show (79 : Nat) ≠ 78 by decide), zc_ne _ _ (show (80 : Nat) ≠ 79 by decide), zc_ne _ _ (show (80 : Nat) ≠ 78 by decide)]
    · rw [ex1] at q1
      rw [ex2] at q2
      exact h2 (a1.mp q1) (b1.mp q2) (hw1.mp q)
    · rw [ex1] at q1
      rw [ex2] at q2
      refine h1 (a1.mp q1) ?_
      rcases Decidable.em (pIx 4 (tBy l (k + 1)) < 0) with z | z
      · exact z
      · exact absurd (b1.mpr z) q2
    · rw [ex1] at q1
      rcases Decidable.em (pIx 3 (tBy l k) < 0) with z | z
      · exact z
      · exact absurd (a1.mpr z) q1
  refine e_X11_readsDeed (fun X => b_X11_readsDeed_0 (byteAt_s (t := 1) (by omega) (by omega) hl hT (fun x1 ex1 => ?_)))
  rw [nI_1, e2]
  refine byteAt_s (t := 1) (by omega) (by omega) hl hT (fun x2 ex2 => byteAt_s (t := 1) (by omega) (by omega) hl hT ?_)
  have hw := ix_what (tBy l (k + 2))
  refine ⟨fun q0 => ⟨fun q1 => ⟨fun q2 => ⟨fun q3 => tail X _ _ _ ?_ ex1 ex2, fun q3 => tail X _ _ _ ?_ ex1 ex2⟩, fun q2 => tail X _ _ _ ?_ ex1 ex2⟩, fun q1 => tail X _ _ _ ?_ ex1 ex2⟩, fun q0 => tail X _ _ _ ?_ ex1 ex2⟩
  · rw [hw, if_neg q0, if_neg q1, if_neg q2, if_neg q3]
  · rw [hw, if_neg q0, if_neg q1, if_neg q2, if_pos q3]
  · rw [hw, if_neg q0, if_neg q1, if_pos q2]
  · rw [hw, if_neg q0, if_pos q1]
  · rw [hw, if_pos q0]
/-! steps of the first fault -/
section TF
variable {x i : Nat} {rest : List Int32}
theorem tM0 {b : Int32} (h : i % 4 = 0) : tM x i b = pIx x b := by unfold tM tTb; rw [if_pos h]
theorem tM1 {b : Int32} (h : i % 4 = 1) : tM x i b = pIx (x + 1) b := by unfold tM tTb; rw [if_neg (by omega), if_pos h]
theorem tM2 {b : Int32} (h : i % 4 = 2) : tM x i b = pIx (x + 2) b := by unfold tM tTb; rw [if_neg (by omega), if_neg (by omega), if_pos h]
theorem tM3 {b : Int32} (h : i % 4 = 3) : tM x i b = pIx 6 b := by unfold tM tTb; rw [if_neg (by omega), if_neg (by omega), if_neg (by omega)]
theorem tFs_a (hi : i % 4 = 0) (h0 : 0 < i ∨ 0 < rest.length) (h : pIx x (rest.getD 0 (-1)) < 0) : tFs x i rest = nI i := by
  cases rest with
  | nil =>
    have : ¬ (i = 0 ∨ i % 4 = 3) := by simp at h0; omega
    rw [tFs, tE, if_neg this]
  | cons a r => rw [tFs, tM0 hi, if_pos (by simpa using h)]
theorem tFs_b (hx : x < 4) (hi : i % 4 = 0) (h1 : ¬ pIx x (rest.getD 0 (-1)) < 0) (h : pIx (x + 1) (rest.getD 1 (-1)) < 0) : tFs x i rest = nI (i + 1) := by
  cases rest with
  | nil => exact absurd (ix_m1 (by omega)) h1
  | cons a r =>
    rw [tFs, tM0 hi, if_neg (by simpa using h1)]
    cases r with
    | nil => rw [tFs, tE, if_neg (by omega)]
    | cons b r => rw [tFs, tM1 (by omega), if_pos (by simpa using h)]
theorem tFs_c (hx : x < 4) (hi : i % 4 = 0) (h1 : ¬ pIx x (rest.getD 0 (-1)) < 0) (h2 : ¬ pIx (x + 1) (rest.getD 1 (-1)) < 0) (h : pIx (x + 2) (rest.getD 2 (-1)) < 0) : tFs x i rest = nI (i + 2) := by
  cases rest with
  | nil => exact absurd (ix_m1 (by omega)) h1
  | cons a r =>
    rw [tFs, tM0 hi, if_neg (by simpa using h1)]
    cases r with
    | nil => exact absurd (ix_m1 (by omega)) h2
    | cons b r =>
      rw [tFs, tM1 (by omega), if_neg (by simpa using h2)]
      cases r with
      | nil => rw [tFs, tE, if_neg (by omega)]
      | cons c r => rw [tFs, tM2 (by omega), if_pos (by simpa using h)]
theorem tFs_d (hx : x < 4) (hi : i % 4 = 0) (h1 : ¬ pIx x (rest.getD 0 (-1)) < 0) (h2 : ¬ pIx (x + 1) (rest.getD 1 (-1)) < 0) (h3 : ¬ pIx (x + 2) (rest.getD 2 (-1)) < 0) : ∃ r, rest = rest.getD 0 (-1) :: rest.getD 1 (-1) :: rest.getD 2 (-1) :: r ∧ (r = [] → tFs x i rest = -1) ∧ (∀ d r', r = d :: r' → (d = 59 → tFs x i rest = tFs x (i + 4) r') ∧ (¬ d = 59 → tFs x i rest = nI (i + 3))) := by
  cases rest with
  | nil => exact absurd (ix_m1 (by omega)) h1
  | cons a r =>
    cases r with
    | nil => exact absurd (ix_m1 (by omega)) h2
    | cons b r =>
      cases r with
      | nil => exact absurd (ix_m1 (by omega)) h3
      | cons c r =>
        refine ⟨r, rfl, fun hr => ?_, fun d r' hr => ?_⟩
        · subst hr
          rw [tFs, tM0 hi, if_neg (by simpa using h1), tFs, tM1 (by omega), if_neg (by simpa using h2), tFs, tM2 (by omega), if_neg (by simpa using h3), tFs, tE, if_pos (by omega)]
        · subst hr
          rw [tFs, tM0 hi, if_neg (by simpa using h1), tFs, tM1 (by omega), if_neg (by simpa using h2), tFs, tM2 (by omega), if_neg (by simpa using h3), tFs, tM3 (by omega), ix_semi]
          refine ⟨fun z => ?_, fun z => ?_⟩
          · rw [if_pos z, if_neg (by decide)]
          · rw [if_neg z, if_pos (by decide)]
end TF
theorem getD_drop {l : List Int32} {i j : Nat} : (l.drop i).getD j (-1) = tBy l (i + j) := by
  unfold tBy
  rw [List.getD_eq_getElem?_getD, List.getD_eq_getElem?_getD, List.getElem?_drop]
/-- what reading leaves -/
def mPr (S S' : zS) : Prop := (∀ j, j ≠ 72 → (j < 75 ∨ 80 < j) → S' j = S j) ∧ ∀ i, i ≠ 2 → i ≠ 6 → S' 72 i = S 72 i
theorem mPr.trans {S S' S'' : zS} (h1 : mPr S S') (h2 : mPr S' S'') : mPr S S'' := ⟨fun j a b => (h2.1 j a b).trans (h1.1 j a b), fun i a b => (h2.2 i a b).trans (h1.2 i a b)⟩
theorem zRl_snoc {S S' : zS} {a b c : Nat} {acc : List T3} {e : T3} (h : zRl S a b c acc) (ha : S' a = upd (S a) acc.length e.1) (hb : S' b = upd (S b) acc.length e.2.1) (hc : S' c = upd (S c) acc.length e.2.2) : zRl S' a b c (acc ++ [e]) := by
  intro i e' he
  rw [ha, hb, hc]
  by_cases hi : i < acc.length
  · rw [List.getElem?_append_left hi] at he
    simp only [upd, if_neg (Nat.ne_of_lt hi)]
    exact h i e' he
  · rw [List.getElem?_append_right (by omega)] at he
    have hz : i - acc.length < 1 := (List.getElem?_eq_some_iff.mp he).1
    have : i = acc.length := by omega
    subst this
    simp at he
    subst he
    simp [upd]

/-- what reading text 0 leaves -/
def mPr0 (S S' : zS) : Prop := (∀ j, j ≠ 72 → j ≠ 75 → j ≠ 76 → j ≠ 77 → S' j = S j) ∧ ∀ i, i ≠ 2 → S' 72 i = S 72 i
theorem mPr0.trans {S S' S'' : zS} (h1 : mPr0 S S') (h2 : mPr0 S' S'') : mPr0 S S'' := ⟨fun j a b c d => (h2.1 j a b c d).trans (h1.1 j a b c d), fun i a => (h2.2 i a).trans (h1.2 i a)⟩
theorem mPr0.to {S S' : zS} (h : mPr0 S S') : mPr S S' := ⟨fun j a b => h.1 j a (by omega) (by omega) (by omega), fun i a b => h.2 i (by omega)⟩
section RP0
variable {l : List Int32} {L : zL} {X : Nat × (Nat → Int32)} {P : Int32 → zS → zL → Prop}
theorem parts0_l (hc : l.length ≤ 31) (hB : tB l) : ∀ (m : Nat) (rest : List Int32) (acc : List T3) (S : zS), rest.length ≤ m → l.drop (4 * acc.length) = rest → 4 * acc.length ≤ l.length → mTb S 0 l → zRl S 75 76 77 acc → S 72 2 = 0 → (∀ y S', y = tFs 0 (4 * acc.length) rest → (y = -1 → S' 72 2 = nI (acc ++ tLs 0 rest).length ∧ zRl S' 75 76 77 (acc ++ tLs 0 rest)) → (¬ y = -1 → S' 72 2 = 0) → mPr0 S S' → P y S' L) → zU mX11_readsParts X S L 50 [some (.ref 72), some (.int (0 : Int32)), some (.int (8 : Int32)), some (.int (nI acc.length)), some (.int (nI (4 * acc.length))), none] [] (zpi P) := by
  intro m
  induction m with
  | zero =>
    intro rest acc S hm hd hi hT hR hf h
    have hr : rest = [] := List.length_eq_zero_iff.mp (by omega)
    subst hr
    have hl : l.length = 4 * acc.length := by have := List.drop_eq_nil_iff.mp hd; omega
    refine b_X11_readsParts_50 ⟨vp_in_nI (n := 0) (by omega) (by omega), fun q => absurd q ?_, fun _ => ⟨fun q => ?_, fun q => ?_⟩⟩
    · rw [show (0 : Int32).toNatClampNeg = 0 from rfl, hT.1]; exact nI_nlt (by omega) (by omega)
    · have hz : acc.length = 0 := by
        have : 4 * acc.length ≤ 0 := (nI_leI (b := 0) (by omega) (by omega)).mp q
        omega
      have hacc : acc = [] := List.length_eq_zero_iff.mp hz
      subst hacc
      exact h (-1) S rfl (fun _ => ⟨hf, hR⟩) (fun z => absurd rfl z) ⟨fun _ _ _ _ _ => rfl, fun _ _ => rfl⟩
    · have hp : 0 < 4 * acc.length := by
        rcases Nat.eq_zero_or_pos (4 * acc.length) with z | z
        · rw [z] at q; exact absurd (by decide) q
        · exact z
      refine b_X11_readsParts_66 ⟨fun _ => ?_, fun z => absurd ((nI_eq (b := 8) (by omega) (by omega)).mp z) (by omega)⟩
      have g0 : tBy l (4 * acc.length) = -1 := by rw [← Nat.add_zero (4 * acc.length), ← getD_drop, hd]; rfl
      refine ⟨fun z0 => absurd rfl z0, fun _ => ?_⟩
      refine (readsPerson_s (by omega) (by omega) (by omega) hB hT (fun z => ?_) (fun z => absurd (by rw [g0]; exact ix_m1 (by omega)) z) (fun z => absurd (by rw [g0]; exact ix_m1 (by omega)) z) (fun z => absurd (by rw [g0]; exact ix_m1 (by omega)) z))
      refine b_X11_readsParts_96 ⟨fun z => absurd z (by decide), fun _ => ?_⟩
      rw [Int32.add_zero]
      refine h _ S (tFs_a (by omega) (by omega) (by exact ix_m1 (by omega))).symm (fun z => ?_) (fun _ => hf) ⟨fun _ _ _ _ _ => rfl, fun _ _ => rfl⟩
      exact absurd (by rw [z]; decide) (nI_pos (n := 4 * acc.length) (by omega))
  | succ m ih =>
    intro rest acc S hm hd hi hT hR hf h
    have hlen : rest.length = l.length - 4 * acc.length := by rw [← hd, List.length_drop]
    have rf : mPr0 S S := ⟨fun _ _ _ _ _ => rfl, fun _ _ => rfl⟩
    have neg : ∀ j, j < 100 → ¬ nI j = -1 := fun j hj z => absurd (by rw [z]; decide) (nI_pos (n := j) (by omega))
    have g0 : rest.getD 0 (-1) = tBy l (4 * acc.length) := by rw [← hd, getD_drop, Nat.add_zero]
    have g1 : rest.getD 1 (-1) = tBy l (4 * acc.length + 1) := by rw [← hd, getD_drop]
    have g2 : rest.getD 2 (-1) = tBy l (4 * acc.length + 2) := by rw [← hd, getD_drop]
    have body : 0 < 4 * acc.length ∨ 0 < rest.length → zU mX11_readsParts X S L 66 [some (.ref 72), some (.int (0 : Int32)), some (.int (8 : Int32)), some (.int (nI acc.length)), some (.int (nI (4 * acc.length))), none] [] (zpi P) := by
      intro hp
      refine b_X11_readsParts_66 ⟨fun _ => ?_, fun z => absurd ((nI_eq (b := 8) (by omega) (by omega)).mp z) (by omega)⟩
      have ts : ∀ w0, ¬ (3 : Int32) ≤ w0 → ∀ y, nI (4 * acc.length) + w0 = nI y → y < 100 → tFs 0 (4 * acc.length) rest = nI y → zU mX11_readsParts X S L 96 [some (.ref 72), some (.int (0 : Int32)), some (.int (8 : Int32)), some (.int (nI acc.length)), some (.int (nI (4 * acc.length))), none] [.int w0] (zpi P) := by
        intro w0 hw y hy hy2 ht
        refine b_X11_readsParts_96 ⟨fun z => absurd z hw, fun _ => ?_⟩
        rw [hy]
        exact h _ S ht.symm (fun z => absurd z (neg y hy2)) (fun _ => hf) rf
      refine ⟨fun z0 => absurd rfl z0, fun _ => ?_⟩
      refine (readsPerson_s (by omega) (by omega) (by omega) hB hT (fun z => ?_) (fun z1 z => ?_) (fun z1 z2 z => ?_) (fun z1 z2 z3 S1 e1 => ?_))
      · exact ts 0 (by decide) (4 * acc.length) (Int32.add_zero _) (by omega) (tFs_a (by omega) hp (by rw [g0]; exact z))
      · exact ts 1 (by decide) (4 * acc.length + 1) (nI_1 _) (by omega) (tFs_b (by omega) (by omega) (by rw [g0]; exact z1) (by rw [g1]; exact z))
      · exact ts 2 (by decide) (4 * acc.length + 2) (by rw [show (2 : Int32) = nI 2 by decide, nI_add]) (by omega) (tFs_c (by omega) (by omega) (by rw [g0]; exact z1) (by rw [g1]; exact z2) (by rw [g2]; exact z))
      · obtain ⟨r, hr, k1, k2⟩ := tFs_d (x := 0) (i := 4 * acc.length) (rest := rest) (by omega) (by omega) (by rw [g0]; exact z1) (by rw [g1]; exact z2) (by rw [g2]; exact z3)
        rw [g0, g1, g2] at hr
        have hT1 : mTb S1 0 l := hT.keep (by rw [e1, zc_ne _ _ (by omega), zc_ne _ _ (by omega), zc_ne _ _ (by omega)]) (by rw [e1, zc_ne _ _ (by omega), zc_ne _ _ (by omega), zc_ne _ _ (by omega)])
        have hF1 : mPr0 S S1 := ⟨fun j h1 h2 h3 h4 => by rw [e1, zc_ne _ _ h4, zc_ne _ _ h3, zc_ne _ _ h2], fun i _ => by rw [e1, zc_ne _ _ (by omega), zc_ne _ _ (by omega), zc_ne _ _ (by omega)]⟩
        have hf1 : S1 72 2 = 0 := by rw [e1, zc_ne _ _ (by omega), zc_ne _ _ (by omega), zc_ne _ _ (by omega), hf]
        have hR1 : zRl S1 75 76 77 (acc ++ [(pIx 0 (tBy l (4 * acc.length)), pIx (0 + 1) (tBy l (4 * acc.length + 1)), pIx (0 + 2) (tBy l (4 * acc.length + 2)))]) := by
          refine zRl_snoc hR ?_ ?_ ?_
          · rw [e1, zc_ne _ _ (by omega), zc_ne _ _ (by omega), zc_eq]
          · rw [e1, zc_ne _ _ (by omega), zc_eq]
          · rw [e1, zc_eq]
        have hrl : rest.length = r.length + 3 := by rw [hr]; simp
        generalize hee : (pIx 0 (tBy l (4 * acc.length)), pIx (0 + 1) (tBy l (4 * acc.length + 1)), pIx (0 + 2) (tBy l (4 * acc.length + 2))) = ee at hR1
        have hts : acc ++ tLs 0 rest = (acc ++ [ee]) ++ tLs 0 (r.drop 1) := by rw [hr, tLs_cons, hee, List.append_cons]
        refine b_X11_readsParts_96 ⟨fun _ x1 ex1 x2 ex2 => ⟨vp_in_nI (n := 0) (by omega) (by omega), fun z => ?_, fun z => ?_⟩, fun z => absurd (by decide) z⟩
        · have ex2' : x2 = nI (4 * acc.length + 3) := by rw [ex2, show (3 : Int32) = nI 3 by decide, nI_add]
          rw [show (0 : Int32).toNatClampNeg = 0 from rfl, hT1.1, ex2'] at z
          have hne : 4 * acc.length + 3 ≠ l.length := fun y => z (by rw [y])
          obtain ⟨d, r', rfl⟩ : ∃ d r', r = d :: r' := by
            cases r with
            | nil => simp at hrl; omega
            | cons d r' => exact ⟨d, r', rfl⟩
          have gd : tBy l (4 * acc.length + 3) = d := by rw [← getD_drop, hd, hr]; rfl
          rw [ex2']
          refine byteAt_s (t := 0) (by omega) (by omega) (by omega) hT1 ?_
          rw [gd]
          obtain ⟨k3, k4⟩ := k2 d r' rfl
          refine ⟨fun z4 x3 ex3 => ?_, fun z4 => ?_⟩
          · have hl2 : (acc ++ [ee]).length = acc.length + 1 := by simp
            rw [ex3, nI_1, ex1, nI_1, show 4 * acc.length + 3 + 1 = 4 * (acc ++ [ee]).length by rw [hl2]; omega, ← hl2]
            simp at hrl
            refine ih r' (acc ++ [ee]) S1 (by omega) ?_ (by rw [hl2]; omega) hT1 hR1 hf1 (fun y S' hy hy1 hy2 hF => h y S' ?_ ?_ hy2 (hF1.trans hF))
            · rw [hl2, show 4 * (acc.length + 1) = 4 * acc.length + 4 by omega, ← List.drop_drop, hd, hr]; rfl
            · rw [hy, k3 z4, hl2]; rfl
            · rw [hts]; exact hy1
          · exact h _ S1 (k4 z4).symm (fun y => absurd y (neg _ (by omega))) (fun _ => hf1) hF1
        · have ex2' : x2 = nI (4 * acc.length + 3) := by rw [ex2, show (3 : Int32) = nI 3 by decide, nI_add]
          rw [show (0 : Int32).toNatClampNeg = 0 from rfl, hT1.1, ex2'] at z
          have heq : 4 * acc.length + 3 = l.length := (nI_eq (by omega) (by omega)).mp z
          have hr0 : r = [] := List.length_eq_zero_iff.mp (by omega)
          rw [hr0] at hts
          have hts : acc ++ tLs 0 rest = acc ++ [ee] := by rw [hts]; simp [tLs]
          have hl2 : (acc ++ [ee]).length = acc.length + 1 := by simp
          refine ⟨fun z0 => absurd rfl z0, fun _ => ?_⟩
          refine b_X11_readsParts_140 (fun S2 e2 => ⟨fun _ S3 e3 => ?_, fun z1 => absurd z1 (by decide)⟩)
          rw [upd_same rfl, zc_self] at e3
          rw [e3]
          refine h _ S2 (k1 hr0).symm (fun _ => ⟨?_, ?_⟩) (fun y => absurd rfl y) (hF1.trans ⟨fun j y _ _ _ => by rw [e2, zc_ne _ _ y], fun i hi => by rw [e2, zc_eq, upd, if_neg hi]⟩)
          · rw [hts, hl2, e2, zc_eq, upd, if_pos rfl, ex1, nI_1]
          · rw [hts]; exact hR1.keep (by rw [e2, zc_ne _ _ (by omega)]) (by rw [e2, zc_ne _ _ (by omega)]) (by rw [e2, zc_ne _ _ (by omega)])
    refine b_X11_readsParts_50 ⟨vp_in_nI (n := 0) (by omega) (by omega), fun q => body ?_, fun q => ⟨fun q2 => ?_, fun q2 => body ?_⟩⟩
    · rw [show (0 : Int32).toNatClampNeg = 0 from rfl, hT.1] at q
      have := (nI_ltI (by omega) (by omega)).mp q
      exact Or.inr (by omega)
    · have hz : acc.length = 0 := by
        have : 4 * acc.length ≤ 0 := (nI_leI (b := 0) (by omega) (by omega)).mp q2
        omega
      rw [show (0 : Int32).toNatClampNeg = 0 from rfl, hT.1] at q
      have hl : l.length ≤ 4 * acc.length := by
        rcases Nat.lt_or_ge (4 * acc.length) l.length with z | z
        · exact absurd (nI_lt z (by omega)) q
        · exact z
      have hr : rest = [] := List.length_eq_zero_iff.mp (by omega)
      have hacc : acc = [] := List.length_eq_zero_iff.mp hz
      subst hacc
      subst hr
      exact h (-1) S rfl (fun _ => ⟨hf, hR⟩) (fun z => absurd rfl z) rf
    · have hp : 0 < 4 * acc.length := by
        rcases Nat.eq_zero_or_pos (4 * acc.length) with z | z
        · rw [z] at q2; exact absurd (by decide) q2
        · exact z
      exact Or.inl hp
theorem parts0_s (hc : l.length ≤ 31) (hB : tB l) {S : zS} (hT : mTb S 0 l) (h : ∀ S', S' 72 2 = nI (tL 0 l).length → zRl S' 75 76 77 (tL 0 l) → mPr0 S S' → P (tFs 0 0 l) S' L) : zCi mX11_readsParts S L [.ref 72, .int (0 : Int32)] P := by
  have fin : ∀ X S1, S1 72 = upd (S 72) 2 0 → (∀ j, j ≠ 72 → S1 j = S j) → zU mX11_readsParts X S1 L 50 [some (.ref 72), some (.int (0 : Int32)), some (.int (8 : Int32)), some (.int (0 : Int32)), some (.int (0 : Int32)), none] [] (zpi P) := by
    intro X S1 h72 ho
    have hF : mPr0 S S1 := ⟨fun j a _ _ _ => ho j a, fun i hi => by rw [h72, upd, if_neg hi]⟩
    refine parts0_l hc hB l.length l [] S1 (Nat.le_refl _) rfl (Nat.zero_le _) (hT.keep (ho _ (by omega)) (ho _ (by omega))) (fun i e he => by simp at he) (by rw [h72, upd, if_pos rfl]) (fun y S' hy h1 h2 hF' => ?_)
    have hy : y = tFs 0 0 l := hy
    rw [hy]
    rw [hy] at h1 h2
    refine h S' ?_ ?_ (hF.trans hF')
    · by_cases z : tFs 0 0 l = -1
      · rw [tL, if_pos z]; exact (h1 z).1
      · rw [tL, if_neg z]; exact h2 z
    · by_cases z : tFs 0 0 l = -1
      · rw [tL, if_pos z]; exact (h1 z).2
      · rw [tL, if_neg z]; intro i e he; simp at he
  refine e_X11_readsParts (fun X => b_X11_readsParts_0 ?_)
  refine ⟨fun z => absurd rfl z, fun _ => b_X11_readsParts_11 ⟨fun z => absurd rfl z, fun _ => b_X11_readsParts_30 (fun S1 e1 => ⟨fun _ S2 e2 => ?_, fun z => absurd z (by decide)⟩)⟩⟩
  rw [upd_same rfl, zc_self] at e2
  rw [e2]
  exact fin X S1 (by rw [e1, zc_eq]) (fun j hj => by rw [e1, zc_ne _ _ hj])
end RP0

/-- what reading text 1 leaves -/
def mPr1 (S S' : zS) : Prop := (∀ j, j ≠ 72 → j ≠ 78 → j ≠ 79 → j ≠ 80 → S' j = S j) ∧ ∀ i, i ≠ 6 → S' 72 i = S 72 i
theorem mPr1.trans {S S' S'' : zS} (h1 : mPr1 S S') (h2 : mPr1 S' S'') : mPr1 S S'' := ⟨fun j a b c d => (h2.1 j a b c d).trans (h1.1 j a b c d), fun i a => (h2.2 i a).trans (h1.2 i a)⟩
theorem mPr1.to {S S' : zS} (h : mPr1 S S') : mPr S S' := ⟨fun j a b => h.1 j a (by omega) (by omega) (by omega), fun i a b => h.2 i (by omega)⟩
section RP1
variable {l : List Int32} {L : zL} {X : Nat × (Nat → Int32)} {P : Int32 → zS → zL → Prop}
theorem parts1_l (hc : l.length ≤ 39) (hB : tB l) : ∀ (m : Nat) (rest : List Int32) (acc : List T3) (S : zS), rest.length ≤ m → l.drop (4 * acc.length) = rest → 4 * acc.length ≤ l.length → mTb S 1 l → zRl S 78 79 80 acc → S 72 6 = 0 → (∀ y S', y = tFs 3 (4 * acc.length) rest → (y = -1 → S' 72 6 = nI (acc ++ tLs 3 rest).length ∧ zRl S' 78 79 80 (acc ++ tLs 3 rest)) → (¬ y = -1 → S' 72 6 = 0) → mPr1 S S' → P y S' L) → zU mX11_readsParts X S L 50 [some (.ref 72), some (.int (1 : Int32)), some (.int (10 : Int32)), some (.int (nI acc.length)), some (.int (nI (4 * acc.length))), none] [] (zpi P) := by
  intro m
  induction m with
  | zero =>
    intro rest acc S hm hd hi hT hR hf h
    have hr : rest = [] := List.length_eq_zero_iff.mp (by omega)
    subst hr
    have hl : l.length = 4 * acc.length := by have := List.drop_eq_nil_iff.mp hd; omega
    refine b_X11_readsParts_50 ⟨vp_in_nI (n := 1) (by omega) (by omega), fun q => absurd q ?_, fun _ => ⟨fun q => ?_, fun q => ?_⟩⟩
    · rw [show (1 : Int32).toNatClampNeg = 1 from rfl, hT.1]; exact nI_nlt (by omega) (by omega)
    · have hz : acc.length = 0 := by
        have : 4 * acc.length ≤ 0 := (nI_leI (b := 0) (by omega) (by omega)).mp q
        omega
      have hacc : acc = [] := List.length_eq_zero_iff.mp hz
      subst hacc
      exact h (-1) S rfl (fun _ => ⟨hf, hR⟩) (fun z => absurd rfl z) ⟨fun _ _ _ _ _ => rfl, fun _ _ => rfl⟩
    · have hp : 0 < 4 * acc.length := by
        rcases Nat.eq_zero_or_pos (4 * acc.length) with z | z
        · rw [z] at q; exact absurd (by decide) q
        · exact z
      refine b_X11_readsParts_66 ⟨fun _ => ?_, fun z => absurd ((nI_eq (b := 10) (by omega) (by omega)).mp z) (by omega)⟩
      have g0 : tBy l (4 * acc.length) = -1 := by rw [← Nat.add_zero (4 * acc.length), ← getD_drop, hd]; rfl
      refine ⟨fun _ => ?_, fun z0 => absurd z0 (by decide)⟩
      refine (readsDeed_s (by omega) (by omega) (by omega) hB hT (fun z => ?_) (fun z => absurd (by rw [g0]; exact ix_m1 (by omega)) z) (fun z => absurd (by rw [g0]; exact ix_m1 (by omega)) z) (fun z => absurd (by rw [g0]; exact ix_m1 (by omega)) z))
      refine b_X11_readsParts_96 ⟨fun z => absurd z (by decide), fun _ => ?_⟩
      rw [Int32.add_zero]
      refine h _ S (tFs_a (by omega) (by omega) (by exact ix_m1 (by omega))).symm (fun z => ?_) (fun _ => hf) ⟨fun _ _ _ _ _ => rfl, fun _ _ => rfl⟩
      exact absurd (by rw [z]; decide) (nI_pos (n := 4 * acc.length) (by omega))
  | succ m ih =>
    intro rest acc S hm hd hi hT hR hf h
    have hlen : rest.length = l.length - 4 * acc.length := by rw [← hd, List.length_drop]
    have rf : mPr1 S S := ⟨fun _ _ _ _ _ => rfl, fun _ _ => rfl⟩
    have neg : ∀ j, j < 100 → ¬ nI j = -1 := fun j hj z => absurd (by rw [z]; decide) (nI_pos (n := j) (by omega))
    have g0 : rest.getD 0 (-1) = tBy l (4 * acc.length) := by rw [← hd, getD_drop, Nat.add_zero]
    have g1 : rest.getD 1 (-1) = tBy l (4 * acc.length + 1) := by rw [← hd, getD_drop]
    have g2 : rest.getD 2 (-1) = tBy l (4 * acc.length + 2) := by rw [← hd, getD_drop]
    have body : 0 < 4 * acc.length ∨ 0 < rest.length → zU mX11_readsParts X S L 66 [some (.ref 72), some (.int (1 : Int32)), some (.int (10 : Int32)), some (.int (nI acc.length)), some (.int (nI (4 * acc.length))), none] [] (zpi P) := by
      intro hp
      refine b_X11_readsParts_66 ⟨fun _ => ?_, fun z => absurd ((nI_eq (b := 10) (by omega) (by omega)).mp z) (by omega)⟩
      have ts : ∀ w0, ¬ (3 : Int32) ≤ w0 → ∀ y, nI (4 * acc.length) + w0 = nI y → y < 100 → tFs 3 (4 * acc.length) rest = nI y → zU mX11_readsParts X S L 96 [some (.ref 72), some (.int (1 : Int32)), some (.int (10 : Int32)), some (.int (nI acc.length)), some (.int (nI (4 * acc.length))), none] [.int w0] (zpi P) := by
        intro w0 hw y hy hy2 ht
        refine b_X11_readsParts_96 ⟨fun z => absurd z hw, fun _ => ?_⟩
        rw [hy]
        exact h _ S ht.symm (fun z => absurd z (neg y hy2)) (fun _ => hf) rf
      refine ⟨fun _ => ?_, fun z0 => absurd z0 (by decide)⟩
      refine (readsDeed_s (by omega) (by omega) (by omega) hB hT (fun z => ?_) (fun z1 z => ?_) (fun z1 z2 z => ?_) (fun z1 z2 z3 S1 e1 => ?_))
      · exact ts 0 (by decide) (4 * acc.length) (Int32.add_zero _) (by omega) (tFs_a (by omega) hp (by rw [g0]; exact z))
      · exact ts 1 (by decide) (4 * acc.length + 1) (nI_1 _) (by omega) (tFs_b (by omega) (by omega) (by rw [g0]; exact z1) (by rw [g1]; exact z))
      · exact ts 2 (by decide) (4 * acc.length + 2) (by rw [show (2 : Int32) = nI 2 by decide, nI_add]) (by omega) (tFs_c (by omega) (by omega) (by rw [g0]; exact z1) (by rw [g1]; exact z2) (by rw [g2]; exact z))
      · obtain ⟨r, hr, k1, k2⟩ := tFs_d (x := 3) (i := 4 * acc.length) (rest := rest) (by omega) (by omega) (by rw [g0]; exact z1) (by rw [g1]; exact z2) (by rw [g2]; exact z3)
        rw [g0, g1, g2] at hr
        have hT1 : mTb S1 1 l := hT.keep (by rw [e1, zc_ne _ _ (by omega), zc_ne _ _ (by omega), zc_ne _ _ (by omega)]) (by rw [e1, zc_ne _ _ (by omega), zc_ne _ _ (by omega), zc_ne _ _ (by omega)])
        have hF1 : mPr1 S S1 := ⟨fun j h1 h2 h3 h4 => by rw [e1, zc_ne _ _ h4, zc_ne _ _ h3, zc_ne _ _ h2], fun i _ => by rw [e1, zc_ne _ _ (by omega), zc_ne _ _ (by omega), zc_ne _ _ (by omega)]⟩
        have hf1 : S1 72 6 = 0 := by rw [e1, zc_ne _ _ (by omega), zc_ne _ _ (by omega), zc_ne _ _ (by omega), hf]
        have hR1 : zRl S1 78 79 80 (acc ++ [(pIx 3 (tBy l (4 * acc.length)), pIx (3 + 1) (tBy l (4 * acc.length + 1)), pIx (3 + 2) (tBy l (4 * acc.length + 2)))]) := by
          refine zRl_snoc hR ?_ ?_ ?_
          · rw [e1, zc_ne _ _ (by omega), zc_ne _ _ (by omega), zc_eq]
          · rw [e1, zc_ne _ _ (by omega), zc_eq]
          · rw [e1, zc_eq]
        have hrl : rest.length = r.length + 3 := by rw [hr]; simp
        generalize hee : (pIx 3 (tBy l (4 * acc.length)), pIx (3 + 1) (tBy l (4 * acc.length + 1)), pIx (3 + 2) (tBy l (4 * acc.length + 2))) = ee at hR1
        have hts : acc ++ tLs 3 rest = (acc ++ [ee]) ++ tLs 3 (r.drop 1) := by rw [hr, tLs_cons, hee, List.append_cons]
        refine b_X11_readsParts_96 ⟨fun _ x1 ex1 x2 ex2 => ⟨vp_in_nI (n := 1) (by omega) (by omega), fun z => ?_, fun z => ?_⟩, fun z => absurd (by decide) z⟩
        · have ex2' : x2 = nI (4 * acc.length + 3) := by rw [ex2, show (3 : Int32) = nI 3 by decide, nI_add]
          rw [show (1 : Int32).toNatClampNeg = 1 from rfl, hT1.1, ex2'] at z
          have hne : 4 * acc.length + 3 ≠ l.length := fun y => z (by rw [y])
          obtain ⟨d, r', rfl⟩ : ∃ d r', r = d :: r' := by
            cases r with
            | nil => simp at hrl; omega
            | cons d r' => exact ⟨d, r', rfl⟩
          have gd : tBy l (4 * acc.length + 3) = d := by rw [← getD_drop, hd, hr]; rfl
          rw [ex2']
          refine byteAt_s (t := 1) (by omega) (by omega) (by omega) hT1 ?_
          rw [gd]
          obtain ⟨k3, k4⟩ := k2 d r' rfl
          refine ⟨fun z4 x3 ex3 => ?_, fun z4 => ?_⟩
          · have hl2 : (acc ++ [ee]).length = acc.length + 1 := by simp
            rw [ex3, nI_1, ex1, nI_1, show 4 * acc.length + 3 + 1 = 4 * (acc ++ [ee]).length by rw [hl2]; omega, ← hl2]
            simp at hrl
            refine ih r' (acc ++ [ee]) S1 (by omega) ?_ (by rw [hl2]; omega) hT1 hR1 hf1 (fun y S' hy hy1 hy2 hF => h y S' ?_ ?_ hy2 (hF1.trans hF))
            · rw [hl2, show 4 * (acc.length + 1) = 4 * acc.length + 4 by omega, ← List.drop_drop, hd, hr]; rfl
            · rw [hy, k3 z4, hl2]; rfl
            · rw [hts]; exact hy1
          · exact h _ S1 (k4 z4).symm (fun y => absurd y (neg _ (by omega))) (fun _ => hf1) hF1
        · have ex2' : x2 = nI (4 * acc.length + 3) := by rw [ex2, show (3 : Int32) = nI 3 by decide, nI_add]
          rw [show (1 : Int32).toNatClampNeg = 1 from rfl, hT1.1, ex2'] at z
          have heq : 4 * acc.length + 3 = l.length := (nI_eq (by omega) (by omega)).mp z
          have hr0 : r = [] := List.length_eq_zero_iff.mp (by omega)
          rw [hr0] at hts
          have hts : acc ++ tLs 3 rest = acc ++ [ee] := by rw [hts]; simp [tLs]
          have hl2 : (acc ++ [ee]).length = acc.length + 1 := by simp
          refine ⟨fun _ => ?_, fun z0 => absurd z0 (by decide)⟩
          refine b_X11_readsParts_140 (fun S2 e2 => ⟨fun z1 => absurd rfl z1, fun _ S3 e3 => ?_⟩)
          rw [upd_same rfl, zc_self] at e2
          subst e2
          refine h _ S3 (k1 hr0).symm (fun _ => ⟨?_, ?_⟩) (fun y => absurd rfl y) (hF1.trans ⟨fun j y _ _ _ => by rw [e3, zc_ne _ _ y], fun i hi => by rw [e3, zc_eq, upd, if_neg hi]⟩)
          · rw [hts, hl2, e3, zc_eq, upd, if_pos rfl, ex1, nI_1]
          · rw [hts]; exact hR1.keep (by rw [e3, zc_ne _ _ (by omega)]) (by rw [e3, zc_ne _ _ (by omega)]) (by rw [e3, zc_ne _ _ (by omega)])
    refine b_X11_readsParts_50 ⟨vp_in_nI (n := 1) (by omega) (by omega), fun q => body ?_, fun q => ⟨fun q2 => ?_, fun q2 => body ?_⟩⟩
    · rw [show (1 : Int32).toNatClampNeg = 1 from rfl, hT.1] at q
      have := (nI_ltI (by omega) (by omega)).mp q
      exact Or.inr (by omega)
    · have hz : acc.length = 0 := by
        have : 4 * acc.length ≤ 0 := (nI_leI (b := 0) (by omega) (by omega)).mp q2
        omega
      rw [show (1 : Int32).toNatClampNeg = 1 from rfl, hT.1] at q
      have hl : l.length ≤ 4 * acc.length := by
        rcases Nat.lt_or_ge (4 * acc.length) l.length with z | z
        · exact absurd (nI_lt z (by omega)) q
        · exact z
      have hr : rest = [] := List.length_eq_zero_iff.mp (by omega)
      have hacc : acc = [] := List.length_eq_zero_iff.mp hz
      subst hacc
      subst hr
      exact h (-1) S rfl (fun _ => ⟨hf, hR⟩) (fun z => absurd rfl z) rf
    · have hp : 0 < 4 * acc.length := by
        rcases Nat.eq_zero_or_pos (4 * acc.length) with z | z
        · rw [z] at q2; exact absurd (by decide) q2
        · exact z
      exact Or.inl hp
theorem parts1_s (hc : l.length ≤ 39) (hB : tB l) {S : zS} (hT : mTb S 1 l) (h : ∀ S', S' 72 6 = nI (tL 3 l).length → zRl S' 78 79 80 (tL 3 l) → mPr1 S S' → P (tFs 3 0 l) S' L) : zCi mX11_readsParts S L [.ref 72, .int (1 : Int32)] P := by
  have fin : ∀ X S1, S1 72 = upd (S 72) 6 0 → (∀ j, j ≠ 72 → S1 j = S j) → zU mX11_readsParts X S1 L 50 [some (.ref 72), some (.int (1 : Int32)), some (.int (10 : Int32)), some (.int (0 : Int32)), some (.int (0 : Int32)), none] [] (zpi P) := by
    intro X S1 h72 ho
    have hF : mPr1 S S1 := ⟨fun j a _ _ _ => ho j a, fun i hi => by rw [h72, upd, if_neg hi]⟩
    refine parts1_l hc hB l.length l [] S1 (Nat.le_refl _) rfl (Nat.zero_le _) (hT.keep (ho _ (by omega)) (ho _ (by omega))) (fun i e he => by simp at he) (by rw [h72, upd, if_pos rfl]) (fun y S' hy h1 h2 hF' => ?_)
    have hy : y = tFs 3 0 l := hy
    rw [hy]
    rw [hy] at h1 h2
    refine h S' ?_ ?_ (hF.trans hF')
    · by_cases z : tFs 3 0 l = -1
      · rw [tL, if_pos z]; exact (h1 z).1
      · rw [tL, if_neg z]; exact h2 z
    · by_cases z : tFs 3 0 l = -1
      · rw [tL, if_pos z]; exact (h1 z).2
      · rw [tL, if_neg z]; intro i e he; simp at he
  refine e_X11_readsParts (fun X => b_X11_readsParts_0 ?_)
  refine ⟨fun _ => b_X11_readsParts_11 ⟨fun _ => b_X11_readsParts_30 (fun S1 e1 => ⟨fun z => absurd rfl z, fun _ S2 e2 => ?_⟩), fun z => absurd z (by decide)⟩, fun z => absurd z (by decide)⟩
  rw [upd_same rfl, zc_self] at e1
  subst e1
  exact fin X S2 (by rw [e2, zc_eq]) (fun j hj => by rw [e2, zc_ne _ _ hj])
end RP1

theorem fst_s {l0 l1 : List Int32} (h0 : l0.length ≤ 31) (h1 : l1.length ≤ 39) (hB0 : tB l0) (hB1 : tB l1) {t : Int32} {S : zS} {L : zL} (hT0 : mTb S 0 l0) (hT1 : mTb S 1 l1) {P : Int32 → zS → zL → Prop} (h : ∀ S', S' 72 2 = nI (tL 0 l0).length → zRl S' 75 76 77 (tL 0 l0) → S' 72 6 = nI (tL 3 l1).length → zRl S' 78 79 80 (tL 3 l1) → mPr S S' → P (if t = 0 then tFs 0 0 l0 else tFs 3 0 l1) S' L) : zCi mX11_faultOf S L [.ref 72, .int t] P := by
  refine e_X11_faultOf (fun X => b_X11_faultOf_0 (parts0_s h0 hB0 hT0 (fun S1 a1 a2 f1 => parts1_s h1 hB1 (hT1.keep (f1.1 _ (by omega) (by omega) (by omega) (by omega)) (f1.1 _ (by omega) (by omega) (by omega) (by omega))) (fun S2 b1 b2 f2 => ?_))))
  have := h S2 (by rw [f2.2 _ (by omega), a1]) (a2.keep (f2.1 _ (by omega) (by omega) (by omega) (by omega)) (f2.1 _ (by omega) (by omega) (by omega) (by omega)) (f2.1 _ (by omega) (by omega) (by omega) (by omega))) b1 b2 (f1.to.trans f2.to)
  refine ⟨fun z => ?_, fun z => ?_⟩
  · rw [if_neg z] at this; exact this
  · rw [if_pos z] at this; exact this
theorem reads_s {l0 l1 : List Int32} (h0 : l0.length ≤ 31) (h1 : l1.length ≤ 39) (hB0 : tB l0) (hB1 : tB l1) {S : zS} {L : zL} (hT0 : mTb S 0 l0) (hT1 : mTb S 1 l1) {P : zS → zL → Prop} (h : ∀ S', S' 72 2 = nI (tL 0 l0).length → zRl S' 75 76 77 (tL 0 l0) → S' 72 6 = nI (tL 3 l1).length → zRl S' 78 79 80 (tL 3 l1) → mPr S S' → P S' L) : zCv mX11_reads S L [.ref 72] P :=
  e_X11_reads (fun X => b_X11_reads_0 (fst_s h0 h1 hB0 hB1 hT0 hT1 h))
