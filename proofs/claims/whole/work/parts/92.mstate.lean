/-! THE REFERENCE: what it keeps, and its updates -/
def mL (a b d f : Nat) (l : List T3) (S : zS) : Prop := zRl S a b d l ∧ S 72 f = nI l.length
def mFr (l : List T3) (S : zS) : Prop := (∀ (i : Nat) (e : T3), l[i]? = some e → S 87 i = e.1) ∧ S 72 20 = nI l.length
def mSh (fo le it : pF) (la : Int32) (S : zS) : Prop := (∀ s, s < 4 → S 108 s = (if fo s = -1 then 0 else 1) ∧ (¬ fo s = -1 → S 109 s = fo s) ∧ S 110 s = le s) ∧ (∀ i, i < 240 → S 111 i = it i) ∧ S 72 55 = la
def mK : sg → zS → Prop
  | (t0, t1, g, c, ro, jo, fr, se, fo, le, it, la), S => (t0.length ≤ 31 ∧ t1.length ≤ 39 ∧ tB t0 ∧ tB t1) ∧ rW ro jo fr se ∧ wSh fo le ∧ (mTb S 0 t0 ∧ mTb S 1 t1) ∧ (S 72 10 = g ∧ S 72 11 = c) ∧ mL 81 82 83 12 ro S ∧ mL 84 85 86 16 jo S ∧ mFr fr S ∧ mL 104 105 106 45 se S ∧ mSh fo le it la S
/-- people and deeds as told stand in their rows -/
def mT (pe de : List T3) (S : zS) : Prop := mL 75 76 77 2 pe S ∧ mL 78 79 80 6 de S
def oC (S S' : zS) : Prop := ∀ j, j < 72 → S' j = S j
theorem oC.rf {S : zS} : oC S S := fun _ _ => rfl
theorem oC.trans {S S' S'' : zS} (h1 : oC S S') (h2 : oC S' S'') : oC S S'' := fun j hj => (h2 j hj).trans (h1 j hj)
/-- what a question leaves -/
def nF (S S' : zS) : Prop := (∀ j, j ≠ 72 → (j < 75 ∨ (80 < j ∧ j < 88) ∨ (103 < j ∧ j ≠ 107 ∧ j ≠ 112)) → S' j = S j) ∧ ∀ i, i ≠ 2 → i ≠ 6 → (i < 22 ∨ 24 < i) → (i < 30 ∨ 33 < i) → S' 72 i = S 72 i
theorem nF.rf {S : zS} : nF S S := ⟨fun _ _ _ => rfl, fun _ _ _ _ _ => rfl⟩
theorem nF.trans {S S' S'' : zS} (h1 : nF S S') (h2 : nF S' S'') : nF S S'' := ⟨fun j a b => (h2.1 j a b).trans (h1.1 j a b), fun i a b d e => (h2.2 i a b d e).trans (h1.2 i a b d e)⟩
theorem nF.c {S S' : zS} (h : nF S S') : oC S S' := fun j hj => h.1 j (by omega) (by omega)
theorem mPr.n {S S' : zS} (h : mPr S S') : nF S S' := ⟨fun j a b => h.1 j a (by omega), fun i a b _ _ => h.2 i a b⟩
theorem mG.n {S S' : zS} (h : mG S S') : nF S S' := ⟨fun j a b => h.1 j a (by omega), fun i _ _ _ d => h.2 i d⟩
theorem mL.keep {a b d f : Nat} {l : List T3} {S S' : zS} (h : mL a b d f l S) (h1 : S' a = S a) (h2 : S' b = S b) (h3 : S' d = S d) (h4 : S' 72 f = S 72 f) : mL a b d f l S' := ⟨h.1.keep h1 h2 h3, by rw [h4]; exact h.2⟩
theorem mFr.keep {l : List T3} {S S' : zS} (h : mFr l S) (h1 : S' 87 = S 87) (h4 : S' 72 20 = S 72 20) : mFr l S' := by
  unfold mFr; rw [h1, h4]; exact h
theorem mSh.keep {fo le it : pF} {la : Int32} {S S' : zS} (h : mSh fo le it la S) (h0 : S' 108 = S 108) (h1 : S' 109 = S 109) (h2 : S' 110 = S 110) (h3 : S' 111 = S 111) (h4 : S' 72 55 = S 72 55) : mSh fo le it la S' := by
  unfold mSh; rw [h0, h1, h2, h3, h4]; exact h
section MKP
variable {t0 t1 : List Int32} {g c : Int32} {ro jo fr se : List T3} {fo le it : pF} {la : Int32} {S S' : zS} {L : zL}
theorem mK.keep (h : mK (t0, t1, g, c, ro, jo, fr, se, fo, le, it, la) S) (hn : nF S S') : mK (t0, t1, g, c, ro, jo, fr, se, fo, le, it, la) S' := by
  obtain ⟨h1, h2, h3, ⟨h4, h5⟩, ⟨h6, h7⟩, h8, h9, h10, h11, h12⟩ := h
  obtain ⟨n1, n2⟩ := hn
  exact ⟨h1, h2, h3, ⟨h4.keep (n1 _ (by omega) (by omega)) (n1 _ (by omega) (by omega)), h5.keep (n1 _ (by omega) (by omega)) (n1 _ (by omega) (by omega))⟩, ⟨by rw [n2 _ (by omega) (by omega) (by omega) (by omega)]; exact h6, by rw [n2 _ (by omega) (by omega) (by omega) (by omega)]; exact h7⟩,
    h8.keep (n1 _ (by omega) (by omega)) (n1 _ (by omega) (by omega)) (n1 _ (by omega) (by omega)) (n2 _ (by omega) (by omega) (by omega) (by omega)), h9.keep (n1 _ (by omega) (by omega)) (n1 _ (by omega) (by omega)) (n1 _ (by omega) (by omega)) (n2 _ (by omega) (by omega) (by omega) (by omega)), h10.keep (n1 _ (by omega) (by omega)) (n2 _ (by omega) (by omega) (by omega) (by omega)), h11.keep (n1 _ (by omega) (by omega)) (n1 _ (by omega) (by omega)) (n1 _ (by omega) (by omega)) (n2 _ (by omega) (by omega) (by omega) (by omega)),
    h12.keep (n1 _ (by omega) (by omega)) (n1 _ (by omega) (by omega)) (n1 _ (by omega) (by omega)) (n1 _ (by omega) (by omega)) (n2 _ (by omega) (by omega) (by omega) (by omega))⟩
theorem reads_m (hK : mK (t0, t1, g, c, ro, jo, fr, se, fo, le, it, la) S) {P : zS → zL → Prop} (h : ∀ S', mK (t0, t1, g, c, ro, jo, fr, se, fo, le, it, la) S' → mT (tL 0 t0) (tL 3 t1) S' → nF S S' → P S' L) : zCv mX11_reads S L [.ref 72] P := by
  have hK' := hK
  obtain ⟨⟨l0, l1, b0, b1⟩, -, -, ⟨x0, x1⟩, -⟩ := hK'
  exact reads_s l0 l1 b0 b1 x0 x1 (fun S' a1 a2 a3 a4 hp => h S' (mK.keep hK hp.n) ⟨⟨a2, a1⟩, ⟨a4, a3⟩⟩ hp.n)
theorem faultOf_m (hK : mK (t0, t1, g, c, ro, jo, fr, se, fo, le, it, la) S) {t : Int32} {P : Int32 → zS → zL → Prop} (h : ∀ S', mK (t0, t1, g, c, ro, jo, fr, se, fo, le, it, la) S' → mT (tL 0 t0) (tL 3 t1) S' → nF S S' → P (if t = 0 then tFs 0 0 t0 else tFs 3 0 t1) S' L) : zCi mX11_faultOf S L [.ref 72, .int t] P := by
  have hK' := hK
  obtain ⟨⟨l0, l1, b0, b1⟩, -, -, ⟨x0, x1⟩, -⟩ := hK'
  exact fst_s l0 l1 b0 b1 x0 x1 (fun S' a1 a2 a3 a4 hp => h S' (mK.keep hK hp.n) ⟨⟨a2, a1⟩, ⟨a4, a3⟩⟩ hp.n)
theorem at_l {X : Nat × (Nat → Int32)} {P : zS → zL → Prop} (hf : fr.length ≤ 6) : ∀ (rest : List T3) (i : Nat) (S : zS) (b : Int32), fr.drop i = rest → i ≤ fr.length → mFr fr S → S 72 24 = b → (∀ S', S' 72 = upd (S 72) 24 (pMk rest b) → (∀ j, j ≠ 72 → S' j = S j) → P S' L) → zU mX11_asTold X S L 21 [some (.ref 72), some (.int (nI i))] [] (zpv P) := by
  intro rest
  induction rest with
  | nil =>
    intro i S b hd hi hF hb h
    have hl : fr.length ≤ i := List.drop_eq_nil_iff.mp hd
    refine b_X11_asTold_21 ⟨fun _ => h S ?_ (fun _ _ => rfl), fun z => absurd ?_ z⟩
    · rw [show pMk [] b = b from rfl, upd_same hb]
    · rw [hF.2]; exact nI_le hl (by omega)
  | cons e rest ih =>
    intro i S b hd hi hF hb h
    obtain ⟨hl, he, hd2⟩ := drop_cons hd
    refine b_X11_asTold_21 ⟨fun z => absurd z ?_, fun _ => ?_⟩
    · rw [hF.2]; exact nI_ge hl (by omega)
    rw [cl_nI (n := i) (by omega), hF.1 i e he, hb]
    refine ⟨vp_in_nI (by omega) (by omega), fun S1 e1 x1 ex1 => ?_⟩
    rw [ex1, nI_1]
    have h72 : S1 72 = upd (S 72) 24 (b ||| ((1 : Int32) <<< (e.1 &&& 31))) := by rw [e1, zc_eq]
    refine ih (i + 1) S1 (b ||| ((1 : Int32) <<< (e.1 &&& 31))) hd2 (by omega) (hF.keep (by rw [e1, zc_ne _ _ (by omega)]) (by rw [h72, upd, if_neg (by omega)])) (by rw [h72, upd, if_pos rfl]) (fun S' k1 k2 => h S' ?_ (fun j hj => by rw [k2 j hj, e1, zc_ne _ _ hj]))
    rw [k1, h72]
    funext q
    simp only [upd]
    split
    · rfl
    · rfl
theorem asTold_m (hK : mK (t0, t1, g, c, ro, jo, fr, se, fo, le, it, la) S) {P : zS → zL → Prop} (h : ∀ S', mK (t0, t1, g, c, ro, jo, fr, se, fo, le, it, la) S' → mI S' (tL 0 t0) (tL 3 t1) ro jo 0 0 (pMk fr 0) g c → nF S S' → P S' L) : zCv mX11_asTold S L [.ref 72] P := by
  refine e_X11_asTold (fun X => b_X11_asTold_0 (reads_m hK (fun S1 hK1 hT1 n1 S2 e2 S3 e3 S4 e4 => ?_)))
  have h4 : S4 72 = upd (upd (upd (S1 72) 22 0) 23 0) 24 0 := by rw [e4, zc_eq, e3, zc_eq, e2, zc_eq]
  have o4 : ∀ j, j ≠ 72 → S4 j = S1 j := fun j hj => by rw [e4, zc_ne _ _ hj, e3, zc_ne _ _ hj, e2, zc_ne _ _ hj]
  have f4 : ∀ i, (i < 22 ∨ 24 < i) → S4 72 i = S1 72 i := fun i hi => by rw [h4, upd, if_neg (by omega), upd, if_neg (by omega), upd, if_neg (by omega)]
  have n4 : nF S1 S4 := ⟨fun j a _ => o4 j a, fun i _ _ b _ => f4 i b⟩
  have hK4 := hK1.keep n4
  have hfr := hK.2.1.1.2.2.1
  refine at_l hfr fr 0 S4 0 rfl (Nat.zero_le _) hK4.2.2.2.2.2.2.2.1 (by rw [h4, upd, if_pos rfl]) (fun S5 k1 k2 => ?_)
  have f5 : ∀ i, (i < 22 ∨ 24 < i) → S5 72 i = S1 72 i := fun i hi => by rw [k1, upd, if_neg (by omega)]; exact f4 i hi
  have o5 : ∀ j, j ≠ 72 → S5 j = S1 j := fun j hj => (k2 j hj).trans (o4 j hj)
  have n5 : nF S1 S5 := ⟨fun j a _ => o5 j a, fun i _ _ b _ => f5 i b⟩
  have hK5 := hK1.keep n5
  obtain ⟨-, -, -, -, ⟨g1, g2⟩, r1, r2, -⟩ := hK5
  refine h S5 (hK1.keep n5) ⟨⟨hT1.1.1.keep (o5 _ (by omega)) (o5 _ (by omega)) (o5 _ (by omega)), by rw [f5 _ (by omega)]; exact hT1.1.2⟩, ⟨hT1.2.1.keep (o5 _ (by omega)) (o5 _ (by omega)) (o5 _ (by omega)), by rw [f5 _ (by omega)]; exact hT1.2.2⟩, r1, r2, ?_, ?_, ?_, g1, g2⟩ (n1.trans n5)
  · rw [k1, upd, if_neg (by omega), h4, upd, if_neg (by omega), upd, if_neg (by omega), upd, if_pos rfl]
  · rw [k1, upd, if_neg (by omega), h4, upd, if_neg (by omega), upd, if_pos rfl]
  · rw [k1, upd, if_pos rfl]
theorem mI.t {pe de ro jo : List T3} {nd nr fb g c : Int32} {S : zS} (h : mI S pe de ro jo nd nr fb g c) : mT pe de S := ⟨h.1, h.2.1⟩
theorem mT.keep {pe de : List T3} {S S' : zS} (h : mT pe de S) (hG : mG S S') : mT pe de S' := ⟨h.1.keep (hG.1 _ (by omega) (by omega)) (hG.1 _ (by omega) (by omega)) (hG.1 _ (by omega) (by omega)) (hG.2 _ (by omega)), h.2.keep (hG.1 _ (by omega) (by omega)) (hG.1 _ (by omega) (by omega)) (hG.1 _ (by omega) (by omega)) (hG.2 _ (by omega))⟩
theorem mK.x (hK : mK (t0, t1, g, c, ro, jo, fr, se, fo, le, it, la) S) : xW (tL 0 t0) (tL 3 t1) ro jo fr := (sW_of hK.1.1 hK.1.2.1 hK.2.1).1
theorem pFl_0 : ∀ (l : List T3) (i : Nat), pFl 0 i l = l
  | [], _ => rfl
  | e :: l, i => by rw [pFl, if_neg (by rw [b_0]; decide), pFl_0 l]
/-- the months as told -/
theorem runsTold_m (hK : mK (t0, t1, g, c, ro, jo, fr, se, fo, le, it, la) S) {P : zS → zL → Prop} (h : ∀ S', mK (t0, t1, g, c, ro, jo, fr, se, fo, le, it, la) S' → mT (tL 0 t0) (tL 3 t1) S' → nF S S' → mZ S' (tL 0 t0).length (pCf (tL 0 t0) (tL 3 t1) ro jo fr g c 24) → mRw S' (tL 0 t0).length (fun m => pCf (tL 0 t0) (tL 3 t1) ro jo fr g c (m + 1)) 24 → P S' L) : zCv mX11_runsTold S L [.ref 72] P := by
  refine e_X11_runsTold (fun X => b_X11_runsTold_0 (asTold_m hK (fun S1 hK1 hI1 n1 => ?_)))
  refine runs_s hK.x.m hI1 (fun S2 hZ hR hG => h S2 (hK1.keep hG.n) (hI1.t.keep hG) (n1.trans hG.n) ?_ ?_)
  · simp only [mC, pFl_0] at hZ; exact hZ
  · simp only [mC, pFl_0] at hR; exact hR
end MKP
section MU
variable {t0 t1 : List Int32} {g c : Int32} {ro jo fr se : List T3} {fo le it : pF} {la : Int32} {S : zS} {L : zL} {P : Int32 → zS → zL → Prop}
/-- one cell of the reference, or one field, is another -/
theorem mTb_app {S S' : zS} {t : Nat} {l : List Int32} {b : Int32} (h : mTb S t l) (h0 : S' 73 t = nI (l.length + 1)) (h1 : S' 74 = upd (S 74) (39 * t + l.length) b) : mTb S' t (l ++ [b]) := by
  refine ⟨by rw [h0]; simp, fun i e he => ?_⟩
  rw [h1]
  by_cases hi : i < l.length
  · rw [List.getElem?_append_left hi] at he
    rw [upd, if_neg (by omega)]; exact h.2 i e he
  · rw [List.getElem?_append_right (by omega)] at he
    have hz : i - l.length < 1 := (List.getElem?_eq_some_iff.mp he).1
    have : i = l.length := by omega
    subst this
    simp at he
    subst he
    simp [upd]
theorem mTb_last {S S' : zS} {t : Nat} {l : List Int32} (h : mTb S t l) (h0 : S' 73 t = nI (l.length - 1)) (h1 : S' 74 = S 74) : mTb S' t l.dropLast := by
  refine ⟨by rw [h0, List.length_dropLast], fun i b hb => ?_⟩
  rw [h1]
  have hi : i < l.dropLast.length := (List.getElem?_eq_some_iff.mp hb).1
  rw [List.length_dropLast] at hi
  refine h.2 i b ?_
  rw [List.getElem?_dropLast, if_pos hi] at hb
  exact hb
theorem mTb_nil {S : zS} {t : Nat} (h0 : S 73 t = 0) : mTb S t [] := ⟨h0, fun i b hb => by simp at hb⟩
theorem mK_t {S' : zS} {t0' t1' : List Int32} (hK : mK (t0, t1, g, c, ro, jo, fr, se, fo, le, it, la) S) (ho : ∀ j, j ≠ 73 → j ≠ 74 → S' j = S j) (hl : t0'.length ≤ 31 ∧ t1'.length ≤ 39 ∧ tB t0' ∧ tB t1') (h0 : mTb S' 0 t0') (h1 : mTb S' 1 t1') : mK (t0', t1', g, c, ro, jo, fr, se, fo, le, it, la) S' := by
  obtain ⟨-, h2, h3, -, ⟨h6, h7⟩, h8, h9, h10, h11, h12⟩ := hK
  have h72 : S' 72 = S 72 := ho 72 (by omega) (by omega)
  exact ⟨hl, h2, h3, ⟨h0, h1⟩, ⟨by rw [h72]; exact h6, by rw [h72]; exact h7⟩, h8.keep (ho _ (by omega) (by omega)) (ho _ (by omega) (by omega)) (ho _ (by omega) (by omega)) (by rw [h72]), h9.keep (ho _ (by omega) (by omega)) (ho _ (by omega) (by omega)) (ho _ (by omega) (by omega)) (by rw [h72]), h10.keep (ho _ (by omega) (by omega)) (by rw [h72]), h11.keep (ho _ (by omega) (by omega)) (ho _ (by omega) (by omega)) (ho _ (by omega) (by omega)) (by rw [h72]), h12.keep (ho _ (by omega) (by omega)) (ho _ (by omega) (by omega)) (ho _ (by omega) (by omega)) (ho _ (by omega) (by omega)) (by rw [h72])⟩
theorem type_m {t b : Int32} (hK : mK (t0, t1, g, c, ro, jo, fr, se, fo, le, it, la) S) (h : ∀ S', mK (uType t b (t0, t1, g, c, ro, jo, fr, se, fo, le, it, la)).2 S' → oC S S' → P (uType t b (t0, t1, g, c, ro, jo, fr, se, fo, le, it, la)).1 S' L) : zCi mX11_type S L [.ref 72, .int t, .int b] P := by
  have hK0 := hK
  obtain ⟨⟨l0, l1, b0, b1⟩, -, -, ⟨x0, x1⟩, -⟩ := hK
  simp only [uType] at h
  refine e_X11_type (fun X => b_X11_type_0 ⟨fun q1 => ⟨fun q2 => ?_, fun q2 => ?_⟩, fun q1 => ?_⟩)
  · rw [if_pos ⟨q1, q2⟩] at h
    have q1' := q1
    obtain ⟨t, ht, rfl⟩ := rng_lit (n := 1) rfl (by omega) q1
    have go : ∀ (l : List Int32) (cap : Nat), mTb S t l → l.length ≤ cap → cap ≤ 39 → (l.length = cap → P (-4) S L) → (¬ l.length = cap → ∀ S', S' 73 = upd (S 73) t (nI (l.length + 1)) → S' 74 = upd (S 74) (39 * t + l.length) b → (∀ j, j ≠ 73 → j ≠ 74 → S' j = S j) → P (nI (l.length + 1)) S' L) → zU mX11_type X S L 38 [some (.ref 72), some (.int (nI t)), some (.int b)] [.int (nI cap), .int (S 73 t)] (zpi P) := by
      intro l cap hT hc hc2 k1 k2
      refine b_X11_type_38 ?_
      have e : (39 : Int32) * nI t + nI l.length = nI (39 * t + l.length) := by rw [show (39 : Int32) = nI 39 by decide, pk_mul, nI_add]
      rw [cl_nI (by omega), hT.1, e, cl_nI (by omega)]
      refine ⟨fun z => ?_, fun z => k1 ((nI_eq (by omega) (by omega)).mp z)⟩
      have hne : ¬ l.length = cap := fun y => z (by rw [y])
      refine ⟨vp_in_nI (by omega) (by omega), vp_in_nI (by omega) (by omega), fun S1 e1 => ⟨vp_in_nI (by omega) (by omega), vp_in_nI (by omega) (by omega), fun S2 e2 => ⟨vp_in_nI (by omega) (by omega), ?_⟩⟩⟩
      have a1 : S1 73 = S 73 := by rw [e1, zc_ne _ _ (by omega)]
      have a2 : S2 73 = upd (S 73) t (nI (l.length + 1)) := by rw [e2, zc_eq, a1, hT.1, nI_1]
      have a3 : S2 73 t = nI (l.length + 1) := by rw [a2, upd, if_pos rfl]
      rw [a3]
      exact k2 hne S2 a2 (by rw [e2, zc_ne _ _ (by omega), e1, zc_eq]) (fun j p q => by rw [e2, zc_ne _ _ p, e1, zc_ne _ _ q])
    have ht2 : t = 0 ∨ t = 1 := by omega
    rw [cl_nI (by omega)]
    rcases ht2 with rfl | rfl
    · rw [if_pos (by decide)] at h
      refine ⟨vp_in_nI (by omega) (by omega), fun z => absurd (by decide) z, fun _ => go t0 31 x0 l0 (by omega) (fun y => ?_) (fun y S' k1 k2 k3 => ?_)⟩
      · rw [if_pos y] at h; exact h S hK0 oC.rf
      · rw [if_neg y] at h
        refine h S' (mK_t hK0 k3 ⟨by simp; omega, l1, tB_app b0 q2, b1⟩ (mTb_app x0 (by rw [k1, upd, if_pos rfl]) k2) ⟨by rw [k1, upd, if_neg (by omega)]; exact x1.1, fun i e he => ?_⟩) (fun j hj => k3 j (by omega) (by omega))
        rw [k2, upd, if_neg (by omega)]; exact x1.2 i e he
    · rw [if_neg (by decide)] at h
      refine ⟨vp_in_nI (by omega) (by omega), fun _ => go t1 39 x1 l1 (by omega) (fun y => ?_) (fun y S' k1 k2 k3 => ?_), fun z => absurd z (by decide)⟩
      · rw [if_pos y] at h; exact h S hK0 oC.rf
      · rw [if_neg y] at h
        refine h S' (mK_t hK0 k3 ⟨l0, by simp; omega, b0, tB_app b1 q2⟩ ⟨by rw [k1, upd, if_neg (by omega)]; exact x0.1, fun i e he => ?_⟩ (mTb_app x1 (by rw [k1, upd, if_pos rfl]) k2)) (fun j hj => k3 j (by omega) (by omega))
        have := (List.getElem?_eq_some_iff.mp he).1
        rw [k2, upd, if_neg (by omega)]; exact x0.2 i e he
  · rw [if_neg (fun y => q2 y.2)] at h; exact h S hK0 oC.rf
  · rw [if_neg (fun y => q1 y.1)] at h; exact h S hK0 oC.rf
theorem wipe_m {t : Int32} (hK : mK (t0, t1, g, c, ro, jo, fr, se, fo, le, it, la) S) (h : ∀ S', mK (uWipe t (t0, t1, g, c, ro, jo, fr, se, fo, le, it, la)).2 S' → oC S S' → P (uWipe t (t0, t1, g, c, ro, jo, fr, se, fo, le, it, la)).1 S' L) : zCi mX11_wipe S L [.ref 72, .int t] P := by
  have hK0 := hK
  obtain ⟨⟨l0, l1, b0, b1⟩, -, -, ⟨x0, x1⟩, -⟩ := hK
  simp only [uWipe] at h
  refine e_X11_wipe (fun X => b_X11_wipe_0 ⟨fun q1 => ?_, fun q1 => ?_⟩)
  · rw [if_pos q1] at h
    obtain ⟨t, ht, rfl⟩ := rng_lit (n := 1) rfl (by omega) q1
    rw [cl_nI (by omega)]
    refine ⟨vp_in_nI (by omega) (by omega), fun y1 ey1 => ⟨vp_in_nI (by omega) (by omega), fun S1 e1 => ?_⟩⟩
    have k3 : ∀ j, j ≠ 73 → S1 j = S j := fun j hj => by rw [e1, zc_ne _ _ hj]
    have k1 : S1 73 = upd (S 73) t 0 := by rw [e1, zc_eq]
    have ht2 : t = 0 ∨ t = 1 := by omega
    rcases ht2 with rfl | rfl
    · rw [if_pos (by decide)] at h
      rw [ey1, x0.1]
      exact h S1 (mK_t hK0 (fun j a _ => k3 j a) ⟨by simp, l1, tB_nil, b1⟩ (mTb_nil (by rw [k1, upd, if_pos rfl])) ⟨by rw [k1, upd, if_neg (by omega)]; exact x1.1, fun i e he => by rw [k3 74 (by omega)]; exact x1.2 i e he⟩) (fun j hj => k3 j (by omega))
    · rw [if_neg (by decide)] at h
      rw [ey1, x1.1]
      exact h S1 (mK_t hK0 (fun j a _ => k3 j a) ⟨l0, by simp, b0, tB_nil⟩ ⟨by rw [k1, upd, if_neg (by omega)]; exact x0.1, fun i e he => by rw [k3 74 (by omega)]; exact x0.2 i e he⟩ (mTb_nil (by rw [k1, upd, if_pos rfl]))) (fun j hj => k3 j (by omega))
  · rw [if_neg q1] at h; exact h S hK0 oC.rf
theorem nil_0 {α : Type} {l : List α} (hl : l.length < 2000) : nI l.length = 0 ↔ l = [] := by
  constructor
  · intro z
    have : l.length = 0 := (nI_eq (b := 0) (by omega) (by omega)).mp z
    exact List.length_eq_zero_iff.mp this
  · intro z; rw [z]; rfl
theorem undo_m {t : Int32} (hK : mK (t0, t1, g, c, ro, jo, fr, se, fo, le, it, la) S) (h : ∀ S', mK (uUndo t (t0, t1, g, c, ro, jo, fr, se, fo, le, it, la)).2 S' → oC S S' → P (uUndo t (t0, t1, g, c, ro, jo, fr, se, fo, le, it, la)).1 S' L) : zCi mX11_undo S L [.ref 72, .int t] P := by
  have hK0 := hK
  obtain ⟨⟨l0, l1, b0, b1⟩, -, -, ⟨x0, x1⟩, -⟩ := hK
  simp only [uUndo] at h
  refine e_X11_undo (fun X => b_X11_undo_0 ⟨fun q1 => ?_, fun q1 => ?_⟩)
  · rw [if_pos q1] at h
    obtain ⟨t, ht, rfl⟩ := rng_lit (n := 1) rfl (by omega) q1
    rw [cl_nI (by omega)]
    have ht2 : t = 0 ∨ t = 1 := by omega
    rcases ht2 with rfl | rfl
    · rw [if_pos (by decide)] at h
      rw [x0.1]
      refine ⟨vp_in_nI (by omega) (by omega), fun z => ⟨vp_in_nI (by omega) (by omega), vp_in_nI (by omega) (by omega), fun S1 e1 => ⟨vp_in_nI (by omega) (by omega), ?_⟩⟩, fun z => ?_⟩
      · have hne : ¬ t0 = [] := fun y => z ((nil_0 (by omega)).mpr y)
        rw [if_neg hne] at h
        have k3 : ∀ j, j ≠ 73 → S1 j = S j := fun j hj => by rw [e1, zc_ne _ _ hj]
        have k1 : S1 73 = upd (S 73) 0 (nI (t0.length - 1)) := by rw [e1, zc_eq, sub1 hne]
        have k0 : S1 73 0 = nI (t0.length - 1) := by rw [k1, upd, if_pos rfl]
        rw [k0]
        exact h S1 (mK_t hK0 (fun j a _ => k3 j a) ⟨by simp; omega, l1, tB_last b0, b1⟩ (mTb_last x0 k0 (k3 _ (by omega))) ⟨by rw [k1, upd, if_neg (by omega)]; exact x1.1, fun i e he => by rw [k3 74 (by omega)]; exact x1.2 i e he⟩) (fun j hj => k3 j (by omega))
      · rw [if_pos ((nil_0 (by omega)).mp z)] at h; exact h S hK0 oC.rf
    · rw [if_neg (by decide)] at h
      rw [x1.1]
      refine ⟨vp_in_nI (by omega) (by omega), fun z => ⟨vp_in_nI (by omega) (by omega), vp_in_nI (by omega) (by omega), fun S1 e1 => ⟨vp_in_nI (by omega) (by omega), ?_⟩⟩, fun z => ?_⟩
      · have hne : ¬ t1 = [] := fun y => z ((nil_0 (by omega)).mpr y)
        rw [if_neg hne] at h
        have k3 : ∀ j, j ≠ 73 → S1 j = S j := fun j hj => by rw [e1, zc_ne _ _ hj]
        have k1 : S1 73 = upd (S 73) 1 (nI (t1.length - 1)) := by rw [e1, zc_eq, sub1 hne]
        have k0 : S1 73 1 = nI (t1.length - 1) := by rw [k1, upd, if_pos rfl]
        rw [k0]
        exact h S1 (mK_t hK0 (fun j a _ => k3 j a) ⟨l0, by simp; omega, b0, tB_last b1⟩ ⟨by rw [k1, upd, if_neg (by omega)]; exact x0.1, fun i e he => by rw [k3 74 (by omega)]; exact x0.2 i e he⟩ (mTb_last x1 k0 (k3 _ (by omega)))) (fun j hj => k3 j (by omega))
      · rw [if_pos ((nil_0 (by omega)).mp z)] at h; exact h S hK0 oC.rf
  · rw [if_neg q1] at h; exact h S hK0 oC.rf
theorem set_m {w v : Int32} (hK : mK (t0, t1, g, c, ro, jo, fr, se, fo, le, it, la) S) (h : ∀ S', mK (uSet w v (t0, t1, g, c, ro, jo, fr, se, fo, le, it, la)).2 S' → oC S S' → P (uSet w v (t0, t1, g, c, ro, jo, fr, se, fo, le, it, la)).1 S' L) : zCi mX11_set S L [.ref 72, .int w, .int v] P := by
  have hK0 := hK
  obtain ⟨h1, h2, h3, ⟨x0, x1⟩, ⟨h6, h7⟩, h8, h9, h10, h11, h12⟩ := hK
  simp only [uSet] at h
  have fin : ∀ S' g' c', S' 72 = upd (upd (S 72) 10 g') 11 c' → (∀ j, j ≠ 72 → S' j = S j) → mK (t0, t1, g', c', ro, jo, fr, se, fo, le, it, la) S' := by
    intro S' g' c' k1 k2
    have f : ∀ i, i ≠ 10 → i ≠ 11 → S' 72 i = S 72 i := fun i a b => by rw [k1, upd, if_neg b, upd, if_neg a]
    exact ⟨h1, h2, h3, ⟨x0.keep (k2 _ (by omega)) (k2 _ (by omega)), x1.keep (k2 _ (by omega)) (k2 _ (by omega))⟩, ⟨by rw [k1, upd, if_neg (by omega), upd, if_pos rfl], by rw [k1, upd, if_pos rfl]⟩, h8.keep (k2 _ (by omega)) (k2 _ (by omega)) (k2 _ (by omega)) (f _ (by omega) (by omega)), h9.keep (k2 _ (by omega)) (k2 _ (by omega)) (k2 _ (by omega)) (f _ (by omega) (by omega)), h10.keep (k2 _ (by omega)) (f _ (by omega) (by omega)), h11.keep (k2 _ (by omega)) (k2 _ (by omega)) (k2 _ (by omega)) (f _ (by omega) (by omega)), h12.keep (k2 _ (by omega)) (k2 _ (by omega)) (k2 _ (by omega)) (k2 _ (by omega)) (f _ (by omega) (by omega))⟩
  have go : ∀ X w1, ok1 w → w1 = (if w = 0 then (9 : Int32) else 30) → zU mX11_set X S L 22 [some (.ref 72), some (.int w), some (.int v), none] [.int w1, .int (0 : Int32), .int v] (zpi P) := by
    intro X w1 q1 hw1
    refine b_X11_set_22 ?_
    rw [h6, h7]
    rw [← hw1] at h
    refine ⟨fun q2 => ⟨fun z => ?_, fun z => ?_⟩, fun q2 => ?_⟩
    · rw [if_pos ⟨q1, q2⟩, if_neg z] at h
      have hw2 : w = 1 := by
        obtain ⟨j, hj, rfl⟩ := rng_lit (n := 1) rfl (by omega) q1
        have : j = 0 ∨ j = 1 := by omega
        rcases this with rfl | rfl
        · exact absurd (by decide) z
        · rfl
      refine b_X11_set_46 ⟨fun _ => ?_, fun y => absurd y z⟩
      rw [h6]
      refine b_X11_set_60 (fun S1 e1 => ⟨fun y => absurd hw2 y, fun _ S2 e2 => ?_⟩)
      exact h S2 (fin S2 g v (by rw [e2, zc_eq, e1, zc_eq]) (fun j hj => by rw [e2, zc_ne _ _ hj, e1, zc_ne _ _ hj])) (fun j hj => by rw [e2, zc_ne _ _ (by omega), e1, zc_ne _ _ (by omega)])
    · rw [if_pos ⟨q1, q2⟩, if_pos z] at h
      refine b_X11_set_46 ⟨fun y => absurd z y, fun _ => ?_⟩
      refine b_X11_set_60 (fun S1 e1 => ⟨fun _ S2 e2 => ?_, fun y => absurd (z.symm.trans y) (by decide)⟩)
      have a11 : S1 72 11 = c := by rw [e1, zc_eq, upd, if_neg (by omega)]; exact h7
      rw [a11] at e2
      exact h S2 (fin S2 v c (by rw [e2, zc_eq, e1, zc_eq]) (fun j hj => by rw [e2, zc_ne _ _ hj, e1, zc_ne _ _ hj])) (fun j hj => by rw [e2, zc_ne _ _ (by omega), e1, zc_ne _ _ (by omega)])
    · rw [if_neg (fun y => q2 y.2)] at h; exact h S hK0 oC.rf
  refine e_X11_set (fun X => b_X11_set_0 ⟨fun q1 => ⟨fun z => go X _ q1 (by rw [if_neg z]), fun z => go X _ q1 (by rw [if_pos z])⟩, fun q1 => ?_⟩)
  rw [if_neg (fun y => q1 y.1)] at h; exact h S hK0 oC.rf
theorem round_m {m q p : Int32} (hK : mK (t0, t1, g, c, ro, jo, fr, se, fo, le, it, la) S) (h : ∀ S', mK (uRound m q p (t0, t1, g, c, ro, jo, fr, se, fo, le, it, la)).2 S' → oC S S' → P (uRound m q p (t0, t1, g, c, ro, jo, fr, se, fo, le, it, la)).1 S' L) : zCi mX11_round S L [.ref 72, .int m, .int q, .int p] P := by
  have hK0 := hK
  obtain ⟨h1, ⟨⟨w1, w2, w3, w4⟩, e1, e2, e3, e4⟩, h3, ⟨x0, x1⟩, ⟨h6, h7⟩, h8, h9, h10, h11, h12⟩ := hK
  simp only [uRound] at h
  refine e_X11_round (fun X => b_X11_round_0 ?_)
  rw [h8.2]
  refine ⟨fun q1 => ⟨fun q2 => ⟨fun q3 => ⟨fun z => ?_, fun z => ?_⟩, fun z => ?_⟩, fun z => ?_⟩, fun z => ?_⟩
  · have hne : ¬ ro.length = 8 := fun y => z (by rw [y]; rfl)
    rw [if_pos ⟨q1, q2, q3⟩, if_neg hne] at h
    rw [cl_nI (by omega)]
    refine ⟨vp_in_nI (by omega) (by omega), fun S1 f1 => ?_⟩
    have c1 : S1 72 12 = nI ro.length := by rw [f1, zc_ne _ _ (by omega)]; exact h8.2
    rw [c1, cl_nI (by omega)]
    refine ⟨vp_in_nI (by omega) (by omega), fun S2 f2 => ?_⟩
    have c2 : S2 72 12 = nI ro.length := by rw [f2, zc_ne _ _ (by omega)]; exact c1
    rw [c2, cl_nI (by omega)]
    refine ⟨vp_in_nI (by omega) (by omega), fun S3 f3 S4 f4 => ?_⟩
    have c3 : S3 72 12 = nI ro.length := by rw [f3, zc_ne _ _ (by omega)]; exact c2
    have k72 : S4 72 = upd (S 72) 12 (nI (ro.length + 1)) := by rw [f4, zc_eq, c3, nI_1, f3, zc_ne _ _ (by omega), f2, zc_ne _ _ (by omega), f1, zc_ne _ _ (by omega)]
    have c4 : S4 72 12 = nI (ro.length + 1) := by rw [k72, upd, if_pos rfl]
    have f : ∀ i, i ≠ 12 → S4 72 i = S 72 i := fun i hi => by rw [k72, upd, if_neg hi]
    have k2 : ∀ j, j ≠ 72 → j ≠ 81 → j ≠ 82 → j ≠ 83 → S4 j = S j := fun j p q r s => by rw [f4, zc_ne _ _ p, f3, zc_ne _ _ s, f2, zc_ne _ _ r, f1, zc_ne _ _ q]
    have nw : mL 81 82 83 12 (ro ++ [(m, q, p)]) S4 := by
      refine ⟨zRl_snoc h8.1 ?_ ?_ ?_, by rw [c4]; simp⟩
      · rw [f4, zc_ne _ _ (by omega), f3, zc_ne _ _ (by omega), f2, zc_ne _ _ (by omega), f1, zc_eq]
      · rw [f4, zc_ne _ _ (by omega), f3, zc_ne _ _ (by omega), f2, zc_eq, f1, zc_ne _ _ (by omega)]
      · rw [f4, zc_ne _ _ (by omega), f3, zc_eq, f2, zc_ne _ _ (by omega), f1, zc_ne _ _ (by omega)]
    rw [c4]
    obtain ⟨mm, hm, hme⟩ := rng_lit (n := 23) rfl (by omega) q1
    obtain ⟨pp, hp1, hp2, hpe⟩ := rng_1 q3
    refine h S4 ⟨h1, ⟨⟨by simp; omega, w2, w3, w4⟩, mem_snoc e1 ⟨⟨mm, by omega, hme⟩, ⟨pp, hp2, hpe⟩⟩, e2, e3, e4⟩, h3, ⟨x0.keep (k2 _ (by omega) (by omega) (by omega) (by omega)) (k2 _ (by omega) (by omega) (by omega) (by omega)), x1.keep (k2 _ (by omega) (by omega) (by omega) (by omega)) (k2 _ (by omega) (by omega) (by omega) (by omega))⟩, ⟨by rw [f _ (by omega)]; exact h6, by rw [f _ (by omega)]; exact h7⟩, nw, h9.keep (k2 _ (by omega) (by omega) (by omega) (by omega)) (k2 _ (by omega) (by omega) (by omega) (by omega)) (k2 _ (by omega) (by omega) (by omega) (by omega)) (f _ (by omega)), h10.keep (k2 _ (by omega) (by omega) (by omega) (by omega)) (f _ (by omega)), h11.keep (k2 _ (by omega) (by omega) (by omega) (by omega)) (k2 _ (by omega) (by omega) (by omega) (by omega)) (k2 _ (by omega) (by omega) (by omega) (by omega)) (f _ (by omega)), h12.keep (k2 _ (by omega) (by omega) (by omega) (by omega)) (k2 _ (by omega) (by omega) (by omega) (by omega)) (k2 _ (by omega) (by omega) (by omega) (by omega)) (k2 _ (by omega) (by omega) (by omega) (by omega)) (f _ (by omega))⟩ (fun j hj => k2 j (by omega) (by omega) (by omega) (by omega))
  · have he : ro.length = 8 := (nI_eq (b := 8) (by omega) (by omega)).mp z
    rw [if_pos ⟨q1, q2, q3⟩, if_pos he] at h; exact h S hK0 oC.rf
  · rw [if_neg (fun y => z y.2.2)] at h; exact h S hK0 oC.rf
  · rw [if_neg (fun y => z y.2.1)] at h; exact h S hK0 oC.rf
  · rw [if_neg (fun y => z y.1)] at h; exact h S hK0 oC.rf
theorem journey_m {m p q : Int32} (hK : mK (t0, t1, g, c, ro, jo, fr, se, fo, le, it, la) S) (h : ∀ S', mK (uJourney m p q (t0, t1, g, c, ro, jo, fr, se, fo, le, it, la)).2 S' → oC S S' → P (uJourney m p q (t0, t1, g, c, ro, jo, fr, se, fo, le, it, la)).1 S' L) : zCi mX11_journey S L [.ref 72, .int m, .int p, .int q] P := by
  have hK0 := hK
  obtain ⟨h1, ⟨⟨w1, w2, w3, w4⟩, e1, e2, e3, e4⟩, h3, ⟨x0, x1⟩, ⟨h6, h7⟩, h8, h9, h10, h11, h12⟩ := hK
  simp only [uJourney] at h
  refine e_X11_journey (fun X => b_X11_journey_0 ?_)
  rw [h9.2]
  refine ⟨fun q1 => ⟨fun q2 => ⟨fun q3 => ⟨fun z => ?_, fun z => ?_⟩, fun z => ?_⟩, fun z => ?_⟩, fun z => ?_⟩
  · have hne : ¬ jo.length = 8 := fun y => z (by rw [y]; rfl)
    rw [if_pos ⟨q1, q2, q3⟩, if_neg hne] at h
    rw [cl_nI (by omega)]
    refine ⟨vp_in_nI (by omega) (by omega), fun S1 f1 => ?_⟩
    have c1 : S1 72 16 = nI jo.length := by rw [f1, zc_ne _ _ (by omega)]; exact h9.2
    rw [c1, cl_nI (by omega)]
    refine ⟨vp_in_nI (by omega) (by omega), fun S2 f2 => ?_⟩
    have c2 : S2 72 16 = nI jo.length := by rw [f2, zc_ne _ _ (by omega)]; exact c1
    rw [c2, cl_nI (by omega)]
    refine ⟨vp_in_nI (by omega) (by omega), fun S3 f3 S4 f4 => ?_⟩
    have c3 : S3 72 16 = nI jo.length := by rw [f3, zc_ne _ _ (by omega)]; exact c2
    have k72 : S4 72 = upd (S 72) 16 (nI (jo.length + 1)) := by rw [f4, zc_eq, c3, nI_1, f3, zc_ne _ _ (by omega), f2, zc_ne _ _ (by omega), f1, zc_ne _ _ (by omega)]
    have c4 : S4 72 16 = nI (jo.length + 1) := by rw [k72, upd, if_pos rfl]
    have f : ∀ i, i ≠ 16 → S4 72 i = S 72 i := fun i hi => by rw [k72, upd, if_neg hi]
    have k2 : ∀ j, j ≠ 72 → j ≠ 84 → j ≠ 85 → j ≠ 86 → S4 j = S j := fun j p q r s => by rw [f4, zc_ne _ _ p, f3, zc_ne _ _ s, f2, zc_ne _ _ r, f1, zc_ne _ _ q]
    have nw : mL 84 85 86 16 (jo ++ [(m, p, q)]) S4 := by
      refine ⟨zRl_snoc h9.1 ?_ ?_ ?_, by rw [c4]; simp⟩
      · rw [f4, zc_ne _ _ (by omega), f3, zc_ne _ _ (by omega), f2, zc_ne _ _ (by omega), f1, zc_eq]
      · rw [f4, zc_ne _ _ (by omega), f3, zc_ne _ _ (by omega), f2, zc_eq, f1, zc_ne _ _ (by omega)]
      · rw [f4, zc_ne _ _ (by omega), f3, zc_eq, f2, zc_ne _ _ (by omega), f1, zc_ne _ _ (by omega)]
    rw [c4]
    obtain ⟨mm, hm, hme⟩ := rng_lit (n := 23) rfl (by omega) q1
    obtain ⟨qq, hq, hqe⟩ := rng_lit (n := 3) rfl (by omega) q3
    refine h S4 ⟨h1, ⟨⟨w1, by simp; omega, w3, w4⟩, e1, mem_snoc e2 ⟨⟨mm, by omega, hme⟩, ⟨qq, by omega, hqe⟩⟩, e3, e4⟩, h3, ⟨x0.keep (k2 _ (by omega) (by omega) (by omega) (by omega)) (k2 _ (by omega) (by omega) (by omega) (by omega)), x1.keep (k2 _ (by omega) (by omega) (by omega) (by omega)) (k2 _ (by omega) (by omega) (by omega) (by omega))⟩, ⟨by rw [f _ (by omega)]; exact h6, by rw [f _ (by omega)]; exact h7⟩, h8.keep (k2 _ (by omega) (by omega) (by omega) (by omega)) (k2 _ (by omega) (by omega) (by omega) (by omega)) (k2 _ (by omega) (by omega) (by omega) (by omega)) (f _ (by omega)), nw, h10.keep (k2 _ (by omega) (by omega) (by omega) (by omega)) (f _ (by omega)), h11.keep (k2 _ (by omega) (by omega) (by omega) (by omega)) (k2 _ (by omega) (by omega) (by omega) (by omega)) (k2 _ (by omega) (by omega) (by omega) (by omega)) (f _ (by omega)), h12.keep (k2 _ (by omega) (by omega) (by omega) (by omega)) (k2 _ (by omega) (by omega) (by omega) (by omega)) (k2 _ (by omega) (by omega) (by omega) (by omega)) (k2 _ (by omega) (by omega) (by omega) (by omega)) (f _ (by omega))⟩ (fun j hj => k2 j (by omega) (by omega) (by omega) (by omega))
  · have he : jo.length = 8 := (nI_eq (b := 8) (by omega) (by omega)).mp z
    rw [if_pos ⟨q1, q2, q3⟩, if_pos he] at h; exact h S hK0 oC.rf
  · rw [if_neg (fun y => z y.2.2)] at h; exact h S hK0 oC.rf
  · rw [if_neg (fun y => z y.2.1)] at h; exact h S hK0 oC.rf
  · rw [if_neg (fun y => z y.1)] at h; exact h S hK0 oC.rf
theorem seen_m {m p x : Int32} (hK : mK (t0, t1, g, c, ro, jo, fr, se, fo, le, it, la) S) (h : ∀ S', mK (uSeen m p x (t0, t1, g, c, ro, jo, fr, se, fo, le, it, la)).2 S' → oC S S' → P (uSeen m p x (t0, t1, g, c, ro, jo, fr, se, fo, le, it, la)).1 S' L) : zCi mX11_seen S L [.ref 72, .int m, .int p, .int x] P := by
  have hK0 := hK
  obtain ⟨h1, ⟨⟨w1, w2, w3, w4⟩, e1, e2, e3, e4⟩, h3, ⟨x0, x1⟩, ⟨h6, h7⟩, h8, h9, h10, h11, h12⟩ := hK
  simp only [uSeen] at h
  refine e_X11_seen (fun X => b_X11_seen_0 ?_)
  rw [h11.2]
  refine ⟨fun q1 => ⟨fun q2 => ⟨fun q3 => ⟨fun z => ?_, fun z => ?_⟩, fun z => ?_⟩, fun z => ?_⟩, fun z => ?_⟩
  · have hne : ¬ se.length = 8 := fun y => z (by rw [y]; rfl)
    rw [if_pos ⟨q1, q2, q3⟩, if_neg hne] at h
    rw [cl_nI (by omega)]
    refine ⟨vp_in_nI (by omega) (by omega), fun S1 f1 => ?_⟩
    have c1 : S1 72 45 = nI se.length := by rw [f1, zc_ne _ _ (by omega)]; exact h11.2
    rw [c1, cl_nI (by omega)]
    refine ⟨vp_in_nI (by omega) (by omega), fun S2 f2 => ?_⟩
    have c2 : S2 72 45 = nI se.length := by rw [f2, zc_ne _ _ (by omega)]; exact c1
    rw [c2, cl_nI (by omega)]
    refine ⟨vp_in_nI (by omega) (by omega), fun S3 f3 S4 f4 => ?_⟩
    have c3 : S3 72 45 = nI se.length := by rw [f3, zc_ne _ _ (by omega)]; exact c2
    have k72 : S4 72 = upd (S 72) 45 (nI (se.length + 1)) := by rw [f4, zc_eq, c3, nI_1, f3, zc_ne _ _ (by omega), f2, zc_ne _ _ (by omega), f1, zc_ne _ _ (by omega)]
    have c4 : S4 72 45 = nI (se.length + 1) := by rw [k72, upd, if_pos rfl]
    have f : ∀ i, i ≠ 45 → S4 72 i = S 72 i := fun i hi => by rw [k72, upd, if_neg hi]
    have k2 : ∀ j, j ≠ 72 → j ≠ 104 → j ≠ 105 → j ≠ 106 → S4 j = S j := fun j p q r s => by rw [f4, zc_ne _ _ p, f3, zc_ne _ _ s, f2, zc_ne _ _ r, f1, zc_ne _ _ q]
    have nw : mL 104 105 106 45 (se ++ [(m, p, x)]) S4 := by
      refine ⟨zRl_snoc h11.1 ?_ ?_ ?_, by rw [c4]; simp⟩
      · rw [f4, zc_ne _ _ (by omega), f3, zc_ne _ _ (by omega), f2, zc_ne _ _ (by omega), f1, zc_eq]
      · rw [f4, zc_ne _ _ (by omega), f3, zc_ne _ _ (by omega), f2, zc_eq, f1, zc_ne _ _ (by omega)]
      · rw [f4, zc_ne _ _ (by omega), f3, zc_eq, f2, zc_ne _ _ (by omega), f1, zc_ne _ _ (by omega)]
    rw [c4]
    obtain ⟨mm, hm, hme⟩ := rng_lit (n := 23) rfl (by omega) q1
    obtain ⟨pp, hp, hpe⟩ := rng_lit (n := 7) rfl (by omega) q2
    refine h S4 ⟨h1, ⟨⟨w1, w2, w3, by simp; omega⟩, e1, e2, e3, mem_snoc e4 ⟨⟨mm, by omega, hme⟩, ⟨pp, by omega, hpe⟩⟩⟩, h3, ⟨x0.keep (k2 _ (by omega) (by omega) (by omega) (by omega)) (k2 _ (by omega) (by omega) (by omega) (by omega)), x1.keep (k2 _ (by omega) (by omega) (by omega) (by omega)) (k2 _ (by omega) (by omega) (by omega) (by omega))⟩, ⟨by rw [f _ (by omega)]; exact h6, by rw [f _ (by omega)]; exact h7⟩, h8.keep (k2 _ (by omega) (by omega) (by omega) (by omega)) (k2 _ (by omega) (by omega) (by omega) (by omega)) (k2 _ (by omega) (by omega) (by omega) (by omega)) (f _ (by omega)), h9.keep (k2 _ (by omega) (by omega) (by omega) (by omega)) (k2 _ (by omega) (by omega) (by omega) (by omega)) (k2 _ (by omega) (by omega) (by omega) (by omega)) (f _ (by omega)), h10.keep (k2 _ (by omega) (by omega) (by omega) (by omega)) (f _ (by omega)), nw, h12.keep (k2 _ (by omega) (by omega) (by omega) (by omega)) (k2 _ (by omega) (by omega) (by omega) (by omega)) (k2 _ (by omega) (by omega) (by omega) (by omega)) (k2 _ (by omega) (by omega) (by omega) (by omega)) (f _ (by omega))⟩ (fun j hj => k2 j (by omega) (by omega) (by omega) (by omega))
  · have he : se.length = 8 := (nI_eq (b := 8) (by omega) (by omega)).mp z
    rw [if_pos ⟨q1, q2, q3⟩, if_pos he] at h; exact h S hK0 oC.rf
  · rw [if_neg (fun y => z y.2.2)] at h; exact h S hK0 oC.rf
  · rw [if_neg (fun y => z y.2.1)] at h; exact h S hK0 oC.rf
  · rw [if_neg (fun y => z y.1)] at h; exact h S hK0 oC.rf
theorem frost_m {m : Int32} (hK : mK (t0, t1, g, c, ro, jo, fr, se, fo, le, it, la) S) (h : ∀ S', mK (uFrost m (t0, t1, g, c, ro, jo, fr, se, fo, le, it, la)).2 S' → oC S S' → P (uFrost m (t0, t1, g, c, ro, jo, fr, se, fo, le, it, la)).1 S' L) : zCi mX11_frost S L [.ref 72, .int m] P := by
  have hK0 := hK
  obtain ⟨h1, ⟨⟨w1, w2, w3, w4⟩, e1, e2, e3, e4⟩, h3, ⟨x0, x1⟩, ⟨h6, h7⟩, h8, h9, h10, h11, h12⟩ := hK
  simp only [uFrost] at h
  refine e_X11_frost (fun X => b_X11_frost_0 ?_)
  rw [h10.2]
  refine ⟨fun q1 => ⟨fun z => ?_, fun z => ?_⟩, fun z => ?_⟩
  · have hne : ¬ fr.length = 6 := fun y => z (by rw [y]; rfl)
    rw [if_pos q1, if_neg hne] at h
    rw [cl_nI (by omega)]
    refine ⟨vp_in_nI (by omega) (by omega), fun S1 f1 S2 f2 => ?_⟩
    have c1 : S1 72 20 = nI fr.length := by rw [f1, zc_ne _ _ (by omega)]; exact h10.2
    have k72 : S2 72 = upd (S 72) 20 (nI (fr.length + 1)) := by rw [f2, zc_eq, c1, nI_1, f1, zc_ne _ _ (by omega)]
    have c4 : S2 72 20 = nI (fr.length + 1) := by rw [k72, upd, if_pos rfl]
    have f : ∀ i, i ≠ 20 → S2 72 i = S 72 i := fun i hi => by rw [k72, upd, if_neg hi]
    have k2 : ∀ j, j ≠ 72 → j ≠ 87 → S2 j = S j := fun j p q => by rw [f2, zc_ne _ _ p, f1, zc_ne _ _ q]
    have nw : mFr (fr ++ [(m, 0, 0)]) S2 := by
      refine ⟨fun i e he => ?_, by rw [c4]; simp⟩
      have : S2 87 = upd (S 87) fr.length m := by rw [f2, zc_ne _ _ (by omega), f1, zc_eq]
      rw [this]
      by_cases hi : i < fr.length
      · rw [List.getElem?_append_left hi] at he
        rw [upd, if_neg (by omega)]; exact h10.1 i e he
      · rw [List.getElem?_append_right (by omega)] at he
        have hz : i - fr.length < 1 := (List.getElem?_eq_some_iff.mp he).1
        have : i = fr.length := by omega
        subst this
        simp at he
        subst he
        simp [upd]
    rw [c4]
    obtain ⟨mm, hm, hme⟩ := rng_lit (n := 23) rfl (by omega) q1
    refine h S2 ⟨h1, ⟨⟨w1, w2, by simp; omega, w4⟩, e1, e2, mem_snoc e3 ⟨mm, by omega, hme⟩, e4⟩, h3, ⟨x0.keep (k2 _ (by omega) (by omega)) (k2 _ (by omega) (by omega)), x1.keep (k2 _ (by omega) (by omega)) (k2 _ (by omega) (by omega))⟩, ⟨by rw [f _ (by omega)]; exact h6, by rw [f _ (by omega)]; exact h7⟩, h8.keep (k2 _ (by omega) (by omega)) (k2 _ (by omega) (by omega)) (k2 _ (by omega) (by omega)) (f _ (by omega)), h9.keep (k2 _ (by omega) (by omega)) (k2 _ (by omega) (by omega)) (k2 _ (by omega) (by omega)) (f _ (by omega)), nw, h11.keep (k2 _ (by omega) (by omega)) (k2 _ (by omega) (by omega)) (k2 _ (by omega) (by omega)) (f _ (by omega)), h12.keep (k2 _ (by omega) (by omega)) (k2 _ (by omega) (by omega)) (k2 _ (by omega) (by omega)) (k2 _ (by omega) (by omega)) (f _ (by omega))⟩ (fun j hj => k2 j (by omega) (by omega))
  · have he : fr.length = 6 := (nI_eq (b := 6) (by omega) (by omega)).mp z
    rw [if_pos q1, if_pos he] at h; exact h S hK0 oC.rf
  · rw [if_neg z] at h; exact h S hK0 oC.rf
/-- counts are others -/
theorem mK_n {S' : zS} {ro' jo' fr' se' : List T3} (hK : mK (t0, t1, g, c, ro, jo, fr, se, fo, le, it, la) S) (ho : ∀ j, j ≠ 72 → S' j = S j) (hf : ∀ i, i ≠ 12 → i ≠ 16 → i ≠ 20 → i ≠ 45 → S' 72 i = S 72 i) (hr : S' 72 12 = nI ro'.length) (hj : S' 72 16 = nI jo'.length) (hfr : S' 72 20 = nI fr'.length) (hs : S' 72 45 = nI se'.length) (pr : ∀ (i : Nat) (e : T3), ro'[i]? = some e → ro[i]? = some e) (pj : ∀ (i : Nat) (e : T3), jo'[i]? = some e → jo[i]? = some e) (pf : ∀ (i : Nat) (e : T3), fr'[i]? = some e → fr[i]? = some e) (ps : ∀ (i : Nat) (e : T3), se'[i]? = some e → se[i]? = some e) (hl : ro'.length ≤ ro.length ∧ jo'.length ≤ jo.length ∧ fr'.length ≤ fr.length ∧ se'.length ≤ se.length) : mK (t0, t1, g, c, ro', jo', fr', se', fo, le, it, la) S' := by
  obtain ⟨h1, ⟨⟨w1, w2, w3, w4⟩, e1, e2, e3, e4⟩, h3, ⟨x0, x1⟩, ⟨h6, h7⟩, h8, h9, h10, h11, h12⟩ := hK
  have mem : ∀ {l l' : List T3}, (∀ (i : Nat) (e : T3), l'[i]? = some e → l[i]? = some e) → ∀ e ∈ l', e ∈ l := by
    intro l l' hp e he
    obtain ⟨i, hi⟩ := List.getElem?_of_mem he
    exact List.mem_of_getElem? (hp i e hi)
  refine ⟨h1, ⟨⟨by omega, by omega, by omega, by omega⟩, fun e he => e1 e (mem pr e he), fun e he => e2 e (mem pj e he), fun e he => e3 e (mem pf e he), fun e he => e4 e (mem ps e he)⟩, h3, ⟨x0.keep (ho _ (by omega)) (ho _ (by omega)), x1.keep (ho _ (by omega)) (ho _ (by omega))⟩, ⟨by rw [hf _ (by omega) (by omega) (by omega) (by omega)]; exact h6, by rw [hf _ (by omega) (by omega) (by omega) (by omega)]; exact h7⟩, ⟨fun i e he => ?_, hr⟩, ⟨fun i e he => ?_, hj⟩, ⟨fun i e he => ?_, hfr⟩, ⟨fun i e he => ?_, hs⟩, h12.keep (ho _ (by omega)) (ho _ (by omega)) (ho _ (by omega)) (ho _ (by omega)) (hf _ (by omega) (by omega) (by omega) (by omega))⟩
  · rw [ho _ (by omega), ho _ (by omega), ho _ (by omega)]; exact h8.1 i e (pr i e he)
  · rw [ho _ (by omega), ho _ (by omega), ho _ (by omega)]; exact h9.1 i e (pj i e he)
  · rw [ho _ (by omega)]; exact h10.1 i e (pf i e he)
  · rw [ho _ (by omega), ho _ (by omega), ho _ (by omega)]; exact h11.1 i e (ps i e he)
theorem dl_at {l : List T3} {i : Nat} {e : T3} (h : l.dropLast[i]? = some e) : l[i]? = some e := by
  have hi : i < l.dropLast.length := (List.getElem?_eq_some_iff.mp h).1
  rw [List.length_dropLast] at hi
  rw [List.getElem?_dropLast, if_pos hi] at h
  exact h
theorem forget_m (hK : mK (t0, t1, g, c, ro, jo, fr, se, fo, le, it, la) S) (h : ∀ S', mK (uForget (t0, t1, g, c, ro, jo, fr, se, fo, le, it, la)).2 S' → oC S S' → P (uForget (t0, t1, g, c, ro, jo, fr, se, fo, le, it, la)).1 S' L) : zCi mX11_forget S L [.ref 72] P := by
  have hK0 := hK
  obtain ⟨h1, ⟨⟨w1, w2, w3, w4⟩, e1, e2, e3, e4⟩, h3, ⟨x0, x1⟩, ⟨h6, h7⟩, h8, h9, h10, h11, h12⟩ := hK
  simp only [uForget] at h
  refine e_X11_forget (fun X => b_X11_forget_0 (fun y1 ey1 S1 f1 => ?_))
  rw [ey1, h11.2]
  have k72 : S1 72 = upd (S 72) 45 0 := by rw [f1, zc_eq]
  have f : ∀ i, i ≠ 45 → S1 72 i = S 72 i := fun i hi => by rw [k72, upd, if_neg hi]
  refine h S1 (mK_n hK0 (fun j hj => by rw [f1, zc_ne _ _ hj]) (fun i _ _ _ d => f i d) (by rw [f _ (by omega)]; exact h8.2) (by rw [f _ (by omega)]; exact h9.2) (by rw [f _ (by omega)]; exact h10.2) (by rw [k72, upd, if_pos rfl]; rfl) (fun _ _ q => q) (fun _ _ q => q) (fun _ _ q => q) (fun i e he => by simp at he) ⟨Nat.le_refl _, Nat.le_refl _, Nat.le_refl _, by simp⟩) (fun j hj => by rw [f1, zc_ne _ _ (by omega)])
theorem back_m {w : Int32} (hK : mK (t0, t1, g, c, ro, jo, fr, se, fo, le, it, la) S) (h : ∀ S', mK (uBack w (t0, t1, g, c, ro, jo, fr, se, fo, le, it, la)).2 S' → oC S S' → P (uBack w (t0, t1, g, c, ro, jo, fr, se, fo, le, it, la)).1 S' L) : zCi mX11_back S L [.ref 72, .int w] P := by
  have hK0 := hK
  obtain ⟨h1, ⟨⟨w1, w2, w3, w4⟩, e1, e2, e3, e4⟩, h3, ⟨x0, x1⟩, ⟨h6, h7⟩, h8, h9, h10, h11, h12⟩ := hK
  simp only [uBack] at h
  -- the end
  have e80 : ∀ X S1 v2 w2 w1, (∀ j, j ≠ 72 → S1 j = S j) → (∀ S2 : zS, S2 72 = upd (upd (S1 72) 16 (w1 - w2)) 20 (S1 72 20 - (if w = 2 then 1 else 0)) → (∀ j, j ≠ 72 → S2 j = S j) → P (v2 - 1) S2 L) → zU mX11_back X S1 L 80 [some (.ref 72), some (.int w), some (.int v2)] [.int w2, .int w1, .ref 72] (zpi P) := by
    intro X S1 v2 w2 w1 o1 K
    refine b_X11_back_80 (fun S2 f2 => ?_)
    have a20 : S2 72 20 = S1 72 20 := by rw [f2, zc_eq, upd, if_neg (by omega)]
    refine ⟨fun z S3 f3 => K S3 ?_ (fun j hj => by rw [f3, zc_ne _ _ hj, f2, zc_ne _ _ hj]; exact o1 j hj), fun z S3 f3 => K S3 ?_ (fun j hj => by rw [f3, zc_ne _ _ hj, f2, zc_ne _ _ hj]; exact o1 j hj)⟩
    · rw [if_neg z, f3, zc_eq, a20, f2, zc_eq]
    · rw [if_pos z, f3, zc_eq, a20, f2, zc_eq]
  have e61 : ∀ X v2 w2, w2 = (if w = 0 then (1 : Int32) else 0) → (∀ S2 : zS, S2 72 = upd (upd (upd (S 72) 12 (nI ro.length - (if w = 0 then 1 else 0))) 16 (nI jo.length - (if w = 1 then 1 else 0))) 20 (nI fr.length - (if w = 2 then 1 else 0)) → (∀ j, j ≠ 72 → S2 j = S j) → P (v2 - 1) S2 L) → zU mX11_back X S L 61 [some (.ref 72), some (.int w), some (.int v2)] [.int w2, .int (nI ro.length), .ref 72] (zpi P) := by
    intro X v2 w2 hw2 K
    rw [← hw2] at K
    refine b_X11_back_61 (fun S1 f1 => ?_)
    have o1 : ∀ j, j ≠ 72 → S1 j = S j := fun j hj => by rw [f1, zc_ne _ _ hj]
    have k72 : S1 72 = upd (S 72) 12 (nI ro.length - w2) := by rw [f1, zc_eq]
    have a16 : S1 72 16 = nI jo.length := by rw [k72, upd, if_neg (by omega)]; exact h9.2
    have a20 : S1 72 20 = nI fr.length := by rw [k72, upd, if_neg (by omega)]; exact h10.2
    rw [a16]
    refine ⟨fun z => e80 X S1 _ _ _ o1 (fun S2 p q => K S2 ?_ q), fun z => e80 X S1 _ _ _ o1 (fun S2 p q => K S2 ?_ q)⟩
    · rw [if_neg z, p, a20, k72]
    · rw [if_pos z, p, a20, k72]
  have e39 : ∀ X w0, ¬ w0 = 0 → (∀ S2 : zS, S2 72 = upd (upd (upd (S 72) 12 (nI ro.length - (if w = 0 then 1 else 0))) 16 (nI jo.length - (if w = 1 then 1 else 0))) 20 (nI fr.length - (if w = 2 then 1 else 0)) → (∀ j, j ≠ 72 → S2 j = S j) → P (w0 - 1) S2 L) → zU mX11_back X S L 39 [some (.ref 72), some (.int w), none] [.int w0] (zpi P) := by
    intro X w0 hw0 K
    refine b_X11_back_39 ?_
    rw [h8.2]
    exact ⟨fun _ => ⟨fun z => e61 X _ _ (by rw [if_neg z]) K, fun z => e61 X _ _ (by rw [if_pos z]) K⟩, fun z => absurd z hw0⟩
  have e39n : ∀ X, P (-3) S L → zU mX11_back X S L 39 [some (.ref 72), some (.int w), none] [.int 0] (zpi P) := fun X hp => b_X11_back_39 ⟨fun z => absurd rfl z, fun _ => hp⟩
  refine e_X11_back (fun X => b_X11_back_0 ?_)
  rw [h8.2, h9.2, h10.2]
  refine ⟨fun q1 => ⟨fun z0 => ⟨fun z1 => ?_, fun z1 => ?_⟩, fun z0 => ?_⟩, fun q1 => ?_⟩
  · have hw2 : w = 2 := by
      obtain ⟨j, hj, rfl⟩ := rng_lit (n := 2) rfl (by omega) q1
      have : j = 0 ∨ j = 1 ∨ j = 2 := by omega
      rcases this with rfl | rfl | rfl
      · exact absurd (by decide) z0
      · exact absurd (by decide) z1
      · rfl
    rw [if_pos q1, if_neg z0, if_neg z1] at h
    by_cases he : fr = []
    · rw [if_pos he] at h
      rw [(nil_0 (by omega)).mpr he]
      exact e39n X (h S hK0 oC.rf)
    · rw [if_neg he] at h
      refine e39 X _ (fun z => he ((nil_0 (by omega)).mp z)) (fun S2 k1 k2 => ?_)
      rw [if_neg z0, if_neg z1, if_pos hw2, Int32.sub_zero, Int32.sub_zero, sub1 he] at k1
      rw [sub1 he]
      refine h S2 (mK_n hK0 k2 (fun i a b d _ => by rw [k1, upd, if_neg d, upd, if_neg b, upd, if_neg a]) (by rw [k1]; simp [upd]) (by rw [k1]; simp [upd]) (by rw [k1]; simp [upd]) (by rw [k1, upd, if_neg (by omega), upd, if_neg (by omega), upd, if_neg (by omega)]; exact h11.2) (fun _ _ q => q) (fun _ _ q => q) (fun _ _ q => dl_at q) (fun _ _ q => q) ⟨Nat.le_refl _, Nat.le_refl _, by simp, Nat.le_refl _⟩) (fun j hj => k2 j (by omega))
  · rw [if_pos q1, if_neg z0, if_pos z1] at h
    by_cases he : jo = []
    · rw [if_pos he] at h
      rw [(nil_0 (by omega)).mpr he]
      exact e39n X (h S hK0 oC.rf)
    · rw [if_neg he] at h
      have n2 : ¬ w = 2 := fun y => absurd (z1.symm.trans y) (by decide)
      refine e39 X _ (fun z => he ((nil_0 (by omega)).mp z)) (fun S2 k1 k2 => ?_)
      rw [if_neg z0, if_pos z1, if_neg n2, Int32.sub_zero, Int32.sub_zero, sub1 he] at k1
      rw [sub1 he]
      refine h S2 (mK_n hK0 k2 (fun i a b d _ => by rw [k1, upd, if_neg d, upd, if_neg b, upd, if_neg a]) (by rw [k1]; simp [upd]) (by rw [k1]; simp [upd]) (by rw [k1]; simp [upd]) (by rw [k1, upd, if_neg (by omega), upd, if_neg (by omega), upd, if_neg (by omega)]; exact h11.2) (fun _ _ q => q) (fun _ _ q => dl_at q) (fun _ _ q => q) (fun _ _ q => q) ⟨Nat.le_refl _, by simp, Nat.le_refl _, Nat.le_refl _⟩) (fun j hj => k2 j (by omega))
  · rw [if_pos q1, if_pos z0] at h
    by_cases he : ro = []
    · rw [if_pos he] at h
      rw [(nil_0 (by omega)).mpr he]
      exact e39n X (h S hK0 oC.rf)
    · rw [if_neg he] at h
      have n1 : ¬ w = 1 := fun y => absurd (z0.symm.trans y) (by decide)
      have n2 : ¬ w = 2 := fun y => absurd (z0.symm.trans y) (by decide)
      refine e39 X _ (fun z => he ((nil_0 (by omega)).mp z)) (fun S2 k1 k2 => ?_)
      rw [if_pos z0, if_neg n1, if_neg n2, Int32.sub_zero, Int32.sub_zero, sub1 he] at k1
      rw [sub1 he]
      refine h S2 (mK_n hK0 k2 (fun i a b d _ => by rw [k1, upd, if_neg d, upd, if_neg b, upd, if_neg a]) (by rw [k1]; simp [upd]) (by rw [k1]; simp [upd]) (by rw [k1]; simp [upd]) (by rw [k1, upd, if_neg (by omega), upd, if_neg (by omega), upd, if_neg (by omega)]; exact h11.2) (fun _ _ q => dl_at q) (fun _ _ q => q) (fun _ _ q => q) (fun _ _ q => q) ⟨by simp, Nat.le_refl _, Nat.le_refl _, Nat.le_refl _⟩) (fun j hj => k2 j (by omega))
  · rw [if_neg q1] at h; exact h S hK0 oC.rf
end MU
