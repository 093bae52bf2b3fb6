/-! PLANS OF THE REFERENCE -/
theorem pFl_none {b : Int32} : ∀ (l : List T3) (i : Nat), (∀ k, k < l.length → bt b (i + k) = false) → pFl b i l = l
  | [], _, _ => rfl
  | e :: l, i, h => by
    have h0 := h 0 (by simp)
    rw [Nat.add_zero] at h0
    rw [pFl, if_neg (by rw [h0]; decide), pFl_none l (i + 1) (fun k hk => by rw [show i + 1 + k = i + (k + 1) by omega]; exact h (k + 1) (by simp; omega))]
theorem pFl_one {b : Int32} : ∀ (l : List T3) (i a : Nat), a < l.length → (∀ k, k < l.length → bt b (i + k) = decide (k = a)) → pFl b i l = l.eraseIdx a
  | [], _, _, ha, _ => by simp at ha
  | e :: l, i, 0, _, h => by
    have h0 := h 0 (by simp)
    rw [Nat.add_zero] at h0
    rw [pFl, if_pos (by rw [h0]; decide), List.eraseIdx_cons_zero]
    exact pFl_none l (i + 1) (fun k hk => by rw [show i + 1 + k = i + (k + 1) by omega, h (k + 1) (by simp; omega)]; simp)
  | e :: l, i, a + 1, ha, h => by
    have h0 := h 0 (by simp)
    rw [Nat.add_zero] at h0
    rw [pFl, if_neg (by rw [h0]; simp), List.eraseIdx_cons_succ, pFl_one l (i + 1) a (by simp at ha; omega) (fun k hk => by rw [show i + 1 + k = i + (k + 1) by omega, h (k + 1) (by simp; omega)]; simp)]
theorem pFl_two {b : Int32} : ∀ (l : List T3) (i a d : Nat), a < d → d < l.length → (∀ k, k < l.length → bt b (i + k) = (decide (k = a) || decide (k = d))) → pFl b i l = (l.eraseIdx d).eraseIdx a
  | [], _, _, _, _, hd, _ => by simp at hd
  | e :: l, i, 0, 0, had, _, _ => absurd had (by omega)
  | e :: l, i, 0, d + 1, _, hd, h => by
    have h0 := h 0 (by simp)
    rw [Nat.add_zero] at h0
    rw [pFl, if_pos (by rw [h0]; simp), List.eraseIdx_cons_succ, List.eraseIdx_cons_zero]
    exact pFl_one l (i + 1) d (by simp at hd; omega) (fun k hk => by rw [show i + 1 + k = i + (k + 1) by omega, h (k + 1) (by simp; omega)]; simp)
  | e :: l, i, a + 1, 0, had, _, _ => absurd had (by omega)
  | e :: l, i, a + 1, d + 1, had, hd, h => by
    have h0 := h 0 (by simp)
    rw [Nat.add_zero] at h0
    rw [pFl, if_neg (by rw [h0]; simp), List.eraseIdx_cons_succ, List.eraseIdx_cons_succ, pFl_two l (i + 1) a d (by omega) (by simp at hd; omega) (fun k hk => by rw [show i + 1 + k = i + (k + 1) by omega, h (k + 1) (by simp; omega)]; simp)]
theorem pFl_c0 {l : List T3} : pFl 0 0 l = chO l (-1, -1) := by
  rw [pFl_0, chO, rmI, if_pos (show (-1 : Int32) < 0 by decide), rmI, if_pos (show (-1 : Int32) < 0 by decide)]
theorem pFl_c1 {l : List T3} {a : Nat} (ha : a < l.length) (hl : l.length ≤ 10) : pFl ((1 : Int32) <<< (nI a &&& 31)) 0 l = chO l (nI a, -1) := by
  rw [chO, rmI, if_neg (nI_pos (by omega)), rmI, if_pos (show (-1 : Int32) < 0 by decide), cl_nI (by omega)]
  exact pFl_one l 0 a ha (fun k hk => by rw [Nat.zero_add, b_one (by omega) (by omega)])
theorem pFl_c2 {l : List T3} {a d : Nat} (had : a < d) (hd : d < l.length) (hl : l.length ≤ 10) : pFl (((1 : Int32) <<< (nI a &&& 31)) ||| ((1 : Int32) <<< (nI d &&& 31))) 0 l = chO l (nI a, nI d) := by
  rw [chO, rmI, if_neg (nI_pos (by omega)), rmI, if_neg (nI_pos (by omega)), cl_nI (by omega), cl_nI (by omega)]
  exact pFl_two l 0 a d had hd (fun k hk => by rw [Nat.zero_add, b_or, b_one (by omega) (by omega), b_one (by omega) (by omega)])
section MP
variable {t0 t1 : List Int32} {g c : Int32} {ro jo fr se : List T3} {fo le it : pF} {la : Int32} {S : zS} {L : zL} {P : Int32 → zS → zL → Prop} {X : Nat × (Nat → Int32)}
theorem mI_of {nd nr fb : Int32} (hK : mK (t0, t1, g, c, ro, jo, fr, se, fo, le, it, la) S) (hT : mT (tL 0 t0) (tL 3 t1) S) (h1 : S 72 22 = nd) (h2 : S 72 23 = nr) (h3 : S 72 24 = fb) : mI S (tL 0 t0) (tL 3 t1) ro jo nd nr fb g c := by
  obtain ⟨-, -, -, -, ⟨g1, g2⟩, r1, r2, -⟩ := hK
  exact ⟨hT.1, hT.2, r1, r2, h1, h2, h3, g1, g2⟩
theorem mworth_l {np : Nat} {s : pZ} (hZ : mZ S np s) : ∀ (d i : Nat) (a : Int32), i + d = 4 → P ((List.range' i d).foldl (pWr1 s.1) a) S L → zU mX11_worthAll X S L 4 [some (.ref 72), some (.int a), some (.int (nI i))] [] (zpi P) := by
  intro d
  induction d with
  | zero =>
    intro i a hd h
    exact b_X11_worthAll_4 ⟨fun _ => h, fun q => absurd (nI_le (a := 4) (by omega) (by omega)) q⟩
  | succ d ih =>
    intro i a hd h
    rw [List.range'_succ, List.foldl_cons] at h
    refine b_X11_worthAll_4 ⟨fun q => absurd q (nI_ge (b := 4) (by omega) (by omega)), fun _ => ?_⟩
    rw [cl_nI (by omega), (hZ.2.1 i (by omega)).2]
    refine ⟨vp_in_nI (by omega) (by omega), fun x1 e1 x2 e2 => ?_⟩
    rw [e2, nI_1, e1]; exact ih (i + 1) _ (by omega) h
theorem mworth_s {np : Nat} {s : pZ} (hZ : mZ S np s) (h : P (pWr s.1) S L) : zCi mX11_worthAll S L [.ref 72] P := by
  refine e_X11_worthAll (fun X => b_X11_worthAll_0 (mworth_l hZ 4 0 0 (by omega) ?_))
  rw [← List.range_eq_range']; exact h
/-! the round that brings most -/
theorem fK_lt {pe de ro jo fr : List T3} {g c pace : Int32} : ∀ k, (fK pe de ro jo fr g c pace k).1 ≤ k
  | 0 => Nat.le_refl _
  | k + 1 => by
    rw [fK_succ, pPk1]
    split
    · exact Nat.le_succ k
    · exact Nat.le_trans (fK_lt k) (Nat.le_succ k)
abbrev tld (S : zS) (n : Nat) : zS := zc S 72 (upd (S 72) 12 (nI n))
def PI (σ : sg) (pe de ro : List T3) (pace : Int32) (S0 S : zS) : Prop := mK σ (tld S ro.length) ∧ mT pe de S ∧ S 72 12 = nI (ro.length + 1) ∧ S 72 22 = 0 ∧ S 72 23 = 0 ∧ S 72 24 = S0 72 24 ∧ S 83 ro.length = pace ∧ oC S0 S
theorem tld_o {n j : Nat} (h : j ≠ 72) : tld S n j = S j := zc_ne _ _ h
theorem tld_f {n i : Nat} (h : i ≠ 12) : tld S n 72 i = S 72 i := by unfold tld; rw [zc_eq, upd, if_neg h]
theorem plan_l {pc : Nat} {w : Int32} {S0 : zS} (hW : xW (tL 0 t0) (tL 3 t1) ro jo fr) (hl : ro.length ≤ 8) (hp : pc ≤ 4) (hfb : S0 72 24 = pMk fr 0) (h : ∀ S', mK (t0, t1, g, c, ro, jo, fr, se, fo, le, it, la) S' → mT (tL 0 t0) (tL 3 t1) S' → oC S0 S' → P (if w = 0 then nI ((pPk (tL 0 t0) (tL 3 t1) ro jo fr g c (nI pc)).1 / 4) else if w = 1 then nI ((pPk (tL 0 t0) (tL 3 t1) ro jo fr g c (nI pc)).1 % 4) else (pPk (tL 0 t0) (tL 3 t1) ro jo fr g c (nI pc)).2) S' L) : ∀ (d k : Nat) (S : zS) (b : Int32), k + d = 96 → PI (t0, t1, g, c, ro, jo, fr, se, fo, le, it, la) (tL 0 t0) (tL 3 t1) ro (nI pc) S0 S → b = (if k = 0 then -1 else nI (fK (tL 0 t0) (tL 3 t1) ro jo fr g c (nI pc) k).1) → zU mX11_planOf X S L 35 [some (.ref 72), none, some (.int w), some (.int (nI ro.length)), some (.int b), some (.int (fK (tL 0 t0) (tL 3 t1) ro jo fr g c (nI pc) k).2), some (.int (nI k)), none] [] (zpi P) := by
  intro d
  induction d with
  | zero =>
    intro k S b hd hI hb
    have : k = 96 := by omega
    subst this
    obtain ⟨i1, i2, i3, i4, i5, i6, i7, i8⟩ := hI
    rw [if_neg (by omega)] at hb
    have h96 := fK_lt (pe := tL 0 t0) (de := tL 3 t1) (ro := ro) (jo := jo) (fr := fr) (g := g) (c := c) (pace := nI pc) 96
    have e1 : b / (4 : Int32) = nI ((fK (tL 0 t0) (tL 3 t1) ro jo fr g c (nI pc) 96).1 / 4) := by rw [hb, show (4 : Int32) = nI 4 by decide, pk_div (by omega) (by omega) (by omega)]
    have e2 : b - b / (4 : Int32) * (4 : Int32) = nI ((fK (tL 0 t0) (tL 3 t1) ro jo fr g c (nI pc) 96).1 % 4) := by rw [hb]; exact rem4 (by omega)
    refine b_X11_planOf_35 ⟨fun _ S1 f1 => ?_, fun z => absurd (by decide) z⟩
    have hS1 : S1 = tld S ro.length := f1
    rw [e2, e1]
    have hh := h S1 (by rw [hS1]; exact i1) (by rw [hS1]; exact ⟨i2.1.keep (tld_o (by omega)) (tld_o (by omega)) (tld_o (by omega)) (tld_f (by omega)), i2.2.keep (tld_o (by omega)) (tld_o (by omega)) (tld_o (by omega)) (tld_f (by omega))⟩) (i8.trans (fun j hj => by rw [hS1]; exact tld_o (by omega)))
    refine ⟨fun z => ⟨fun z1 => ?_, fun z1 => ?_⟩, fun z => ?_⟩
    · rw [if_neg z, if_neg z1] at hh; exact hh
    · rw [if_neg z, if_pos z1] at hh; exact hh
    · rw [if_pos z] at hh; exact hh
  | succ d ih =>
    intro k S b hd hI hb
    obtain ⟨i1, i2, i3, i4, i5, i6, i7, i8⟩ := hI
    refine b_X11_planOf_35 ⟨fun z => absurd z (nI_ge (b := 96) (by omega) (by omega)), fun _ => ?_⟩
    rw [cl_nI (by omega), rem4 (by omega), show nI k / (4 : Int32) = nI (k / 4) by rw [show (4 : Int32) = nI 4 by decide, pk_div (by omega) (by omega) (by omega)]]
    refine ⟨vp_in_nI (by omega) (by omega), fun S1 f1 => ⟨vp_in_nI (by omega) (by omega), fun S2 f2 => ?_⟩⟩
    have o2 : ∀ j, j ≠ 81 → j ≠ 82 → S2 j = S j := fun j p q => by rw [f2, zc_ne _ _ q, f1, zc_ne _ _ p]
    have h81 : S2 81 = upd (S 81) ro.length (nI (k / 4)) := by rw [f2, zc_ne _ _ (by omega), f1, zc_eq]
    have h82 : S2 82 = upd (S 82) ro.length (nI (k % 4)) := by rw [f2, zc_eq, f1, zc_ne _ _ (by omega)]
    have h72 : S2 72 = S 72 := o2 72 (by omega) (by omega)
    -- the reference's own rows stay
    have k2 : mK (t0, t1, g, c, ro, jo, fr, se, fo, le, it, la) (tld S2 ro.length) := by
      obtain ⟨j1, j2, j3, ⟨j4, j5⟩, ⟨j6, j7⟩, ⟨j8, j8'⟩, j9, j10, j11, j12⟩ := i1
      have ot : ∀ j, j ≠ 81 → j ≠ 82 → tld S2 ro.length j = tld S ro.length j := by
        intro j p q
        by_cases hj : j = 72
        · subst hj; unfold tld; rw [zc_eq, zc_eq, h72]
        · rw [tld_o hj, tld_o hj, o2 j p q]
      refine ⟨j1, j2, j3, ⟨j4.keep (ot _ (by omega) (by omega)) (ot _ (by omega) (by omega)), j5.keep (ot _ (by omega) (by omega)) (ot _ (by omega) (by omega))⟩, ⟨by rw [ot 72 (by omega) (by omega)]; exact j6, by rw [ot 72 (by omega) (by omega)]; exact j7⟩, ⟨fun i e he => ?_, by rw [ot 72 (by omega) (by omega)]; exact j8'⟩, j9.keep (ot _ (by omega) (by omega)) (ot _ (by omega) (by omega)) (ot _ (by omega) (by omega)) (by rw [ot 72 (by omega) (by omega)]), j10.keep (ot _ (by omega) (by omega)) (by rw [ot 72 (by omega) (by omega)]), j11.keep (ot _ (by omega) (by omega)) (ot _ (by omega) (by omega)) (ot _ (by omega) (by omega)) (by rw [ot 72 (by omega) (by omega)]), j12.keep (ot _ (by omega) (by omega)) (ot _ (by omega) (by omega)) (ot _ (by omega) (by omega)) (ot _ (by omega) (by omega)) (by rw [ot 72 (by omega) (by omega)])⟩
      have hi : i < ro.length := (List.getElem?_eq_some_iff.mp he).1
      obtain ⟨q1, q2, q3⟩ := j8 i e he
      rw [tld_o (by omega)] at q1 q2 q3
      rw [tld_o (by omega), tld_o (by omega), tld_o (by omega), h81, h82, o2 83 (by omega) (by omega), upd, if_neg (by omega), upd, if_neg (by omega)]
      exact ⟨q1, q2, q3⟩
    have hT2 : mT (tL 0 t0) (tL 3 t1) S2 := ⟨i2.1.keep (o2 _ (by omega) (by omega)) (o2 _ (by omega) (by omega)) (o2 _ (by omega) (by omega)) (by rw [h72]), i2.2.keep (o2 _ (by omega) (by omega)) (o2 _ (by omega) (by omega)) (o2 _ (by omega) (by omega)) (by rw [h72])⟩
    have hmI : mI S2 (tL 0 t0) (tL 3 t1) (ro ++ [(nI (k / 4), nI (k % 4), nI pc)]) jo 0 0 (pMk fr 0) g c := by
      obtain ⟨-, -, -, -, ⟨j6, j7⟩, ⟨j8, -⟩, ⟨j9, j9'⟩, -⟩ := i1
      rw [tld_f (by omega)] at j6 j7 j9'
      refine ⟨hT2.1, hT2.2, ⟨fun i e he => ?_, by rw [h72, i3]; simp⟩, ⟨fun i e he => ?_, by rw [h72]; exact j9'⟩, by rw [h72]; exact i4, by rw [h72]; exact i5, by rw [h72, i6]; exact hfb, by rw [h72]; exact j6, by rw [h72]; exact j7⟩
      · rw [h81, h82, o2 83 (by omega) (by omega)]
        by_cases hi : i < ro.length
        · rw [List.getElem?_append_left hi] at he
          obtain ⟨q1, q2, q3⟩ := j8 i e he
          rw [tld_o (by omega)] at q1 q2 q3
          rw [upd, if_neg (by omega), upd, if_neg (by omega)]
          exact ⟨q1, q2, q3⟩
        · rw [List.getElem?_append_right (by omega)] at he
          have hz : i - ro.length < 1 := (List.getElem?_eq_some_iff.mp he).1
          have : i = ro.length := by omega
          subst this
          simp at he
          subst he
          exact ⟨by simp [upd], by simp [upd], i7⟩
      · obtain ⟨q1, q2, q3⟩ := j9 i e he
        rw [tld_o (by omega)] at q1 q2 q3
        rw [o2 _ (by omega) (by omega), o2 _ (by omega) (by omega), o2 _ (by omega) (by omega)]
        exact ⟨q1, q2, q3⟩
    have hW2 := xW_more (q := k % 4) hW hl (show k / 4 < 24 by omega) hp
    refine runs_s hW2.m hmI (fun S3 hZ hR hG => ?_)
    simp only [mC, pFl_0] at hZ
    refine mworth_s hZ ?_
    have g72 : ∀ i, i < 30 → S3 72 i = S2 72 i := fun i hi => hG.2 i (Or.inl hi)
    have hI3 : PI (t0, t1, g, c, ro, jo, fr, se, fo, le, it, la) (tL 0 t0) (tL 3 t1) ro (nI pc) S0 S3 := by
      refine ⟨mK.keep k2 ⟨fun j p q => ?_, fun i p q r s => ?_⟩, hT2.keep hG, by rw [g72 _ (by omega), h72]; exact i3, by rw [g72 _ (by omega), h72]; exact i4, by rw [g72 _ (by omega), h72]; exact i5, by rw [g72 _ (by omega), h72]; exact i6, by rw [hG.1 83 (by omega) (by omega), o2 83 (by omega) (by omega)]; exact i7, i8.trans (fun j hj => by rw [hG.1 j (by omega) (by omega), o2 j (by omega) (by omega)])⟩
      · rw [tld_o p, tld_o p]; exact hG.1 j p (by omega)
      · by_cases hi : i = 12
        · subst hi; unfold tld; rw [zc_eq, zc_eq, upd, if_pos rfl, upd, if_pos rfl]
        · rw [tld_f hi, tld_f hi]; exact hG.2 i s
    have hs := fK_succ (pe := tL 0 t0) (de := tL 3 t1) (ro := ro) (jo := jo) (fr := fr) (g := g) (c := c) (pace := nI pc) (k := k)
    rw [pPk1] at hs
    have hpos := pWr_b (fb := pMk fr 0) (g := g) (c := c) hW2
    refine ⟨fun z => b_X11_planOf_86 ⟨fun _ x1 ex1 => ?_, fun y => absurd z y⟩, fun z => b_X11_planOf_86 ⟨fun y => absurd y z, fun _ x1 ex1 => ?_⟩⟩
    · rw [if_neg (i32_nlt z)] at hs
      have hk0 : ¬ k = 0 := by
        intro y
        subst y
        have : (fK (tL 0 t0) (tL 3 t1) ro jo fr g c (nI pc) 0).2 = -1 := rfl
        rw [this] at z
        exact i32_nle (n1_lt hpos) z
      rw [ex1, nI_1]
      have := ih (k + 1) S3 b (by omega) hI3 (by rw [hs, hb, if_neg hk0, if_neg (by omega)])
      rw [hs] at this
      exact this
    · rw [if_pos (i32_lt z)] at hs
      rw [ex1, nI_1]
      have := ih (k + 1) S3 (nI k) (by omega) hI3 (by rw [hs, if_neg (by omega)])
      rw [hs] at this
      exact this
theorem planOf_m {pc : Nat} {w : Int32} (hK : mK (t0, t1, g, c, ro, jo, fr, se, fo, le, it, la) S) (hp : pc ≤ 4) (h : ∀ S', mK (t0, t1, g, c, ro, jo, fr, se, fo, le, it, la) S' → mT (tL 0 t0) (tL 3 t1) S' → oC S S' → P (if w = 0 then nI ((pPk (tL 0 t0) (tL 3 t1) ro jo fr g c (nI pc)).1 / 4) else if w = 1 then nI ((pPk (tL 0 t0) (tL 3 t1) ro jo fr g c (nI pc)).1 % 4) else (pPk (tL 0 t0) (tL 3 t1) ro jo fr g c (nI pc)).2) S' L) : zCi mX11_planOf S L [.ref 72, .int (nI pc), .int w] P := by
  have hl := hK.2.1.1.1
  refine e_X11_planOf (fun X => b_X11_planOf_0 (asTold_m hK (fun S1 hK1 hI1 n1 y1 ey1 S2 f2 => ?_)))
  have h12 : S1 72 12 = nI ro.length := hI1.2.2.1.2
  rw [h12] at ey1 f2
  rw [ey1, cl_nI (by omega)]
  refine ⟨vp_in_nI (by omega) (by omega), fun S3 f3 => ?_⟩
  have h72 : S3 72 = upd (S1 72) 12 (nI (ro.length + 1)) := by rw [f3, zc_ne _ _ (by omega), f2, zc_eq, nI_1]
  have o3 : ∀ j, j ≠ 72 → j ≠ 83 → S3 j = S1 j := fun j p q => by rw [f3, zc_ne _ _ q, f2, zc_ne _ _ p]
  have h83 : S3 83 = upd (S1 83) ro.length (nI pc) := by rw [f3, zc_eq, f2, zc_ne _ _ (by omega)]
  have ff : ∀ i, i ≠ 12 → S3 72 i = S1 72 i := fun i hi => by rw [h72, upd, if_neg hi]
  refine plan_l (S0 := S3) hK.x hl hp (by rw [ff _ (by omega)]; exact hI1.2.2.2.2.2.2.1) (fun S' a b d => h S' a b ((n1.c.trans (fun j hj => o3 j (by omega) (by omega))).trans d)) 96 0 S3 (-1) (by omega) ⟨?_, ⟨⟨hI1.1.1.keep (o3 _ (by omega) (by omega)) (o3 _ (by omega) (by omega)) (o3 _ (by omega) (by omega)), by rw [ff _ (by omega)]; exact hI1.1.2⟩, ?_⟩, ?_, ?_, ?_, rfl, ?_, oC.rf⟩ rfl
  · obtain ⟨j1, j2, j3, ⟨j4, j5⟩, ⟨j6, j7⟩, ⟨j8, j8'⟩, j9, j10, j11, j12⟩ := hK1
    have ot : ∀ j, j ≠ 83 → tld S3 ro.length j = S1 j := by
      intro j p
      by_cases hj : j = 72
      · subst hj
        unfold tld
        rw [zc_eq, h72]
        funext i
        simp only [upd]
        split
        · rename_i hi; rw [hi]; exact h12.symm
        · rfl
      · rw [tld_o hj, o3 j hj p]
    refine ⟨j1, j2, j3, ⟨j4.keep (ot _ (by omega)) (ot _ (by omega)), j5.keep (ot _ (by omega)) (ot _ (by omega))⟩, ⟨by rw [ot 72 (by omega)]; exact j6, by rw [ot 72 (by omega)]; exact j7⟩, ⟨fun i e he => ?_, by rw [ot 72 (by omega)]; exact j8'⟩, j9.keep (ot _ (by omega)) (ot _ (by omega)) (ot _ (by omega)) (by rw [ot 72 (by omega)]), j10.keep (ot _ (by omega)) (by rw [ot 72 (by omega)]), j11.keep (ot _ (by omega)) (ot _ (by omega)) (ot _ (by omega)) (by rw [ot 72 (by omega)]), j12.keep (ot _ (by omega)) (ot _ (by omega)) (ot _ (by omega)) (ot _ (by omega)) (by rw [ot 72 (by omega)])⟩
    have hi : i < ro.length := (List.getElem?_eq_some_iff.mp he).1
    rw [ot _ (by omega), ot _ (by omega), tld_o (by omega), h83, upd, if_neg (by omega)]
    exact j8 i e he
  · exact ⟨hI1.2.1.1.keep (o3 _ (by omega) (by omega)) (o3 _ (by omega) (by omega)) (o3 _ (by omega) (by omega)), by rw [ff _ (by omega)]; exact hI1.2.1.2⟩
  · rw [h72, upd, if_pos rfl]
  · rw [ff _ (by omega)]; exact hI1.2.2.2.2.1
  · rw [ff _ (by omega)]; exact hI1.2.2.2.2.2.1
  · rw [h83, upd, if_pos rfl]
theorem plan_m {pace w : Int32} (hK : mK (t0, t1, g, c, ro, jo, fr, se, fo, le, it, la) S) (h : ∀ S', mK (t0, t1, g, c, ro, jo, fr, se, fo, le, it, la) S' → oC S S' → P (qPlan pace w (t0, t1, g, c, ro, jo, fr, se, fo, le, it, la)) S' L) : zCi mX11_plan S L [.ref 72, .int pace, .int w] P := by
  simp only [qPlan, aPlan] at h
  refine e_X11_plan (fun X => b_X11_plan_0 ⟨fun q1 => ⟨fun q2 => ?_, fun z => ?_⟩, fun z => ?_⟩)
  · rw [if_pos ⟨q1, q2⟩] at h
    obtain ⟨pc, h1, h2, rfl⟩ := rng_1 q1
    exact planOf_m hK h2 (fun S' a _ d => h S' a d)
  · rw [if_neg (fun y => z y.2)] at h; exact h S hK oC.rf
  · rw [if_neg (fun y => z y.1)] at h; exact h S hK oC.rf
end MP
