/-! WHERE ONE HAD BETTER BE, what had better not be: the reference -/
section MPB
variable {t0 t1 : List Int32} {g c : Int32} {ro jo fr se : List T3} {fo le it : pF} {la : Int32} {S : zS} {L : zL} {P : Int32 → zS → zL → Prop} {X : Nat × (Nat → Int32)}
theorem fH_lt {pe de ro jo fr : List T3} {g c : Int32} {p : Nat} : ∀ k, (fH pe de ro jo fr g c p k).1 ≤ k
  | 0 => Nat.le_refl _
  | k + 1 => by
    rw [fH_succ, pHm1]
    split
    · exact Nat.le_succ k
    · exact Nat.le_trans (fH_lt k) (Nat.le_succ k)
def HJ (σ : sg) (pe de ro jo : List T3) (fb g c : Int32) (p : Nat) (F : pF) (S0 S : zS) : Prop := mK σ S ∧ mI (zc S 76 F) pe de ro jo 0 0 fb g c ∧ (∃ x, S 76 = upd F p x) ∧ oC S0 S
theorem home_l {p : Nat} {w : Int32} {F : pF} {S0 : zS} (hW : xW (tL 0 t0) (tL 3 t1) ro jo fr) (hp : p < (tL 0 t0).length) (h : ∀ S', mK (t0, t1, g, c, ro, jo, fr, se, fo, le, it, la) S' → mT (tL 0 t0) (tL 3 t1) S' → oC S0 S' → P (if w = 0 then nI (pHm (tL 0 t0) (tL 3 t1) ro jo fr g c p).1 else (pHm (tL 0 t0) (tL 3 t1) ro jo fr g c p).2) S' L) : ∀ (d q : Nat) (S : zS) (b : Int32), q + d = 4 → HJ (t0, t1, g, c, ro, jo, fr, se, fo, le, it, la) (tL 0 t0) (tL 3 t1) ro jo (pMk fr 0) g c p F S0 S → b = (if q = 0 then -1 else nI (fH (tL 0 t0) (tL 3 t1) ro jo fr g c p q).1) → zU mX11_homeOf X S L 20 [some (.ref 72), some (.int (nI p)), some (.int w), some (.int (F p)), some (.int b), some (.int (fH (tL 0 t0) (tL 3 t1) ro jo fr g c p q).2), some (.int (nI q))] [] (zpi P) := by
  have hl := hW.1.1.1
  intro d
  induction d with
  | zero =>
    intro q S b hd hI hb
    have : q = 4 := by omega
    subst this
    obtain ⟨i1, i2, ⟨x, i3⟩, i4⟩ := hI
    rw [if_neg (by omega)] at hb
    refine b_X11_homeOf_20 ⟨fun _ => ?_, fun z => absurd (by decide) z⟩
    rw [cl_nI (by omega)]
    refine ⟨vp_in_nI (by omega) (by omega), fun S1 f1 => ?_⟩
    have hS1 : S1 = zc S 76 F := by
      rw [f1, i3]
      congr 1
      funext j
      simp only [upd]
      split
      · rename_i hj; rw [hj]
      · rfl
    have o1 : ∀ j, j ≠ 76 → S1 j = S j := fun j hj => by rw [hS1, zc_ne _ _ hj]
    have hh := h S1 (i1.keep ⟨fun j p q => o1 j (by omega), fun i _ _ _ _ => by rw [o1 72 (by omega)]⟩) (by rw [hS1]; exact i2.t) (i4.trans (fun j hj => o1 j (by omega)))
    rw [hb]
    refine ⟨fun z => ?_, fun z => ?_⟩
    · rw [if_neg z] at hh; exact hh
    · rw [if_pos z] at hh; exact hh
  | succ d ih =>
    intro q S b hd hI hb
    obtain ⟨i1, i2, ⟨x, i3⟩, i4⟩ := hI
    refine b_X11_homeOf_20 ⟨fun z => absurd z (nI_ge (b := 4) (by omega) (by omega)), fun _ => ?_⟩
    rw [cl_nI (by omega)]
    refine ⟨vp_in_nI (by omega) (by omega), fun S1 f1 => ?_⟩
    have o1 : ∀ j, j ≠ 76 → S1 j = S j := fun j hj => by rw [f1, zc_ne _ _ hj]
    have h76 : S1 76 = upd F p (nI q) := by
      rw [f1, zc_eq, i3]
      funext j
      simp only [upd]
      split
      · rfl
      · rfl
    have ho : ∀ j, j ≠ 76 → S1 j = (zc S 76 F) j := fun j hj => by rw [o1 j hj, zc_ne _ _ hj]
    have hmI : mI S1 ((tL 0 t0).set p (t3s ((tL 0 t0).getD p (0, 0, 0)) 1 (nI q))) (tL 3 t1) ro jo 0 0 (pMk fr 0) g c := by
      obtain ⟨⟨a1, a2⟩, ⟨b1, b2⟩, ⟨c1, c2⟩, ⟨d1, d2⟩, e1, e2, e3, e4, e5⟩ := i2
      have h72 : S1 72 = (zc S 76 F) 72 := ho 72 (by omega)
      refine ⟨⟨fun i e he => ?_, by rw [h72, List.length_set]; exact a2⟩, ⟨b1.keep (ho _ (by omega)) (ho _ (by omega)) (ho _ (by omega)), by rw [h72]; exact b2⟩, ⟨c1.keep (ho _ (by omega)) (ho _ (by omega)) (ho _ (by omega)), by rw [h72]; exact c2⟩, ⟨d1.keep (ho _ (by omega)) (ho _ (by omega)) (ho _ (by omega)), by rw [h72]; exact d2⟩, by rw [h72]; exact e1, by rw [h72]; exact e2, by rw [h72]; exact e3, by rw [h72]; exact e4, by rw [h72]; exact e5⟩
      rw [ho 75 (by omega), ho 77 (by omega), h76]
      by_cases hip : i = p
      · subst hip
        rw [List.getElem?_set_self hp] at he
        cases he
        obtain ⟨q1, q2, q3⟩ := a1 i _ (getD_at hp)
        exact ⟨q1, by simp [upd, t3s], q3⟩
      · rw [List.getElem?_set_ne (Ne.symm hip)] at he
        obtain ⟨q1, q2, q3⟩ := a1 i e he
        rw [zc_eq] at q2
        exact ⟨q1, by rw [upd, if_neg hip]; exact q2, q3⟩
    have hW2 := xW_home (q := q) hW hp (by omega)
    refine runs_s hW2.m hmI (fun S2 hZ hR hG => ?_)
    simp only [mC, pFl_0, List.length_set] at hZ
    have hs91 : S2 91 p = (pCf ((tL 0 t0).set p (t3s ((tL 0 t0).getD p (0, 0, 0)) 1 (nI q))) (tL 3 t1) ro jo fr g c 24).1 (33 + p) := (hZ.1 p hp).2.2.2.1
    rw [hs91]
    have hI2 : HJ (t0, t1, g, c, ro, jo, fr, se, fo, le, it, la) (tL 0 t0) (tL 3 t1) ro jo (pMk fr 0) g c p F S0 S2 := by
      refine ⟨i1.keep (nF.trans ⟨fun j p q => o1 j (by omega), fun i _ _ _ _ => by rw [o1 72 (by omega)]⟩ hG.n), i2.keepG ⟨fun j p q => ?_, fun i hi => ?_⟩, ⟨nI q, by rw [hG.1 76 (by omega) (by omega)]; exact h76⟩, i4.trans (fun j hj => by rw [hG.1 j (by omega) (by omega), o1 j (by omega)])⟩
      · by_cases hj : j = 76
        · subst hj; rw [zc_eq, zc_eq]
        · rw [zc_ne _ _ hj, zc_ne _ _ hj, hG.1 j p q, o1 j hj]
      · rw [zc_ne _ _ (by omega), zc_ne _ _ (by omega), hG.2 i hi, o1 72 (by omega)]
    have hs := fH_succ (pe := tL 0 t0) (de := tL 3 t1) (ro := ro) (jo := jo) (fr := fr) (g := g) (c := c) (p := p) (k := q)
    rw [pHm1] at hs
    have hpos := ((pBd_C (fb := pMk fr 0) (g := g) (c := c) hW2 24 (by omega)).2.2 (33 + p) (by omega) (by omega) (by omega)).1
    have e56 : ∀ {A B C : Prop}, vp_in (nI p) 8 ∧ A → A := fun h => h.2
    refine ⟨vp_in_nI (by omega) (by omega), fun z => b_X11_homeOf_56 ?_, fun z => b_X11_homeOf_56 ?_⟩
    · rw [cl_nI (by omega), hs91]
      refine ⟨vp_in_nI (by omega) (by omega), fun _ x1 ex1 => ?_, fun y => absurd z y⟩
      rw [if_neg (i32_nlt z)] at hs
      have hq0 : ¬ q = 0 := by
        intro y
        subst y
        have : (fH (tL 0 t0) (tL 3 t1) ro jo fr g c p 0).2 = -1 := rfl
        rw [this] at z
        exact i32_nle (n1_lt hpos) z
      rw [ex1, nI_1]
      have := ih (q + 1) S2 b (by omega) hI2 (by rw [hs, hb, if_neg hq0, if_neg (by omega)])
      rw [hs] at this
      exact this
    · rw [cl_nI (by omega), hs91]
      refine ⟨vp_in_nI (by omega) (by omega), fun y => absurd y z, fun _ => ⟨vp_in_nI (by omega) (by omega), fun x1 ex1 x2 ex2 => ?_⟩⟩
      rw [if_pos (i32_lt z)] at hs
      rw [ex2, nI_1, ex1]
      have := ih (q + 1) S2 (nI q) (by omega) hI2 (by rw [hs, if_neg (by omega)])
      rw [hs] at this
      exact this
theorem homeOf_m {p : Nat} {w : Int32} (hK : mK (t0, t1, g, c, ro, jo, fr, se, fo, le, it, la) S) (hp : p < (tL 0 t0).length) (h : ∀ S', mK (t0, t1, g, c, ro, jo, fr, se, fo, le, it, la) S' → mT (tL 0 t0) (tL 3 t1) S' → oC S S' → P (if w = 0 then nI (pHm (tL 0 t0) (tL 3 t1) ro jo fr g c p).1 else (pHm (tL 0 t0) (tL 3 t1) ro jo fr g c p).2) S' L) : zCi mX11_homeOf S L [.ref 72, .int (nI p), .int w] P := by
  have hl := hK.lp
  refine e_X11_homeOf (fun X => b_X11_homeOf_0 (asTold_m hK (fun S1 hK1 hI1 n1 => ?_)))
  rw [cl_nI (by omega)]
  refine ⟨vp_in_nI (by omega) (by omega), fun x1 ex1 => ?_⟩
  rw [ex1]
  refine home_l (F := S1 76) (S0 := S1) hK.x hp (fun S' a b d => h S' a b (n1.c.trans d)) 4 0 S1 (-1) (by omega) ⟨hK1, by rw [zc_self]; exact hI1, ⟨S1 76 p, (upd_same rfl).symm⟩, oC.rf⟩ rfl
theorem home_m {p w : Int32} (hK : mK (t0, t1, g, c, ro, jo, fr, se, fo, le, it, la) S) (h : ∀ S', mK (t0, t1, g, c, ro, jo, fr, se, fo, le, it, la) S' → oC S S' → P (qHome p w (t0, t1, g, c, ro, jo, fr, se, fo, le, it, la)) S' L) : zCi mX11_home S L [.ref 72, .int p, .int w] P := by
  simp only [qHome, aHome] at h
  have hl := hK.lp
  refine e_X11_home (fun X => b_X11_home_0 (isPerson_m hK (fun S1 hK1 hT1 o1 => ⟨fun z => ?_, fun z => ⟨fun q2 => ?_, fun q2 => ?_⟩⟩)))
  · rw [if_neg (fun y => if01 z y.1)] at h; exact h S1 hK1 o1
  · rw [if_pos ⟨if11 z, q2⟩] at h
    obtain ⟨p, hp, rfl⟩ := rng_ix (by omega) (if11 z)
    rw [cl_nI (by omega)] at h
    exact homeOf_m hK1 hp (fun S2 a _ d => h S2 a (o1.trans d))
  · rw [if_neg (fun y => q2 y.2)] at h; exact h S1 hK1 o1
/-! light, spare -/
theorem hi_l {Z : Nat → pZ} {p : Nat} {most : Int32} : ∀ (d m : Nat) (a : Int32), ¬ most < a → (¬ most < (List.range' m d).foldl (pHi1 Z p) a ↔ ∀ k, m ≤ k → k < m + d → ¬ most < (Z (k + 1)).1 p) := by
  intro d
  induction d with
  | zero => intro m a ha; exact ⟨fun _ k h1 h2 => by omega, fun _ => ha⟩
  | succ d ih =>
    intro m a ha
    rw [List.range'_succ, List.foldl_cons]
    by_cases hz : most < (Z (m + 1)).1 p
    · -- it stays above
      have stay : ∀ (d m : Nat) (a : Int32), most < a → most < (List.range' m d).foldl (pHi1 Z p) a := by
        intro d
        induction d with
        | zero => intro m a h; exact h
        | succ d ih2 =>
          intro m a h
          rw [List.range'_succ, List.foldl_cons]
          refine ih2 (m + 1) _ ?_
          unfold pHi1
          split
          · rename_i y; exact Int32.lt_trans h y
          · exact h
      have hb : most < pHi1 Z p a m := by
        unfold pHi1
        split
        · exact hz
        · rename_i y; exact Int32.lt_of_lt_of_le hz (i32_le y)
      exact ⟨fun y => absurd (stay d (m + 1) _ hb) y, fun y => absurd hz (y m (Nat.le_refl _) (by omega))⟩
    · have hb : ¬ most < pHi1 Z p a m := by
        unfold pHi1
        split
        · exact hz
        · exact ha
      rw [ih (m + 1) _ hb]
      constructor
      · intro h k h1 h2
        by_cases hk : k = m
        · subst hk; exact hz
        · exact h k (by omega) (by omega)
      · intro h k h1 h2; exact h k (by omega) (by omega)
theorem okL_iff {pe de ro jo fr : List T3} {g c : Int32} {p : Nat} {most : Int32} {ch : Int32 × Int32} (h0 : ¬ most < 0) : okL pe de ro jo fr g c p most ch = true ↔ ∀ k, k < 24 → ¬ most < (pCf pe (chO de ch) ro jo fr g c (k + 1)).1 p := by
  unfold okL pHi
  rw [List.range_eq_range', Bool.not_eq_true', decide_eq_false_iff_not, hi_l 24 0 0 h0]
  exact ⟨fun h k hk => h k (Nat.zero_le _) (by omega), fun h k _ hk => h k (by omega)⟩
theorem isl_l {p : Nat} {most : Int32} {Z : Nat → pZ} (hp : p < 8) (h95 : ∀ m, m < 24 → S 95 (8 * m + p) = (Z (m + 1)).1 p) (h1 : (∀ k, k < 24 → ¬ most < (Z (k + 1)).1 p) → P 1 S L) (h0 : ¬ (∀ k, k < 24 → ¬ most < (Z (k + 1)).1 p) → P 0 S L) : ∀ (d m : Nat) (is : Int32), m + d = 24 → (is = 1 ∧ (∀ k, k < m → ¬ most < (Z (k + 1)).1 p) ∨ is = 0 ∧ ¬ (∀ k, k < m → ¬ most < (Z (k + 1)).1 p)) → zU mX11_isLight X S L 15 [some (.ref 72), some (.int (nI p)), some (.int most), none, some (.int is), some (.int (nI m))] [] (zpi P) := by
  intro d
  induction d with
  | zero =>
    intro m is hd hi
    have : m = 24 := by omega
    subst this
    refine b_X11_isLight_15 ⟨fun _ => ?_, fun z => absurd (by decide) z⟩
    rcases hi with ⟨rfl, hi⟩ | ⟨rfl, hi⟩
    · exact ⟨rfl, h1 hi⟩
    · exact ⟨rfl, h0 hi⟩
  | succ d ih =>
    intro m is hd hi
    refine b_X11_isLight_15 ⟨fun z => absurd z (nI_ge (b := 24) (by omega) (by omega)), fun _ => ?_⟩
    rw [e8, cl_nI (by omega), h95 m (by omega)]
    rcases hi with ⟨rfl, hi⟩ | ⟨rfl, hi⟩
    · refine ⟨fun z => absurd z (by decide), fun _ => ⟨vp_in_nI (by omega) (by omega), fun z x1 ex1 => ?_, fun z x1 ex1 => ?_⟩⟩
      · rw [ex1, nI_1]
        exact ih (m + 1) 0 (by omega) (Or.inr ⟨rfl, fun y => y m (by omega) z⟩)
      · rw [ex1, nI_1]
        refine ih (m + 1) 1 (by omega) (Or.inl ⟨rfl, fun k hk => ?_⟩)
        by_cases hkm : k = m
        · subst hkm; exact z
        · exact hi k (by omega)
    · refine ⟨fun _ x1 ex1 => ?_, fun z => absurd rfl z⟩
      rw [ex1, nI_1]
      exact ih (m + 1) 0 (by omega) (Or.inr ⟨rfl, fun y => hi (fun k hk => y k (by omega))⟩)
/-- what the search keeps -/
def LJ (σ : sg) (pe de : List T3) (fb : Int32) (S0 S : zS) : Prop := mK σ S ∧ mT pe de S ∧ S 72 23 = 0 ∧ S 72 24 = fb ∧ oC S0 S
theorem LJ.of103 {σ : sg} {pe de : List T3} {fb : Int32} {S0 S S' : zS} (h : LJ σ pe de fb S0 S) (o : ∀ j, j ≠ 103 → S' j = S j) : LJ σ pe de fb S0 S' := by
  obtain ⟨t0, t1, g, c, ro, jo, fr, se, fo, le, it, la⟩ := σ
  obtain ⟨h1, h2, h3, h4, h5⟩ := h
  exact ⟨h1.keep ⟨fun j p q => o j (by omega), fun i _ _ _ _ => by rw [o 72 (by omega)]⟩, ⟨h2.1.keep (o _ (by omega)) (o _ (by omega)) (o _ (by omega)) (by rw [o 72 (by omega)]), h2.2.keep (o _ (by omega)) (o _ (by omega)) (o _ (by omega)) (by rw [o 72 (by omega)])⟩, by rw [o 72 (by omega)]; exact h3, by rw [o 72 (by omega)]; exact h4, h5.trans (fun j hj => o j (by omega))⟩
theorem lcnt {fb : Int32} {S0 : zS} (h : LJ (t0, t1, g, c, ro, jo, fr, se, fo, le, it, la) (tL 0 t0) (tL 3 t1) fb S0 S) : S 72 6 = nI (tL 3 t1).length := h.2.1.2.2
theorem isLight_s {S0 : zS} {p : Nat} {most b : Int32} {ch : Int32 × Int32} (hK0 : mK (t0, t1, g, c, ro, jo, fr, se, fo, le, it, la) S0) (hI : LJ (t0, t1, g, c, ro, jo, fr, se, fo, le, it, la) (tL 0 t0) (tL 3 t1) (pMk fr 0) S0 S) (hb : pFl b 0 (tL 3 t1) = chO (tL 3 t1) ch) (hp : p < (tL 0 t0).length) (hm : ¬ most < 0) (h : ∀ S', LJ (t0, t1, g, c, ro, jo, fr, se, fo, le, it, la) (tL 0 t0) (tL 3 t1) (pMk fr 0) S0 S' → S' 103 = S 103 → P (if okL (tL 0 t0) (tL 3 t1) ro jo fr g c p most ch = true then 1 else 0) S' L) : zCi mX11_isLight S L [.ref 72, .int (nI p), .int most, .int b] P := by
  obtain ⟨h1, h2, h3, h4, h5⟩ := hI
  have hl := hK0.lp
  refine e_X11_isLight (fun X => b_X11_isLight_0 (fun S1 f1 => ?_))
  have o1 : ∀ j, j ≠ 72 → S1 j = S j := fun j hj => by rw [f1, zc_ne _ _ hj]
  have g1 : ∀ i, i ≠ 22 → S1 72 i = S 72 i := fun i hi => by rw [f1, zc_eq, upd, if_neg hi]
  have n1 : nF S S1 := ⟨fun j a _ => o1 j a, fun i _ _ d _ => g1 i (by omega)⟩
  have hT1 : mT (tL 0 t0) (tL 3 t1) S1 := ⟨h2.1.keep (o1 _ (by omega)) (o1 _ (by omega)) (o1 _ (by omega)) (g1 _ (by omega)), h2.2.keep (o1 _ (by omega)) (o1 _ (by omega)) (o1 _ (by omega)) (g1 _ (by omega))⟩
  have hm1 := mI_of (h1.keep n1) hT1 (nd := b) (nr := 0) (fb := pMk fr 0) (by rw [f1, zc_eq, upd, if_pos rfl]) (by rw [g1 _ (by omega)]; exact h3) (by rw [g1 _ (by omega)]; exact h4)
  refine runs_s hK0.x.m hm1 (fun S2 hZ hR hG => ?_)
  simp only [mC, pFl_0, hb] at hR
  have hI2 : LJ (t0, t1, g, c, ro, jo, fr, se, fo, le, it, la) (tL 0 t0) (tL 3 t1) (pMk fr 0) S0 S2 := ⟨(h1.keep n1).keep hG.n, hT1.keep hG, by rw [hG.2 _ (by omega), g1 _ (by omega)]; exact h3, by rw [hG.2 _ (by omega), g1 _ (by omega)]; exact h4, (h5.trans n1.c).trans hG.n.c⟩
  have hh := h S2 hI2 (by rw [hG.1 103 (by omega) (by omega), o1 103 (by omega)])
  refine isl_l (Z := pCf (tL 0 t0) (chO (tL 3 t1) ch) ro jo fr g c) (by omega) (fun m hm => ((hR m hm).1 p hp).1) (fun y => ?_) (fun y => ?_) 24 0 1 (by omega) (Or.inl ⟨rfl, fun k hk => absurd hk (Nat.not_lt_zero _)⟩)
  · rw [if_pos ((okL_iff hm).mpr y)] at hh; exact hh
  · rw [if_neg (fun z => y ((okL_iff hm).mp z))] at hh; exact hh
theorem lb_p {p : Nat} {most : Int32} {S0 : zS} {o : Option (Int32 × Int32)} (hK0 : mK (t0, t1, g, c, ro, jo, fr, se, fo, le, it, la) S0) (hp : p < (tL 0 t0).length) (hm : ¬ most < 0) (h : ∀ S', LJ (t0, t1, g, c, ro, jo, fr, se, fo, le, it, la) (tL 0 t0) (tL 3 t1) (pMk fr 0) S0 S' → (∀ ch, o = some ch → (¬ ch.1 = -1 → S' 103 0 = ch.1) ∧ (¬ ch.2 = -1 → S' 103 1 = ch.2)) → P (pTell o (-1)) S' L) : ∀ (da a : Nat) (S : zS), a + da = (tL 3 t1).length → LJ (t0, t1, g, c, ro, jo, fr, se, fo, le, it, la) (tL 0 t0) (tL 3 t1) (pMk fr 0) S0 S → o = ((List.range' a da).flatMap (fun a => (List.range' (a + 1) ((tL 3 t1).length - (a + 1))).map (fun b => (nI a, nI b)))).find? (okL (tL 0 t0) (tL 3 t1) ro jo fr g c p most) → zU mX11_lightBy X S L 55 [some (.ref 72), some (.int (nI p)), some (.int most), some (.int (nI a)), none] [] (zpi P) := by
  have hlen := hK0.x.1.1
  have hll : (tL 3 t1).length ≤ 10 := hlen.2.1
  intro da
  induction da with
  | zero =>
    intro a S hd hI ho
    refine b_X11_lightBy_55 ⟨fun _ => ?_, fun z => absurd ?_ z⟩
    · have := h S hI (fun ch hc => by rw [ho] at hc; simp at hc)
      rw [ho] at this
      exact this
    · rw [lcnt hI]; exact nI_le (by omega) (by omega)
  | succ da ih =>
    intro a S hd hI ho
    refine b_X11_lightBy_55 ⟨fun z => absurd z ?_, fun _ x1 ex1 => ?_⟩
    · rw [lcnt hI]; exact nI_ge (by omega) (by omega)
    rw [ex1, nI_1]
    rw [List.range'_succ, List.flatMap_cons, List.find?_append] at ho
    -- the second of the pair
    have inner : ∀ (db b : Nat) (S : zS), b + db = (tL 3 t1).length → a < b → LJ (t0, t1, g, c, ro, jo, fr, se, fo, le, it, la) (tL 0 t0) (tL 3 t1) (pMk fr 0) S0 S → o = (((List.range' b db).map (fun b => (nI a, nI b))).find? (okL (tL 0 t0) (tL 3 t1) ro jo fr g c p most)).or (((List.range' (a + 1) da).flatMap (fun a => (List.range' (a + 1) ((tL 3 t1).length - (a + 1))).map (fun b => (nI a, nI b)))).find? (okL (tL 0 t0) (tL 3 t1) ro jo fr g c p most)) → zU mX11_lightBy X S L 68 [some (.ref 72), some (.int (nI p)), some (.int most), some (.int (nI a)), some (.int (nI b))] [] (zpi P) := by
      intro db
      induction db with
      | zero =>
        intro b S hd2 hab hI2 ho2
        refine b_X11_lightBy_68 ⟨fun _ x2 ex2 => ?_, fun z => absurd ?_ z⟩
        · rw [ex2, nI_1]
          exact ih (a + 1) S (by omega) hI2 (by rw [ho2]; rfl)
        · rw [lcnt hI2]; exact nI_le (by omega) (by omega)
      | succ db ih2 =>
        intro b S hd2 hab hI2 ho2
        rw [List.range'_succ, List.map_cons, List.find?_cons] at ho2
        refine b_X11_lightBy_68 ⟨fun z => absurd z ?_, fun _ => ?_⟩
        · rw [lcnt hI2]; exact nI_ge (by omega) (by omega)
        refine ⟨vp_in_nI (n := 0) (by omega) (by omega), fun S1 f1 => ⟨vp_in_nI (n := 1) (by omega) (by omega), fun S2 f2 => ?_⟩⟩
        have o2 : ∀ j, j ≠ 103 → S2 j = S j := fun j hj => by rw [f2, zc_ne _ _ hj, f1, zc_ne _ _ hj]
        have h103 : S2 103 = upd (upd (S 103) 0 (nI a)) 1 (nI b) := by rw [f2, zc_eq, f1, zc_eq]; rfl
        refine isLight_s hK0 (hI2.of103 o2) (pFl_c2 (l := (tL 3 t1)) hab (by omega) hll) hp hm (fun S3 hI3 k3 => ?_)
        cases hok : okL (tL 0 t0) (tL 3 t1) ro jo fr g c p most (nI a, nI b) with
        | true =>
          rw [hok] at ho2
          replace ho2 : o = some (nI a, nI b) := ho2
          rw [if_pos rfl]
          refine ⟨fun z => absurd z (by decide), fun _ => ?_⟩
          have := h S3 hI3 (fun ch hc => by
            rw [ho2] at hc
            cases hc
            rw [k3, h103]
            exact ⟨fun _ => by simp [upd], fun _ => by simp [upd]⟩)
          rw [ho2] at this
          have hv : pTell (some (nI a, nI b)) (-1) = 2 := by
            show (if nI a = -1 then (0 : Int32) else if nI b = -1 then 1 else 2) = 2
            rw [if_neg (nI_n1 (by omega)), if_neg (nI_n1 (by omega))]
          rw [hv] at this
          exact this
        | false =>
          rw [hok] at ho2
          rw [if_neg (by decide)]
          refine ⟨fun _ x2 ex2 => ?_, fun z => absurd rfl z⟩
          rw [ex2, nI_1]
          exact ih2 (b + 1) S3 (by omega) (by omega) hI3 ho2
    exact inner ((tL 3 t1).length - (a + 1)) (a + 1) S (by omega) (by omega) hI ho
theorem lb_q {p : Nat} {most : Int32} {S0 : zS} {o : Option (Int32 × Int32)} (hK0 : mK (t0, t1, g, c, ro, jo, fr, se, fo, le, it, la) S0) (hp : p < (tL 0 t0).length) (hm : ¬ most < 0) (h : ∀ S', LJ (t0, t1, g, c, ro, jo, fr, se, fo, le, it, la) (tL 0 t0) (tL 3 t1) (pMk fr 0) S0 S' → (∀ ch, o = some ch → (¬ ch.1 = -1 → S' 103 0 = ch.1) ∧ (¬ ch.2 = -1 → S' 103 1 = ch.2)) → P (pTell o (-1)) S' L) : ∀ (da a : Nat) (S : zS), a + da = (tL 3 t1).length → LJ (t0, t1, g, c, ro, jo, fr, se, fo, le, it, la) (tL 0 t0) (tL 3 t1) (pMk fr 0) S0 S → o = (((List.range' a da).map (fun a => (nI a, (-1 : Int32)))).find? (okL (tL 0 t0) (tL 3 t1) ro jo fr g c p most)).or (((List.range (tL 3 t1).length).flatMap (fun a => (List.range' (a + 1) ((tL 3 t1).length - (a + 1))).map (fun b => (nI a, nI b)))).find? (okL (tL 0 t0) (tL 3 t1) ro jo fr g c p most)) → zU mX11_lightBy X S L 18 [some (.ref 72), some (.int (nI p)), some (.int most), some (.int (nI a)), none] [] (zpi P) := by
  have hlen := hK0.x.1.1
  have hll : (tL 3 t1).length ≤ 10 := hlen.2.1
  intro da
  induction da with
  | zero =>
    intro a S hd hI ho
    refine b_X11_lightBy_18 ⟨fun _ => ?_, fun z => absurd ?_ z⟩
    · refine lb_p hK0 hp hm h (tL 3 t1).length 0 S (by omega) hI ?_
      rw [ho, List.range_eq_range']; rfl
    · rw [lcnt hI]; exact nI_le (by omega) (by omega)
  | succ da ih =>
    intro a S hd hI ho
    rw [List.range'_succ, List.map_cons, List.find?_cons] at ho
    refine b_X11_lightBy_18 ⟨fun z => absurd z ?_, fun _ => ⟨vp_in_nI (n := 0) (by omega) (by omega), fun S1 f1 => ?_⟩⟩
    · rw [lcnt hI]; exact nI_ge (by omega) (by omega)
    have o1 : ∀ j, j ≠ 103 → S1 j = S j := fun j hj => by rw [f1, zc_ne _ _ hj]
    have h103 : S1 103 = upd (S 103) 0 (nI a) := by rw [f1, zc_eq]; rfl
    refine isLight_s hK0 (hI.of103 o1) (pFl_c1 (l := (tL 3 t1)) (by omega) hll) hp hm (fun S3 hI3 k3 => ?_)
    cases hok : okL (tL 0 t0) (tL 3 t1) ro jo fr g c p most (nI a, -1) with
    | true =>
      rw [hok] at ho
      replace ho : o = some (nI a, -1) := ho
      rw [if_pos rfl]
      refine ⟨fun z => absurd z (by decide), fun _ => ?_⟩
      have := h S3 hI3 (fun ch hc => by
        rw [ho] at hc
        cases hc
        rw [k3, h103]
        exact ⟨fun _ => by simp [upd], fun y => absurd rfl y⟩)
      rw [ho] at this
      have hv : pTell (some (nI a, -1)) (-1) = 1 := by
        show (if nI a = -1 then (0 : Int32) else if (-1 : Int32) = -1 then 1 else 2) = 1
        rw [if_neg (nI_n1 (by omega)), if_pos rfl]
      rw [hv] at this
      exact this
    | false =>
      rw [hok] at ho
      rw [if_neg (by decide)]
      refine ⟨fun _ x2 ex2 => ?_, fun z => absurd rfl z⟩
      rw [ex2, nI_1]
      exact ih (a + 1) S3 (by omega) hI3 ho
theorem lightBy_m {p : Nat} {most : Int32} (hK : mK (t0, t1, g, c, ro, jo, fr, se, fo, le, it, la) S) (hp : p < (tL 0 t0).length) (hm : ¬ most < 0) (h : ∀ S', mK (t0, t1, g, c, ro, jo, fr, se, fo, le, it, la) S' → mT (tL 0 t0) (tL 3 t1) S' → oC S S' → (∀ ch, (chs (tL 3 t1).length).find? (okL (tL 0 t0) (tL 3 t1) ro jo fr g c p most) = some ch → (¬ ch.1 = -1 → S' 103 0 = ch.1) ∧ (¬ ch.2 = -1 → S' 103 1 = ch.2)) → P (pTell ((chs (tL 3 t1).length).find? (okL (tL 0 t0) (tL 3 t1) ro jo fr g c p most)) (-1)) S' L) : zCi mX11_lightBy S L [.ref 72, .int (nI p), .int most] P := by
  refine e_X11_lightBy (fun X => b_X11_lightBy_0 (asTold_m hK (fun S1 hK1 hI1 n1 => ?_)))
  have hI : LJ (t0, t1, g, c, ro, jo, fr, se, fo, le, it, la) (tL 0 t0) (tL 3 t1) (pMk fr 0) S S1 := ⟨hK1, hI1.t, hI1.2.2.2.2.2.1, hI1.2.2.2.2.2.2.1, n1.c⟩
  have hc : (chs (tL 3 t1).length).find? (okL (tL 0 t0) (tL 3 t1) ro jo fr g c p most) = if okL (tL 0 t0) (tL 3 t1) ro jo fr g c p most (-1, -1) = true then some (-1, -1) else (((List.range (tL 3 t1).length).map (fun a => (nI a, (-1 : Int32)))).find? (okL (tL 0 t0) (tL 3 t1) ro jo fr g c p most)).or (((List.range (tL 3 t1).length).flatMap (fun a => (List.range' (a + 1) ((tL 3 t1).length - (a + 1))).map (fun b => (nI a, nI b)))).find? (okL (tL 0 t0) (tL 3 t1) ro jo fr g c p most)) := by
    unfold chs
    rw [List.find?_cons, List.find?_append]
    cases okL (tL 0 t0) (tL 3 t1) ro jo fr g c p most (-1, -1) <;> rfl
  refine isLight_s hK hI (pFl_c0 (l := (tL 3 t1))) hp hm (fun S3 hI3 k3 => ?_)
  cases hok : okL (tL 0 t0) (tL 3 t1) ro jo fr g c p most (-1, -1) with
  | true =>
    rw [hok, if_pos rfl] at hc
    rw [if_pos rfl]
    refine ⟨fun z => absurd z (by decide), fun _ => ?_⟩
    have := h S3 hI3.1 hI3.2.1 hI3.2.2.2.2 (fun ch hc2 => by
      rw [hc] at hc2
      cases hc2
      exact ⟨fun y => absurd rfl y, fun y => absurd rfl y⟩)
    rw [hc] at this
    exact this
  | false =>
    rw [hok, if_neg (by decide)] at hc
    rw [if_neg (by decide)]
    refine ⟨fun _ => ?_, fun z => absurd rfl z⟩
    refine lb_q hK hp hm (fun S' hI' k => h S' hI'.1 hI'.2.1 hI'.2.2.2.2 k) (tL 3 t1).length 0 S3 (by omega) hI3 ?_
    rw [hc, List.range_eq_range']
/-- what the search keeps -/
def SJ (σ : sg) (pe de : List T3) (fb : Int32) (S0 S : zS) : Prop := mK σ S ∧ mT pe de S ∧ S 72 22 = 0 ∧ S 72 24 = fb ∧ oC S0 S
theorem SJ.of103 {σ : sg} {pe de : List T3} {fb : Int32} {S0 S S' : zS} (h : SJ σ pe de fb S0 S) (o : ∀ j, j ≠ 103 → S' j = S j) : SJ σ pe de fb S0 S' := by
  obtain ⟨t0, t1, g, c, ro, jo, fr, se, fo, le, it, la⟩ := σ
  obtain ⟨h1, h2, h3, h4, h5⟩ := h
  exact ⟨h1.keep ⟨fun j p q => o j (by omega), fun i _ _ _ _ => by rw [o 72 (by omega)]⟩, ⟨h2.1.keep (o _ (by omega)) (o _ (by omega)) (o _ (by omega)) (by rw [o 72 (by omega)]), h2.2.keep (o _ (by omega)) (o _ (by omega)) (o _ (by omega)) (by rw [o 72 (by omega)])⟩, by rw [o 72 (by omega)]; exact h3, by rw [o 72 (by omega)]; exact h4, h5.trans (fun j hj => o j (by omega))⟩
theorem scnt {fb : Int32} {S0 : zS} (h : SJ (t0, t1, g, c, ro, jo, fr, se, fo, le, it, la) (tL 0 t0) (tL 3 t1) fb S0 S) : S 72 12 = nI ro.length := h.1.2.2.2.2.2.1.2
theorem isSpared_s {S0 : zS} {b : Int32} {ch : Int32 × Int32} (hK0 : mK (t0, t1, g, c, ro, jo, fr, se, fo, le, it, la) S0) (hI : SJ (t0, t1, g, c, ro, jo, fr, se, fo, le, it, la) (tL 0 t0) (tL 3 t1) (pMk fr 0) S0 S) (hb : pFl b 0 ro = chO ro ch) (h : ∀ S', SJ (t0, t1, g, c, ro, jo, fr, se, fo, le, it, la) (tL 0 t0) (tL 3 t1) (pMk fr 0) S0 S' → S' 103 = S 103 → P (if okS (tL 0 t0) (tL 3 t1) ro jo fr g c ch = true then 1 else 0) S' L) : zCi mX11_isSpared S L [.ref 72, .int b] P := by
  obtain ⟨h1, h2, h3, h4, h5⟩ := hI
  have hl := hK0.lp
  refine e_X11_isSpared (fun X => b_X11_isSpared_0 (fun S1 f1 => ?_))
  have o1 : ∀ j, j ≠ 72 → S1 j = S j := fun j hj => by rw [f1, zc_ne _ _ hj]
  have g1 : ∀ i, i ≠ 23 → S1 72 i = S 72 i := fun i hi => by rw [f1, zc_eq, upd, if_neg hi]
  have n1 : nF S S1 := ⟨fun j a _ => o1 j a, fun i _ _ d _ => g1 i (by omega)⟩
  have hT1 : mT (tL 0 t0) (tL 3 t1) S1 := ⟨h2.1.keep (o1 _ (by omega)) (o1 _ (by omega)) (o1 _ (by omega)) (g1 _ (by omega)), h2.2.keep (o1 _ (by omega)) (o1 _ (by omega)) (o1 _ (by omega)) (g1 _ (by omega))⟩
  have hm1 := mI_of (h1.keep n1) hT1 (nd := 0) (nr := b) (fb := pMk fr 0) (by rw [g1 _ (by omega)]; exact h3) (by rw [f1, zc_eq, upd, if_pos rfl]) (by rw [g1 _ (by omega)]; exact h4)
  refine runs_s hK0.x.m hm1 (fun S2 hZ hR hG => ?_)
  simp only [mC, pFl_0, hb] at hZ
  have hI2 : SJ (t0, t1, g, c, ro, jo, fr, se, fo, le, it, la) (tL 0 t0) (tL 3 t1) (pMk fr 0) S0 S2 := ⟨(h1.keep n1).keep hG.n, hT1.keep hG, by rw [hG.2 _ (by omega), g1 _ (by omega)]; exact h3, by rw [hG.2 _ (by omega), g1 _ (by omega)]; exact h4, (h5.trans n1.c).trans hG.n.c⟩
  have hh := h S2 hI2 (by rw [hG.1 103 (by omega) (by omega), o1 103 (by omega)])
  refine livesMany_s hl.1 hI2.2.1.1.2 (fun p hp => (hZ.1 p hp).2.2.2.2) ?_
  rw [hI2.2.1.1.2]
  unfold okS at hh
  refine ⟨fun z => ?_, fun z => ?_⟩
  · rw [if_neg (fun y => z (of_decide_eq_true y))] at hh; exact hh
  · rw [if_pos (decide_eq_true z)] at hh; exact hh
theorem sb_p {u : Unit} {S0 : zS} {o : Option (Int32 × Int32)} (hK0 : mK (t0, t1, g, c, ro, jo, fr, se, fo, le, it, la) S0) (hu : u = ()) (h : ∀ S', SJ (t0, t1, g, c, ro, jo, fr, se, fo, le, it, la) (tL 0 t0) (tL 3 t1) (pMk fr 0) S0 S' → (∀ ch, o = some ch → (¬ ch.1 = -1 → S' 103 0 = ch.1) ∧ (¬ ch.2 = -1 → S' 103 1 = ch.2)) → P (pTell o (-1)) S' L) : ∀ (da a : Nat) (S : zS), a + da = ro.length → SJ (t0, t1, g, c, ro, jo, fr, se, fo, le, it, la) (tL 0 t0) (tL 3 t1) (pMk fr 0) S0 S → o = ((List.range' a da).flatMap (fun a => (List.range' (a + 1) (ro.length - (a + 1))).map (fun b => (nI a, nI b)))).find? (okS (tL 0 t0) (tL 3 t1) ro jo fr g c) → zU mX11_spareBy X S L 51 [some (.ref 72), some (.int (nI a)), none] [] (zpi P) := by
  have hlen := hK0.x.1.1
  have hll : ro.length ≤ 10 := by omega
  intro da
  induction da with
  | zero =>
    intro a S hd hI ho
    refine b_X11_spareBy_51 ⟨fun _ => ?_, fun z => absurd ?_ z⟩
    · have := h S hI (fun ch hc => by rw [ho] at hc; simp at hc)
      rw [ho] at this
      exact this
    · rw [scnt hI]; exact nI_le (by omega) (by omega)
  | succ da ih =>
    intro a S hd hI ho
    refine b_X11_spareBy_51 ⟨fun z => absurd z ?_, fun _ x1 ex1 => ?_⟩
    · rw [scnt hI]; exact nI_ge (by omega) (by omega)
    rw [ex1, nI_1]
    rw [List.range'_succ, List.flatMap_cons, List.find?_append] at ho
    -- the second of the pair
    have inner : ∀ (db b : Nat) (S : zS), b + db = ro.length → a < b → SJ (t0, t1, g, c, ro, jo, fr, se, fo, le, it, la) (tL 0 t0) (tL 3 t1) (pMk fr 0) S0 S → o = (((List.range' b db).map (fun b => (nI a, nI b))).find? (okS (tL 0 t0) (tL 3 t1) ro jo fr g c)).or (((List.range' (a + 1) da).flatMap (fun a => (List.range' (a + 1) (ro.length - (a + 1))).map (fun b => (nI a, nI b)))).find? (okS (tL 0 t0) (tL 3 t1) ro jo fr g c)) → zU mX11_spareBy X S L 63 [some (.ref 72), some (.int (nI a)), some (.int (nI b))] [] (zpi P) := by
      intro db
      induction db with
      | zero =>
        intro b S hd2 hab hI2 ho2
        refine b_X11_spareBy_63 ⟨fun _ x2 ex2 => ?_, fun z => absurd ?_ z⟩
        · rw [ex2, nI_1]
          exact ih (a + 1) S (by omega) hI2 (by rw [ho2]; rfl)
        · rw [scnt hI2]; exact nI_le (by omega) (by omega)
      | succ db ih2 =>
        intro b S hd2 hab hI2 ho2
        rw [List.range'_succ, List.map_cons, List.find?_cons] at ho2
        refine b_X11_spareBy_63 ⟨fun z => absurd z ?_, fun _ => ?_⟩
        · rw [scnt hI2]; exact nI_ge (by omega) (by omega)
        refine ⟨vp_in_nI (n := 0) (by omega) (by omega), fun S1 f1 => ⟨vp_in_nI (n := 1) (by omega) (by omega), fun S2 f2 => ?_⟩⟩
        have o2 : ∀ j, j ≠ 103 → S2 j = S j := fun j hj => by rw [f2, zc_ne _ _ hj, f1, zc_ne _ _ hj]
        have h103 : S2 103 = upd (upd (S 103) 0 (nI a)) 1 (nI b) := by rw [f2, zc_eq, f1, zc_eq]; rfl
        refine isSpared_s hK0 (hI2.of103 o2) (pFl_c2 (l := ro) hab (by omega) hll)  (fun S3 hI3 k3 => ?_)
        cases hok : okS (tL 0 t0) (tL 3 t1) ro jo fr g c (nI a, nI b) with
        | true =>
          rw [hok] at ho2
          replace ho2 : o = some (nI a, nI b) := ho2
          rw [if_pos rfl]
          refine ⟨fun z => absurd z (by decide), fun _ => ?_⟩
          have := h S3 hI3 (fun ch hc => by
            rw [ho2] at hc
            cases hc
            rw [k3, h103]
            exact ⟨fun _ => by simp [upd], fun _ => by simp [upd]⟩)
          rw [ho2] at this
          have hv : pTell (some (nI a, nI b)) (-1) = 2 := by
            show (if nI a = -1 then (0 : Int32) else if nI b = -1 then 1 else 2) = 2
            rw [if_neg (nI_n1 (by omega)), if_neg (nI_n1 (by omega))]
          rw [hv] at this
          exact this
        | false =>
          rw [hok] at ho2
          rw [if_neg (by decide)]
          refine ⟨fun _ x2 ex2 => ?_, fun z => absurd rfl z⟩
          rw [ex2, nI_1]
          exact ih2 (b + 1) S3 (by omega) (by omega) hI3 ho2
    exact inner (ro.length - (a + 1)) (a + 1) S (by omega) (by omega) hI ho
theorem sb_q {u : Unit} {S0 : zS} {o : Option (Int32 × Int32)} (hK0 : mK (t0, t1, g, c, ro, jo, fr, se, fo, le, it, la) S0) (hu : u = ()) (h : ∀ S', SJ (t0, t1, g, c, ro, jo, fr, se, fo, le, it, la) (tL 0 t0) (tL 3 t1) (pMk fr 0) S0 S' → (∀ ch, o = some ch → (¬ ch.1 = -1 → S' 103 0 = ch.1) ∧ (¬ ch.2 = -1 → S' 103 1 = ch.2)) → P (pTell o (-1)) S' L) : ∀ (da a : Nat) (S : zS), a + da = ro.length → SJ (t0, t1, g, c, ro, jo, fr, se, fo, le, it, la) (tL 0 t0) (tL 3 t1) (pMk fr 0) S0 S → o = (((List.range' a da).map (fun a => (nI a, (-1 : Int32)))).find? (okS (tL 0 t0) (tL 3 t1) ro jo fr g c)).or (((List.range ro.length).flatMap (fun a => (List.range' (a + 1) (ro.length - (a + 1))).map (fun b => (nI a, nI b)))).find? (okS (tL 0 t0) (tL 3 t1) ro jo fr g c)) → zU mX11_spareBy X S L 16 [some (.ref 72), some (.int (nI a)), none] [] (zpi P) := by
  have hlen := hK0.x.1.1
  have hll : ro.length ≤ 10 := by omega
  intro da
  induction da with
  | zero =>
    intro a S hd hI ho
    refine b_X11_spareBy_16 ⟨fun _ => ?_, fun z => absurd ?_ z⟩
    · refine sb_p hK0 hu h ro.length 0 S (by omega) hI ?_
      rw [ho, List.range_eq_range']; rfl
    · rw [scnt hI]; exact nI_le (by omega) (by omega)
  | succ da ih =>
    intro a S hd hI ho
    rw [List.range'_succ, List.map_cons, List.find?_cons] at ho
    refine b_X11_spareBy_16 ⟨fun z => absurd z ?_, fun _ => ⟨vp_in_nI (n := 0) (by omega) (by omega), fun S1 f1 => ?_⟩⟩
    · rw [scnt hI]; exact nI_ge (by omega) (by omega)
    have o1 : ∀ j, j ≠ 103 → S1 j = S j := fun j hj => by rw [f1, zc_ne _ _ hj]
    have h103 : S1 103 = upd (S 103) 0 (nI a) := by rw [f1, zc_eq]; rfl
    refine isSpared_s hK0 (hI.of103 o1) (pFl_c1 (l := ro) (by omega) hll)  (fun S3 hI3 k3 => ?_)
    cases hok : okS (tL 0 t0) (tL 3 t1) ro jo fr g c (nI a, -1) with
    | true =>
      rw [hok] at ho
      replace ho : o = some (nI a, -1) := ho
      rw [if_pos rfl]
      refine ⟨fun z => absurd z (by decide), fun _ => ?_⟩
      have := h S3 hI3 (fun ch hc => by
        rw [ho] at hc
        cases hc
        rw [k3, h103]
        exact ⟨fun _ => by simp [upd], fun y => absurd rfl y⟩)
      rw [ho] at this
      have hv : pTell (some (nI a, -1)) (-1) = 1 := by
        show (if nI a = -1 then (0 : Int32) else if (-1 : Int32) = -1 then 1 else 2) = 1
        rw [if_neg (nI_n1 (by omega)), if_pos rfl]
      rw [hv] at this
      exact this
    | false =>
      rw [hok] at ho
      rw [if_neg (by decide)]
      refine ⟨fun _ x2 ex2 => ?_, fun z => absurd rfl z⟩
      rw [ex2, nI_1]
      exact ih (a + 1) S3 (by omega) hI3 ho
theorem spareBy_m {u : Unit} (hK : mK (t0, t1, g, c, ro, jo, fr, se, fo, le, it, la) S) (hu : u = ()) (h : ∀ S', mK (t0, t1, g, c, ro, jo, fr, se, fo, le, it, la) S' → mT (tL 0 t0) (tL 3 t1) S' → oC S S' → (∀ ch, (chs ro.length).find? (okS (tL 0 t0) (tL 3 t1) ro jo fr g c) = some ch → (¬ ch.1 = -1 → S' 103 0 = ch.1) ∧ (¬ ch.2 = -1 → S' 103 1 = ch.2)) → P (pTell ((chs ro.length).find? (okS (tL 0 t0) (tL 3 t1) ro jo fr g c)) (-1)) S' L) : zCi mX11_spareBy S L [.ref 72] P := by
  refine e_X11_spareBy (fun X => b_X11_spareBy_0 (asTold_m hK (fun S1 hK1 hI1 n1 => ?_)))
  have hI : SJ (t0, t1, g, c, ro, jo, fr, se, fo, le, it, la) (tL 0 t0) (tL 3 t1) (pMk fr 0) S S1 := ⟨hK1, hI1.t, hI1.2.2.2.2.1, hI1.2.2.2.2.2.2.1, n1.c⟩
  have hc : (chs ro.length).find? (okS (tL 0 t0) (tL 3 t1) ro jo fr g c) = if okS (tL 0 t0) (tL 3 t1) ro jo fr g c (-1, -1) = true then some (-1, -1) else (((List.range ro.length).map (fun a => (nI a, (-1 : Int32)))).find? (okS (tL 0 t0) (tL 3 t1) ro jo fr g c)).or (((List.range ro.length).flatMap (fun a => (List.range' (a + 1) (ro.length - (a + 1))).map (fun b => (nI a, nI b)))).find? (okS (tL 0 t0) (tL 3 t1) ro jo fr g c)) := by
    unfold chs
    rw [List.find?_cons, List.find?_append]
    cases okS (tL 0 t0) (tL 3 t1) ro jo fr g c (-1, -1) <;> rfl
  refine isSpared_s hK hI (pFl_c0 (l := ro))  (fun S3 hI3 k3 => ?_)
  cases hok : okS (tL 0 t0) (tL 3 t1) ro jo fr g c (-1, -1) with
  | true =>
    rw [hok, if_pos rfl] at hc
    rw [if_pos rfl]
    refine ⟨fun z => absurd z (by decide), fun _ => ?_⟩
    have := h S3 hI3.1 hI3.2.1 hI3.2.2.2.2 (fun ch hc2 => by
      rw [hc] at hc2
      cases hc2
      exact ⟨fun y => absurd rfl y, fun y => absurd rfl y⟩)
    rw [hc] at this
    exact this
  | false =>
    rw [hok, if_neg (by decide)] at hc
    rw [if_neg (by decide)]
    refine ⟨fun _ => ?_, fun z => absurd rfl z⟩
    refine sb_q hK hu (fun S' hI' k => h S' hI'.1 hI'.2.1 hI'.2.2.2.2 k) ro.length 0 S3 (by omega) hI3 ?_
    rw [hc, List.range_eq_range']
theorem ofRow_m {n : Nat} {ok : Int32 × Int32 → Bool} {i : Int32} (hn : n ≤ 10) (hr : ∀ ch, (chs n).find? ok = some ch → (¬ ch.1 = -1 → S 103 0 = ch.1) ∧ (¬ ch.2 = -1 → S 103 1 = ch.2)) (hi : (-1 : Int32) ≤ i ∧ i ≤ (1 : Int32)) (h : P (pTell ((chs n).find? ok) i) S L) : zCi mX11_ofRow S L [.ref 72, .int (pTell ((chs n).find? ok) (-1)), .int i] P := by
  have hi3 : i = -1 ∨ i = 0 ∨ i = 1 := by
    have a := Int32.le_iff_toInt_le.mp hi.1
    have b := Int32.le_iff_toInt_le.mp hi.2
    have e1 : (-1 : Int32).toInt = -1 := by decide
    have e2 : (1 : Int32).toInt = 1 := by decide
    have e3 : (0 : Int32).toInt = 0 := by decide
    rw [e1] at a
    rw [e2] at b
    have : i.toInt = -1 ∨ i.toInt = 0 ∨ i.toInt = 1 := by omega
    rcases this with z | z | z
    · exact Or.inl (Int32.toInt_inj.mp (by rw [z, e1]))
    · exact Or.inr (Or.inl (Int32.toInt_inj.mp (by rw [z, e3])))
    · exact Or.inr (Or.inr (Int32.toInt_inj.mp (by rw [z, e2])))
  refine e_X11_ofRow (fun X => b_X11_ofRow_0 ?_)
  rcases hi3 with rfl | rfl | rfl
  · exact ⟨fun z => absurd rfl z, fun _ => h⟩
  · refine ⟨fun _ => ?_, fun z => absurd z (by decide)⟩
    rw [show (0 : Int32).toNatClampNeg = 0 from rfl]
    have hv : vp_in (0 : Int32) 2 := vp_in_nI (n := 0) (by omega) (by omega)
    cases hf : (chs n).find? ok with
    | none => rw [hf] at h; exact ⟨fun _ => h, fun z => absurd (by decide : (-1 : Int32) ≤ 0) z⟩
    | some ch =>
      rw [hf] at h
      have hc := List.mem_of_find?_eq_some hf
      obtain ⟨r1, r2⟩ := hr ch hf
      have hp : pTell (some ch) (-1) = (if ch.1 = -1 then 0 else if ch.2 = -1 then 1 else 2) := rfl
      have h' : P ch.1 S L := h
      rw [hp]
      by_cases h1 : ch.1 = -1
      · rw [if_pos h1]
        rw [h1] at h'
        exact ⟨fun _ => h', fun z => absurd (by decide : (0 : Int32) ≤ 0) z⟩
      · rw [if_neg h1, r1 h1]
        refine ⟨fun z => ?_, fun _ => ⟨hv, h'⟩⟩
        split at z
        · exact absurd z (by decide)
        · exact absurd z (by decide)
  · refine ⟨fun _ => ?_, fun z => absurd z (by decide)⟩
    rw [show (1 : Int32).toNatClampNeg = 1 from rfl]
    have hv : vp_in (1 : Int32) 2 := vp_in_nI (n := 1) (by omega) (by omega)
    cases hf : (chs n).find? ok with
    | none => rw [hf] at h; exact ⟨fun _ => h, fun z => absurd (by decide : (-1 : Int32) ≤ 1) z⟩
    | some ch =>
      rw [hf] at h
      have hc := List.mem_of_find?_eq_some hf
      obtain ⟨r1, r2⟩ := hr ch hf
      have hp : pTell (some ch) (-1) = (if ch.1 = -1 then 0 else if ch.2 = -1 then 1 else 2) := rfl
      have h' : P ch.2 S L := h
      rw [hp]
      rcases chs_mem hc with rfl | ⟨a, ha, rfl⟩ | ⟨a, d, had, hd, rfl⟩
      · rw [if_pos rfl]
        exact ⟨fun _ => h', fun z => absurd (by decide : (0 : Int32) ≤ 1) z⟩
      · rw [if_neg (nI_n1 (by omega)), if_pos rfl]
        exact ⟨fun _ => h', fun z => absurd (by decide : (1 : Int32) ≤ 1) z⟩
      · rw [if_neg (nI_n1 (by omega)), if_neg (nI_n1 (by omega)), r2 (nI_n1 (by omega))]
        exact ⟨fun z => absurd z (by decide), fun _ => ⟨hv, h'⟩⟩
theorem light_m {p most i : Int32} (hK : mK (t0, t1, g, c, ro, jo, fr, se, fo, le, it, la) S) (h : ∀ S', mK (t0, t1, g, c, ro, jo, fr, se, fo, le, it, la) S' → oC S S' → P (qLight p most i (t0, t1, g, c, ro, jo, fr, se, fo, le, it, la)) S' L) : zCi mX11_light S L [.ref 72, .int p, .int most, .int i] P := by
  simp only [qLight, aLight] at h
  have hl := hK.lp
  refine e_X11_light (fun X => b_X11_light_0 (isPerson_m hK (fun S1 hK1 hT1 o1 => ⟨fun z => ?_, fun z => ⟨fun q2 => ⟨fun q3 => ?_, fun q3 => ?_⟩, fun q2 => ?_⟩⟩)))
  · rw [if_neg (fun y => if01 z y.1)] at h; exact h S1 hK1 o1
  · rw [if_pos ⟨if11 z, q2, q3⟩] at h
    obtain ⟨p, hp, rfl⟩ := rng_ix (by omega) (if11 z)
    rw [cl_nI (by omega)] at h
    exact lightBy_m hK1 hp (i32_nlt q2.1) (fun S2 hK2 _ o2 hr => ofRow_m hl.2 hr q3 (h S2 hK2 (o1.trans o2)))
  · rw [if_neg (fun y => q3 y.2.2)] at h; exact h S1 hK1 o1
  · rw [if_neg (fun y => q2 y.2.1)] at h; exact h S1 hK1 o1
theorem spare_m {i : Int32} (hK : mK (t0, t1, g, c, ro, jo, fr, se, fo, le, it, la) S) (h : ∀ S', mK (t0, t1, g, c, ro, jo, fr, se, fo, le, it, la) S' → oC S S' → P (qSpare i (t0, t1, g, c, ro, jo, fr, se, fo, le, it, la)) S' L) : zCi mX11_spare S L [.ref 72, .int i] P := by
  simp only [qSpare, aSpare] at h
  have hl := hK.2.1.1.1
  refine e_X11_spare (fun X => b_X11_spare_0 ⟨fun q3 => ?_, fun q3 => ?_⟩)
  · rw [if_pos q3] at h
    exact spareBy_m (u := ()) hK rfl (fun S2 hK2 _ o2 hr => ofRow_m (by omega) hr q3 (h S2 hK2 o2))
  · rw [if_neg q3] at h; exact h S hK oC.rf
end MPB
