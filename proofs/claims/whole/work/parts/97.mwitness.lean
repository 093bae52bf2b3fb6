/-! THE WITNESS OF THE REFERENCE, other years -/
section MWT
variable {t0 t1 : List Int32} {g c : Int32} {ro jo fr se : List T3} {fo le it : pF} {la : Int32} {S : zS} {L : zL} {P : Int32 → zS → zL → Prop} {X : Nat × (Nat → Int32)}
theorem mI.k2 {S S' : zS} {pe de ro jo : List T3} {nd nr fb g c : Int32} (h : mI S pe de ro jo nd nr fb g c) (o : ∀ j, j ≠ 72 → j < 88 → S' j = S j) (f : ∀ i, i < 30 → S' 72 i = S 72 i) : mI S' pe de ro jo nd nr fb g c := by
  obtain ⟨⟨a1, a2⟩, ⟨b1, b2⟩, ⟨c1, c2⟩, ⟨d1, d2⟩, e1, e2, e3, e4, e5⟩ := h
  exact ⟨⟨a1.keep (o _ (by omega) (by omega)) (o _ (by omega) (by omega)) (o _ (by omega) (by omega)), by rw [f _ (by omega)]; exact a2⟩, ⟨b1.keep (o _ (by omega) (by omega)) (o _ (by omega) (by omega)) (o _ (by omega) (by omega)), by rw [f _ (by omega)]; exact b2⟩, ⟨c1.keep (o _ (by omega) (by omega)) (o _ (by omega) (by omega)) (o _ (by omega) (by omega)), by rw [f _ (by omega)]; exact c2⟩, ⟨d1.keep (o _ (by omega) (by omega)) (o _ (by omega) (by omega)) (o _ (by omega) (by omega)), by rw [f _ (by omega)]; exact d2⟩, by rw [f _ (by omega)]; exact e1, by rw [f _ (by omega)]; exact e2, by rw [f _ (by omega)]; exact e3, by rw [f _ (by omega)]; exact e4, by rw [f _ (by omega)]; exact e5⟩
theorem mK.seen (hK : mK (t0, t1, g, c, ro, jo, fr, se, fo, le, it, la) S) : mL 104 105 106 45 se S ∧ se.length ≤ 8 ∧ ∀ e ∈ se, (∃ q, q < 24 ∧ e.1 = nI q) ∧ (∃ q, q < 8 ∧ e.2.1 = nI q) :=
  ⟨hK.2.2.2.2.2.2.2.2.1, hK.2.1.1.2.2.2, (sW_of hK.1.1 hK.1.2.1 hK.2.1).2.2.2.2⟩
theorem isn_l {np : Nat} {Z : Nat → pZ} (hnp : np ≤ 8) (h2 : S 72 2 = nI np) (hs : mL 104 105 106 45 se S) (hl : se.length ≤ 8) (hb : ∀ e ∈ se, (∃ q, q < 24 ∧ e.1 = nI q) ∧ (∃ q, q < 8 ∧ e.2.1 = nI q)) (hR : ∀ m p, m < 24 → p < np → S 95 (8 * m + p) = (Z (m + 1)).1 p) : ∀ (rest : List T3) (i : Nat) (v : Int32), se.drop i = rest → i ≤ se.length → (v = 1 ∧ P (if seOk np Z rest = true then 1 else 0) S L ∨ v = 0 ∧ P 0 S L) → zU mX11_isSeen X S L 8 [some (.ref 72), some (.int v), some (.int (nI i))] [] (zpi P) := by
  intro rest
  induction rest with
  | nil =>
    intro i v hd hi h
    have hl2 : se.length ≤ i := List.drop_eq_nil_iff.mp hd
    refine b_X11_isSeen_8 ⟨fun _ => ?_, fun z => absurd ?_ z⟩
    · rcases h with ⟨rfl, h⟩ | ⟨rfl, h⟩
      · exact ⟨rfl, h⟩
      · exact ⟨rfl, h⟩
    · rw [hs.2]; exact nI_le hl2 (by omega)
  | cons e rest ih =>
    intro i v hd hi h
    obtain ⟨hil, he, hd2⟩ := drop_cons hd
    obtain ⟨d1, d2, d3⟩ := hs.1 i e he
    obtain ⟨⟨m, hm, hme⟩, ⟨w, hw, hwe⟩⟩ := hb e (List.mem_of_getElem? he)
    have sc : seOk np Z (e :: rest) = ((decide (e.2.1 < nI np) && decide ((Z (m + 1)).1 w = e.2.2)) && seOk np Z rest) := by
      unfold seOk
      rw [List.all_cons, hme, hwe, cl_nI (by omega), cl_nI (by omega)]
    refine b_X11_isSeen_8 ⟨fun z => absurd z ?_, fun _ => ?_⟩
    · rw [hs.2]; exact nI_ge hil (by omega)
    rw [cl_nI (n := i) (by omega), d1, d2, d3, h2]
    rcases h with ⟨rfl, h⟩ | ⟨rfl, h⟩
    · rw [sc] at h
      refine ⟨fun z => absurd z (by decide), fun _ => ⟨vp_in_nI (by omega) (by omega), fun z x1 ex1 => ?_, fun z => ?_⟩⟩
      · rw [decide_eq_false (i32_nlt z)] at h
        rw [ex1, nI_1]
        exact ih (i + 1) 0 hd2 (by omega) (Or.inr ⟨rfl, h⟩)
      · have hlt : e.2.1 < nI np := i32_lt z
        rw [decide_eq_true hlt, Bool.true_and] at h
        rw [hwe] at hlt
        have hwn : w < np := by
          rcases Nat.lt_or_ge w np with y | y
          · exact y
          · exact absurd (nI_le y (by omega)) (i32_nle hlt)
        rw [hme, hwe, e8, cl_nI (by omega), hR m w hm hwn]
        refine ⟨vp_in_nI (by omega) (by omega), vp_in_nI (by omega) (by omega), vp_in_nI (by omega) (by omega), vp_in_nI (by omega) (by omega), fun y x1 ex1 => ?_, fun y x1 ex1 => ?_⟩
        · rw [decide_eq_false y] at h
          rw [ex1, nI_1]
          exact ih (i + 1) 0 hd2 (by omega) (Or.inr ⟨rfl, h⟩)
        · rw [decide_eq_true y, Bool.true_and] at h
          rw [ex1, nI_1]
          exact ih (i + 1) 1 hd2 (by omega) (Or.inl ⟨rfl, h⟩)
    · exact ⟨fun _ => ⟨rfl, h⟩, fun z => absurd rfl z⟩
theorem isSeen_s {pe de : List T3} {nd fb : Int32} (hW : mWf pe de ro jo) (hI : mI S pe de ro jo nd 0 fb g c) (hs : mL 104 105 106 45 se S ∧ se.length ≤ 8 ∧ ∀ e ∈ se, (∃ q, q < 24 ∧ e.1 = nI q) ∧ (∃ q, q < 8 ∧ e.2.1 = nI q)) (h : ∀ S', mG S S' → P (if seOk pe.length (fun m => pC pe (pFl nd 0 de) ro jo fb g c m) se = true then 1 else 0) S' L) : zCi mX11_isSeen S L [.ref 72] P := by
  refine e_X11_isSeen (fun X => b_X11_isSeen_0 (runs_s hW hI (fun S1 hZ hR hG => ?_)))
  simp only [mC, pFl_0] at hR
  exact isn_l (Z := fun m => pC pe (pFl nd 0 de) ro jo fb g c m) hW.1.1 (by rw [hG.2 _ (by omega)]; exact hI.1.2) (hs.1.keep (hG.1 _ (by omega) (by omega)) (hG.1 _ (by omega) (by omega)) (hG.1 _ (by omega) (by omega)) (hG.2 _ (by omega))) hs.2.1 hs.2.2 (fun m p hm hp => ((hR m hm).1 p hp).1) se 0 1 rfl (Nat.zero_le _) (Or.inl ⟨rfl, h S1 hG⟩)
/-! which deed never was -/
theorem nn_l {S0 : zS} (hK0 : mK (t0, t1, g, c, ro, jo, fr, se, fo, le, it, la) S0) (h : ∀ S', LJ (t0, t1, g, c, ro, jo, fr, se, fo, le, it, la) (tL 0 t0) (tL 3 t1) (pMk fr 0) S0 S' → P (pNv (tL 0 t0) (tL 3 t1) ro jo fr se g c) S' L) : ∀ (e d : Nat) (S : zS), d + e = (tL 3 t1).length → LJ (t0, t1, g, c, ro, jo, fr, se, fo, le, it, la) (tL 0 t0) (tL 3 t1) (pMk fr 0) S0 S → zU mX11_neverNow X S L 8 [some (.ref 72), some (.int (fN (tL 0 t0) (tL 3 t1) ro jo fr se g c d)), some (.int (nI d))] [] (zpi P) := by
  have hl := hK0.lp
  intro e
  induction e with
  | zero =>
    intro d S hd hI
    obtain rfl : d = (tL 3 t1).length := by omega
    refine b_X11_neverNow_8 ⟨fun _ => h S hI, fun z => absurd ?_ z⟩
    rw [hI.2.1.2.2]; exact nI_le (Nat.le_refl _) (by omega)
  | succ e ih =>
    intro d S hd hI
    obtain ⟨h1, h2, h3, h4, h5⟩ := hI
    have hdl : d < (tL 3 t1).length := by omega
    refine b_X11_neverNow_8 ⟨fun z => absurd z ?_, fun _ S1 f1 => ?_⟩
    · rw [h2.2.2]; exact nI_ge hdl (by omega)
    have o1 : ∀ j, j ≠ 72 → S1 j = S j := fun j hj => by rw [f1, zc_ne _ _ hj]
    have g1 : ∀ i, i ≠ 22 → S1 72 i = S 72 i := fun i hi => by rw [f1, zc_eq, upd, if_neg hi]
    have n1 : nF S S1 := ⟨fun j a _ => o1 j a, fun i _ _ d _ => g1 i (by omega)⟩
    have hT1 : mT (tL 0 t0) (tL 3 t1) S1 := ⟨h2.1.keep (o1 _ (by omega)) (o1 _ (by omega)) (o1 _ (by omega)) (g1 _ (by omega)), h2.2.keep (o1 _ (by omega)) (o1 _ (by omega)) (o1 _ (by omega)) (g1 _ (by omega))⟩
    have hm1 := mI_of (h1.keep n1) hT1 (nd := (1 : Int32) <<< (nI d &&& 31)) (nr := 0) (fb := pMk fr 0) (by rw [f1, zc_eq, upd, if_pos rfl]) (by rw [g1 _ (by omega)]; exact h3) (by rw [g1 _ (by omega)]; exact h4)
    refine isSeen_s hK0.x.m hm1 (h1.keep n1).seen (fun S2 hG => ?_)
    have hI2 : LJ (t0, t1, g, c, ro, jo, fr, se, fo, le, it, la) (tL 0 t0) (tL 3 t1) (pMk fr 0) S0 S2 := ⟨(h1.keep n1).keep hG.n, hT1.keep hG, by rw [hG.2 _ (by omega), g1 _ (by omega)]; exact h3, by rw [hG.2 _ (by omega), g1 _ (by omega)]; exact h4, (h5.trans n1.c).trans hG.n.c⟩
    rw [pFl_one (tL 3 t1) 0 d hdl (fun k hk => by rw [Nat.zero_add, b_one (by omega) (by omega)])]
    have hs := fN_succ (pe := tL 0 t0) (de := tL 3 t1) (ro := ro) (jo := jo) (fr := fr) (se := se) (g := g) (c := c) (k := d)
    rw [pNv1] at hs
    refine ⟨fun z x1 ex1 x2 ex2 => ?_, fun z x1 ex1 x2 ex2 => ?_⟩
    · rw [if_neg (if01 z)] at hs
      rw [ex2, nI_1, ex1, ← hs]
      exact ih (d + 1) S2 (by omega) hI2
    · rw [if_pos (if11 z)] at hs
      rw [ex2, nI_1, ex1, ← hs]
      exact ih (d + 1) S2 (by omega) hI2
theorem neverNow_m (hK : mK (t0, t1, g, c, ro, jo, fr, se, fo, le, it, la) S) (h : ∀ S', LJ (t0, t1, g, c, ro, jo, fr, se, fo, le, it, la) (tL 0 t0) (tL 3 t1) (pMk fr 0) S S' → P (pNv (tL 0 t0) (tL 3 t1) ro jo fr se g c) S' L) : zCi mX11_neverNow S L [.ref 72] P :=
  e_X11_neverNow (fun X => b_X11_neverNow_0 (asTold_m hK (fun S1 hK1 hI1 n1 => nn_l (S0 := S) hK h (tL 3 t1).length 0 S1 (by omega) ⟨hK1, hI1.t, hI1.2.2.2.2.2.1, hI1.2.2.2.2.2.2.1, n1.c⟩)))
theorem never_m (hK : mK (t0, t1, g, c, ro, jo, fr, se, fo, le, it, la) S) (h : ∀ S', mK (t0, t1, g, c, ro, jo, fr, se, fo, le, it, la) S' → oC S S' → P (qNever (t0, t1, g, c, ro, jo, fr, se, fo, le, it, la)) S' L) : zCi mX11_never S L [.ref 72] P := by
  simp only [qNever] at h
  exact e_X11_never (fun X => b_X11_never_0 (neverNow_m hK (fun S' hI => h S' hI.1 hI.2.2.2.2)))
/-! what it was, by whom -/
abbrev fF (pe de ro jo fr se : List T3) (g c col : Int32) (d k : Nat) : Int32 := (List.range k).foldl (pFt1 pe de ro jo fr se g c col d) 0
theorem fF_succ {pe de ro jo fr se : List T3} {g c col : Int32} {d k : Nat} : fF pe de ro jo fr se g c col d (k + 1) = pFt1 pe de ro jo fr se g c col d (fF pe de ro jo fr se g c col d k) k := by
  unfold fF; rw [List.range_succ, List.foldl_append, List.foldl_cons, List.foldl_nil]
def WJ (σ : sg) (pe de ro jo : List T3) (fb g c : Int32) (d : Nat) (F G : pF) (S0 S : zS) : Prop := mK σ S ∧ mI (zc (zc S 79 F) 80 G) pe de ro jo 0 0 fb g c ∧ (∃ x, S 79 = upd F d x) ∧ (∃ y, S 80 = upd G d y) ∧ oC S0 S
theorem was_l0 {d : Nat} {F G : pF} {S0 : zS} (hK0 : mK (t0, t1, g, c, ro, jo, fr, se, fo, le, it, la) S0) (hd : d < (tL 3 t1).length) (h : ∀ S', mK (t0, t1, g, c, ro, jo, fr, se, fo, le, it, la) S' → mT (tL 0 t0) (tL 3 t1) S' → oC S0 S' → P (pFt (tL 0 t0) (tL 3 t1) ro jo fr se g c 2 4 d) S' L) : ∀ (e v : Nat) (S : zS), v + e = 4 → WJ (t0, t1, g, c, ro, jo, fr, se, fo, le, it, la) (tL 0 t0) (tL 3 t1) ro jo (pMk fr 0) g c d F G S0 S → zU mX11_wasOf X S L 25 [some (.ref 72), some (.int (nI d)), some (.int 0), some (.int (F d)), some (.int (G d)), some (.int (fF (tL 0 t0) (tL 3 t1) ro jo fr se g c 2 d v)), some (.int (nI v))] [] (zpi P) := by
  have hl := hK0.lp
  intro e
  induction e with
  | zero =>
    intro v S hd2 hI
    obtain rfl : v = 4 := by omega
    obtain ⟨i1, i2, ⟨x, i3⟩, ⟨y, i4⟩, i5⟩ := hI
    have h2 : S 72 2 = nI (tL 0 t0).length := by
      have := i2.1.2
      rw [zc_ne _ _ (by omega), zc_ne _ _ (by omega)] at this
      exact this
    have main : zU mX11_wasOf X S L 39 [some (.ref 72), some (.int (nI d)), some (.int 0), some (.int (F d)), some (.int (G d)), some (.int (fF (tL 0 t0) (tL 3 t1) ro jo fr se g c 2 d 4)), some (.int (nI 4))] [.int (nI 4), .int (nI 4)] (zpi P) := by
      refine b_X11_wasOf_39 ⟨fun _ => ?_, fun z => absurd (nI_le (Nat.le_refl _) (by omega)) z⟩
      rw [cl_nI (by omega)]
      refine ⟨vp_in_nI (by omega) (by omega), fun S1 f1 => ⟨vp_in_nI (by omega) (by omega), fun S2 f2 => ?_⟩⟩
      have hS2 : S2 = zc (zc S 79 F) 80 G := by
        have e1 : S1 = zc S 79 F := by
          rw [f1, i3]
          congr 1
          funext j
          simp only [upd]
          split
          · rename_i hj; rw [hj]
          · rfl
        rw [f2, e1, zc_ne _ _ (by omega), i4]
        congr 1
        funext j
        simp only [upd]
        split
        · rename_i hj; rw [hj]
        · rfl
      have o2 : ∀ j, j ≠ 79 → j ≠ 80 → S2 j = S j := fun j a b => by rw [hS2, zc_ne _ _ b, zc_ne _ _ a]
      exact h S2 (i1.keep ⟨fun j p q => o2 j (by omega) (by omega), fun i _ _ _ _ => by rw [o2 72 (by omega) (by omega)]⟩) (by rw [hS2]; exact i2.t) (i5.trans (fun j hj => o2 j (by omega) (by omega)))
    exact b_X11_wasOf_25 ⟨fun z => absurd rfl z, fun _ => main⟩
  | succ e ih =>
    intro v S hd2 hI
    obtain ⟨i1, i2, ⟨x, i3⟩, ⟨y, i4⟩, i5⟩ := hI
    have h2 : S 72 2 = nI (tL 0 t0).length := by
      have := i2.1.2
      rw [zc_ne _ _ (by omega), zc_ne _ _ (by omega)] at this
      exact this
    have main : zU mX11_wasOf X S L 39 [some (.ref 72), some (.int (nI d)), some (.int 0), some (.int (F d)), some (.int (G d)), some (.int (fF (tL 0 t0) (tL 3 t1) ro jo fr se g c 2 d v)), some (.int (nI v))] [.int (nI 4), .int (nI v)] (zpi P) := by
      refine b_X11_wasOf_39 ⟨fun z => absurd z (nI_ge (by omega) (by omega)), fun _ => ⟨fun _ => ?_, fun z => absurd z (by decide)⟩⟩
      refine b_X11_wasOf_58 ?_
      rw [cl_nI (by omega)]
      refine ⟨vp_in_nI (by omega) (by omega), fun S1 f1 => ⟨fun z => absurd rfl z, fun _ => ?_⟩⟩
      refine b_X11_wasOf_75 ?_
      rw [cl_nI (by omega)]
      refine ⟨vp_in_nI (by omega) (by omega), fun S2 f2 => ?_⟩
      have o2 : ∀ j, j ≠ 79 → j ≠ 80 → S2 j = S j := fun j a b => by rw [f2, zc_ne _ _ b, f1, zc_ne _ _ a]
      have h79 : S2 79 = upd F d (F d) := by
        rw [f2, zc_ne _ _ (by omega), f1, zc_eq, i3]
        funext j
        simp only [upd]
        split
        · rfl
        · rfl
      have h80 : S2 80 = upd G d (nI v) := by
        rw [f2, zc_eq, f1, zc_ne _ _ (by omega), i4]
        funext j
        simp only [upd]
        split
        · rfl
        · rfl
      have ho : ∀ j, j ≠ 79 → j ≠ 80 → S2 j = (zc (zc S 79 F) 80 G) j := fun j a b => by rw [o2 j a b, zc_ne _ _ b, zc_ne _ _ a]
      have hmI : mI S2 (tL 0 t0) ((tL 3 t1).set d (t3s ((tL 3 t1).getD d (0, 0, 0)) 2 (nI v))) ro jo 0 0 (pMk fr 0) g c := by
        obtain ⟨⟨a1, a2⟩, ⟨b1, b2⟩, ⟨c1, c2⟩, ⟨d1, d2⟩, e1, e2, e3, e4, e5⟩ := i2
        have h72 : S2 72 = (zc (zc S 79 F) 80 G) 72 := ho 72 (by omega) (by omega)
        refine ⟨⟨a1.keep (ho _ (by omega) (by omega)) (ho _ (by omega) (by omega)) (ho _ (by omega) (by omega)), by rw [h72]; exact a2⟩, ⟨fun i e he => ?_, by rw [h72, List.length_set]; exact b2⟩, ⟨c1.keep (ho _ (by omega) (by omega)) (ho _ (by omega) (by omega)) (ho _ (by omega) (by omega)), by rw [h72]; exact c2⟩, ⟨d1.keep (ho _ (by omega) (by omega)) (ho _ (by omega) (by omega)) (ho _ (by omega) (by omega)), by rw [h72]; exact d2⟩, by rw [h72]; exact e1, by rw [h72]; exact e2, by rw [h72]; exact e3, by rw [h72]; exact e4, by rw [h72]; exact e5⟩
        have z78 : (zc (zc S 79 F) 80 G) 78 = S2 78 := (ho 78 (by omega) (by omega)).symm
        have z79 : (zc (zc S 79 F) 80 G) 79 = F := by rw [zc_ne _ _ (by omega), zc_eq]
        have z80 : (zc (zc S 79 F) 80 G) 80 = G := zc_eq _ _ _
        by_cases hi : i = d
        · subst hi
          rw [List.getElem?_set_self hd] at he
          obtain rfl := Option.some.inj he
          obtain ⟨q1, q2, q3⟩ := b1 i _ (getD_at hd)
          rw [z78] at q1
          rw [z79] at q2
          rw [z80] at q3
          rw [h79, h80, upd, if_pos rfl, upd, if_pos rfl]
          exact ⟨q1, q2, rfl⟩
        · rw [List.getElem?_set_ne (Ne.symm hi)] at he
          obtain ⟨q1, q2, q3⟩ := b1 i e he
          rw [z78] at q1
          rw [z79] at q2
          rw [z80] at q3
          rw [h79, h80, upd, if_neg hi, upd, if_neg hi]
          exact ⟨q1, q2, q3⟩
      have i1' : mK (t0, t1, g, c, ro, jo, fr, se, fo, le, it, la) S2 := i1.keep ⟨fun j p q => o2 j (by omega) (by omega), fun i _ _ _ _ => by rw [o2 72 (by omega) (by omega)]⟩
      refine isSeen_s (xW_deed hK0.x (col := 2) (x := nI v) hd (by decide)).m hmI i1'.seen (fun S3 hG => ?_)
      rw [pFl_0]
      have hI3 : WJ (t0, t1, g, c, ro, jo, fr, se, fo, le, it, la) (tL 0 t0) (tL 3 t1) ro jo (pMk fr 0) g c d F G S0 S3 := by
        refine ⟨i1'.keep hG.n, i2.k2 (fun j a b => ?_) (fun i hi => ?_), ⟨_, by rw [hG.1 79 (by omega) (by omega)]; exact h79⟩, ⟨_, by rw [hG.1 80 (by omega) (by omega)]; exact h80⟩, (i5.trans (fun j hj => o2 j (by omega) (by omega))).trans hG.n.c⟩
        · by_cases h8 : j = 80
          · subst h8; rw [zc_eq, zc_eq]
          · rw [zc_ne _ _ h8, zc_ne _ _ h8]
            by_cases h9 : j = 79
            · subst h9; rw [zc_eq, zc_eq]
            · rw [zc_ne _ _ h9, zc_ne _ _ h9, hG.1 j a (by omega), o2 j h9 h8]
        · rw [zc_ne _ _ (by omega), zc_ne _ _ (by omega), zc_ne _ _ (by omega), zc_ne _ _ (by omega), hG.2 i (by omega), o2 72 (by omega) (by omega)]
      have hs := fF_succ (pe := tL 0 t0) (de := tL 3 t1) (ro := ro) (jo := jo) (fr := fr) (se := se) (g := g) (c := c) (col := 2) (d := d) (k := v)
      rw [pFt1] at hs
      refine ⟨fun z x1 ex1 x2 ex2 => ?_, fun z x1 ex1 x2 ex2 => ?_⟩
      · rw [if_neg (if01 z)] at hs
        rw [ex2, nI_1, ex1, ← hs]
        exact ih (v + 1) S3 (by omega) hI3
      · rw [if_pos (if11 z)] at hs
        rw [ex2, nI_1, ex1, ← hs]
        exact ih (v + 1) S3 (by omega) hI3
    exact b_X11_wasOf_25 ⟨fun z => absurd rfl z, fun _ => main⟩
theorem was_l1 {d : Nat} {F G : pF} {S0 : zS} (hK0 : mK (t0, t1, g, c, ro, jo, fr, se, fo, le, it, la) S0) (hd : d < (tL 3 t1).length) (h : ∀ S', mK (t0, t1, g, c, ro, jo, fr, se, fo, le, it, la) S' → mT (tL 0 t0) (tL 3 t1) S' → oC S0 S' → P (pFt (tL 0 t0) (tL 3 t1) ro jo fr se g c 1 (tL 0 t0).length d) S' L) : ∀ (e v : Nat) (S : zS), v + e = (tL 0 t0).length → WJ (t0, t1, g, c, ro, jo, fr, se, fo, le, it, la) (tL 0 t0) (tL 3 t1) ro jo (pMk fr 0) g c d F G S0 S → zU mX11_wasOf X S L 25 [some (.ref 72), some (.int (nI d)), some (.int 1), some (.int (F d)), some (.int (G d)), some (.int (fF (tL 0 t0) (tL 3 t1) ro jo fr se g c 1 d v)), some (.int (nI v))] [] (zpi P) := by
  have hl := hK0.lp
  intro e
  induction e with
  | zero =>
    intro v S hd2 hI
    obtain rfl : v = (tL 0 t0).length := by omega
    obtain ⟨i1, i2, ⟨x, i3⟩, ⟨y, i4⟩, i5⟩ := hI
    have h2 : S 72 2 = nI (tL 0 t0).length := by
      have := i2.1.2
      rw [zc_ne _ _ (by omega), zc_ne _ _ (by omega)] at this
      exact this
    have main : zU mX11_wasOf X S L 39 [some (.ref 72), some (.int (nI d)), some (.int 1), some (.int (F d)), some (.int (G d)), some (.int (fF (tL 0 t0) (tL 3 t1) ro jo fr se g c 1 d (tL 0 t0).length)), some (.int (nI (tL 0 t0).length))] [.int (nI (tL 0 t0).length), .int (nI (tL 0 t0).length)] (zpi P) := by
      refine b_X11_wasOf_39 ⟨fun _ => ?_, fun z => absurd (nI_le (Nat.le_refl _) (by omega)) z⟩
      rw [cl_nI (by omega)]
      refine ⟨vp_in_nI (by omega) (by omega), fun S1 f1 => ⟨vp_in_nI (by omega) (by omega), fun S2 f2 => ?_⟩⟩
      have hS2 : S2 = zc (zc S 79 F) 80 G := by
        have e1 : S1 = zc S 79 F := by
          rw [f1, i3]
          congr 1
          funext j
          simp only [upd]
          split
          · rename_i hj; rw [hj]
          · rfl
        rw [f2, e1, zc_ne _ _ (by omega), i4]
        congr 1
        funext j
        simp only [upd]
        split
        · rename_i hj; rw [hj]
        · rfl
      have o2 : ∀ j, j ≠ 79 → j ≠ 80 → S2 j = S j := fun j a b => by rw [hS2, zc_ne _ _ b, zc_ne _ _ a]
      exact h S2 (i1.keep ⟨fun j p q => o2 j (by omega) (by omega), fun i _ _ _ _ => by rw [o2 72 (by omega) (by omega)]⟩) (by rw [hS2]; exact i2.t) (i5.trans (fun j hj => o2 j (by omega) (by omega)))
    refine b_X11_wasOf_25 ⟨fun _ => ?_, fun z => absurd z (by decide)⟩
    rw [h2]; exact main
  | succ e ih =>
    intro v S hd2 hI
    obtain ⟨i1, i2, ⟨x, i3⟩, ⟨y, i4⟩, i5⟩ := hI
    have h2 : S 72 2 = nI (tL 0 t0).length := by
      have := i2.1.2
      rw [zc_ne _ _ (by omega), zc_ne _ _ (by omega)] at this
      exact this
    have main : zU mX11_wasOf X S L 39 [some (.ref 72), some (.int (nI d)), some (.int 1), some (.int (F d)), some (.int (G d)), some (.int (fF (tL 0 t0) (tL 3 t1) ro jo fr se g c 1 d v)), some (.int (nI v))] [.int (nI (tL 0 t0).length), .int (nI v)] (zpi P) := by
      refine b_X11_wasOf_39 ⟨fun z => absurd z (nI_ge (by omega) (by omega)), fun _ => ⟨fun z => absurd rfl z, fun _ => ?_⟩⟩
      refine b_X11_wasOf_58 ?_
      rw [cl_nI (by omega)]
      refine ⟨vp_in_nI (by omega) (by omega), fun S1 f1 => ⟨fun _ => ?_, fun z => absurd z (by decide)⟩⟩
      refine b_X11_wasOf_75 ?_
      rw [cl_nI (by omega)]
      refine ⟨vp_in_nI (by omega) (by omega), fun S2 f2 => ?_⟩
      have o2 : ∀ j, j ≠ 79 → j ≠ 80 → S2 j = S j := fun j a b => by rw [f2, zc_ne _ _ b, f1, zc_ne _ _ a]
      have h79 : S2 79 = upd F d (nI v) := by
        rw [f2, zc_ne _ _ (by omega), f1, zc_eq, i3]
        funext j
        simp only [upd]
        split
        · rfl
        · rfl
      have h80 : S2 80 = upd G d (G d) := by
        rw [f2, zc_eq, f1, zc_ne _ _ (by omega), i4]
        funext j
        simp only [upd]
        split
        · rfl
        · rfl
      have ho : ∀ j, j ≠ 79 → j ≠ 80 → S2 j = (zc (zc S 79 F) 80 G) j := fun j a b => by rw [o2 j a b, zc_ne _ _ b, zc_ne _ _ a]
      have hmI : mI S2 (tL 0 t0) ((tL 3 t1).set d (t3s ((tL 3 t1).getD d (0, 0, 0)) 1 (nI v))) ro jo 0 0 (pMk fr 0) g c := by
        obtain ⟨⟨a1, a2⟩, ⟨b1, b2⟩, ⟨c1, c2⟩, ⟨d1, d2⟩, e1, e2, e3, e4, e5⟩ := i2
        have h72 : S2 72 = (zc (zc S 79 F) 80 G) 72 := ho 72 (by omega) (by omega)
        refine ⟨⟨a1.keep (ho _ (by omega) (by omega)) (ho _ (by omega) (by omega)) (ho _ (by omega) (by omega)), by rw [h72]; exact a2⟩, ⟨fun i e he => ?_, by rw [h72, List.length_set]; exact b2⟩, ⟨c1.keep (ho _ (by omega) (by omega)) (ho _ (by omega) (by omega)) (ho _ (by omega) (by omega)), by rw [h72]; exact c2⟩, ⟨d1.keep (ho _ (by omega) (by omega)) (ho _ (by omega) (by omega)) (ho _ (by omega) (by omega)), by rw [h72]; exact d2⟩, by rw [h72]; exact e1, by rw [h72]; exact e2, by rw [h72]; exact e3, by rw [h72]; exact e4, by rw [h72]; exact e5⟩
        have z78 : (zc (zc S 79 F) 80 G) 78 = S2 78 := (ho 78 (by omega) (by omega)).symm
        have z79 : (zc (zc S 79 F) 80 G) 79 = F := by rw [zc_ne _ _ (by omega), zc_eq]
        have z80 : (zc (zc S 79 F) 80 G) 80 = G := zc_eq _ _ _
        by_cases hi : i = d
        · subst hi
          rw [List.getElem?_set_self hd] at he
          obtain rfl := Option.some.inj he
          obtain ⟨q1, q2, q3⟩ := b1 i _ (getD_at hd)
          rw [z78] at q1
          rw [z79] at q2
          rw [z80] at q3
          rw [h79, h80, upd, if_pos rfl, upd, if_pos rfl]
          exact ⟨q1, rfl, q3⟩
        · rw [List.getElem?_set_ne (Ne.symm hi)] at he
          obtain ⟨q1, q2, q3⟩ := b1 i e he
          rw [z78] at q1
          rw [z79] at q2
          rw [z80] at q3
          rw [h79, h80, upd, if_neg hi, upd, if_neg hi]
          exact ⟨q1, q2, q3⟩
      have i1' : mK (t0, t1, g, c, ro, jo, fr, se, fo, le, it, la) S2 := i1.keep ⟨fun j p q => o2 j (by omega) (by omega), fun i _ _ _ _ => by rw [o2 72 (by omega) (by omega)]⟩
      refine isSeen_s (xW_deed hK0.x (col := 1) (x := nI v) hd (by decide)).m hmI i1'.seen (fun S3 hG => ?_)
      rw [pFl_0]
      have hI3 : WJ (t0, t1, g, c, ro, jo, fr, se, fo, le, it, la) (tL 0 t0) (tL 3 t1) ro jo (pMk fr 0) g c d F G S0 S3 := by
        refine ⟨i1'.keep hG.n, i2.k2 (fun j a b => ?_) (fun i hi => ?_), ⟨_, by rw [hG.1 79 (by omega) (by omega)]; exact h79⟩, ⟨_, by rw [hG.1 80 (by omega) (by omega)]; exact h80⟩, (i5.trans (fun j hj => o2 j (by omega) (by omega))).trans hG.n.c⟩
        · by_cases h8 : j = 80
          · subst h8; rw [zc_eq, zc_eq]
          · rw [zc_ne _ _ h8, zc_ne _ _ h8]
            by_cases h9 : j = 79
            · subst h9; rw [zc_eq, zc_eq]
            · rw [zc_ne _ _ h9, zc_ne _ _ h9, hG.1 j a (by omega), o2 j h9 h8]
        · rw [zc_ne _ _ (by omega), zc_ne _ _ (by omega), zc_ne _ _ (by omega), zc_ne _ _ (by omega), hG.2 i (by omega), o2 72 (by omega) (by omega)]
      have hs := fF_succ (pe := tL 0 t0) (de := tL 3 t1) (ro := ro) (jo := jo) (fr := fr) (se := se) (g := g) (c := c) (col := 1) (d := d) (k := v)
      rw [pFt1] at hs
      refine ⟨fun z x1 ex1 x2 ex2 => ?_, fun z x1 ex1 x2 ex2 => ?_⟩
      · rw [if_neg (if01 z)] at hs
        rw [ex2, nI_1, ex1, ← hs]
        exact ih (v + 1) S3 (by omega) hI3
      · rw [if_pos (if11 z)] at hs
        rw [ex2, nI_1, ex1, ← hs]
        exact ih (v + 1) S3 (by omega) hI3
    refine b_X11_wasOf_25 ⟨fun _ => ?_, fun z => absurd z (by decide)⟩
    rw [h2]; exact main
theorem wasOf_m {d : Nat} {w : Int32} (hK : mK (t0, t1, g, c, ro, jo, fr, se, fo, le, it, la) S) (hd : d < (tL 3 t1).length) (hw : w = 0 ∨ w = 1) (h : ∀ S', mK (t0, t1, g, c, ro, jo, fr, se, fo, le, it, la) S' → mT (tL 0 t0) (tL 3 t1) S' → oC S S' → P (if w = 0 then pFt (tL 0 t0) (tL 3 t1) ro jo fr se g c 2 4 d else pFt (tL 0 t0) (tL 3 t1) ro jo fr se g c 1 (tL 0 t0).length d) S' L) : zCi mX11_wasOf S L [.ref 72, .int (nI d), .int w] P := by
  have hl := hK.lp
  refine e_X11_wasOf (fun X => b_X11_wasOf_0 (asTold_m hK (fun S1 hK1 hI1 n1 => ?_)))
  rw [cl_nI (by omega)]
  refine ⟨vp_in_nI (by omega) (by omega), fun x1 ex1 => ⟨vp_in_nI (by omega) (by omega), fun x2 ex2 => ?_⟩⟩
  have hI : WJ (t0, t1, g, c, ro, jo, fr, se, fo, le, it, la) (tL 0 t0) (tL 3 t1) ro jo (pMk fr 0) g c d (S1 79) (S1 80) S S1 := by
    refine ⟨hK1, ?_, ⟨_, (upd_same rfl).symm⟩, ⟨_, (upd_same rfl).symm⟩, n1.c⟩
    have e : zc (zc S1 79 (S1 79)) 80 (S1 80) = S1 := by rw [zc_self, zc_self]
    rw [e]; exact hI1
  rw [ex1, ex2]
  rcases hw with rfl | rfl
  · rw [if_pos rfl] at h
    exact was_l0 (S0 := S) hK hd h 4 0 S1 (by omega) hI
  · rw [if_neg (by decide)] at h
    exact was_l1 (S0 := S) hK hd h (tL 0 t0).length 0 S1 (by omega) hI
theorem w01 {w : Int32} (h : (0 : Int32) ≤ w ∧ w ≤ (1 : Int32)) : w = 0 ∨ w = 1 := by
  obtain ⟨j, hj, rfl⟩ := rng_lit (n := 1) rfl (by omega) h
  rcases (show j = 0 ∨ j = 1 by omega) with rfl | rfl
  · exact Or.inl rfl
  · exact Or.inr rfl
theorem was_m {d w : Int32} (hK : mK (t0, t1, g, c, ro, jo, fr, se, fo, le, it, la) S) (h : ∀ S', mK (t0, t1, g, c, ro, jo, fr, se, fo, le, it, la) S' → oC S S' → P (qWas d w (t0, t1, g, c, ro, jo, fr, se, fo, le, it, la)) S' L) : zCi mX11_was S L [.ref 72, .int d, .int w] P := by
  simp only [qWas, aWas] at h
  have hl := hK.lp
  refine e_X11_was (fun X => b_X11_was_0 (isDeed_m hK (fun S1 hK1 hT1 o1 => ⟨fun z => ?_, fun z => ⟨fun q2 => ?_, fun q2 => ?_⟩⟩)))
  · rw [if_neg (fun y => if01 z y.1)] at h; exact h S1 hK1 o1
  · rw [if_pos ⟨if11 z, q2⟩] at h
    obtain ⟨d, hd, rfl⟩ := rng_ix (by omega) (if11 z)
    rw [cl_nI (by omega)] at h
    exact wasOf_m hK1 hd (w01 q2) (fun S' a _ b => h S' a (o1.trans b))
  · rw [if_neg (fun y => q2 y.2)] at h; exact h S1 hK1 o1
/-! the next month to look -/
theorem pAl_n {bits : Int32} {W : Nat → Nat → Int32} {m d : Nat} : ∀ (e b a : Nat), ∃ u, u ≤ a + e ∧ (List.range' b e).foldl (pAl1 bits W m d) (nI a) = nI u
  | 0, b, a => ⟨a, Nat.le_refl _, rfl⟩
  | e + 1, b, a => by
    rw [List.range'_succ, List.foldl_cons, pAl1]
    split
    · obtain ⟨u, hu, hue⟩ := pAl_n (bits := bits) (W := W) (m := m) (d := d) e (b + 1) (a + 1)
      exact ⟨u, by omega, by rw [nI_1]; exact hue⟩
    · obtain ⟨u, hu, hue⟩ := pAl_n (bits := bits) (W := W) (m := m) (d := d) e (b + 1) a
      exact ⟨u, by omega, hue⟩
theorem pAl_le {bits : Int32} {W : Nat → Nat → Int32} {nd m d : Nat} : ∃ u, u ≤ nd ∧ pAl bits W nd m d = nI u := by
  obtain ⟨u, hu, hue⟩ := pAl_n (bits := bits) (W := W) (m := m) (d := d) nd 0 0
  refine ⟨u, by omega, ?_⟩
  unfold pAl
  rw [List.range_eq_range']; exact hue
abbrev fM (bits : Int32) (W : Nat → Nat → Int32) (nd m k : Nat) : Int32 := (List.range k).foldl (pMx1 bits W nd m) 0
theorem fM_succ {bits : Int32} {W : Nat → Nat → Int32} {nd m k : Nat} : fM bits W nd m (k + 1) = pMx1 bits W nd m (fM bits W nd m k) k := by
  unfold fM; rw [List.range_succ, List.foldl_append, List.foldl_cons, List.foldl_nil]
theorem fM_le {bits : Int32} {W : Nat → Nat → Int32} {nd m : Nat} : ∀ k, ∃ u, u ≤ nd ∧ fM bits W nd m k = nI u
  | 0 => ⟨0, Nat.zero_le _, rfl⟩
  | k + 1 => by
    rw [fM_succ, pMx1]
    split
    · split
      · exact pAl_le
      · exact fM_le k
    · exact fM_le k
abbrev fA (bits : Int32) (W : Nat → Nat → Int32) (nd k : Nat) : Nat × Int32 := (List.range k).foldl (pAk1 bits W nd) (0, 11)
theorem fA_succ {bits : Int32} {W : Nat → Nat → Int32} {nd k : Nat} : fA bits W nd (k + 1) = pAk1 bits W nd (fA bits W nd k) k := by
  unfold fA; rw [List.range_succ, List.foldl_append, List.foldl_cons, List.foldl_nil]
theorem fA_le {bits : Int32} {W : Nat → Nat → Int32} {nd : Nat} : ∀ k, (fA bits W nd k).1 ≤ k
  | 0 => Nat.le_refl _
  | k + 1 => by
    rw [fA_succ, pAk1]
    split
    · exact Nat.le_succ k
    · exact Nat.le_trans (fA_le k) (Nat.le_succ k)
theorem e24 (m p : Nat) : (24 : Int32) * nI m + nI p = nI (24 * m + p) := by rw [show (24 : Int32) = nI 24 by decide, pk_mul, nI_add]
section ASK
variable {bits : Int32} {W : Nat → Nat → Int32} {nd : Nat}
theorem ak_in (hnd : nd ≤ 10) (h6 : S 72 6 = nI nd) (hw : ∀ d m, d < nd → m < 24 → S 107 (24 * d + m) = W d m) {m a : Nat} (hm : m < 24) (ha : a < nd) {v3 v4 v6 : Int32} (K : ∀ x, x = (if bt bits a = true then (if v6 < pAl bits W nd m a then pAl bits W nd m a else v6) else v6) → zU mX11_askOf X S L 93 [some (.ref 72), none, some (.int bits), some (.int v3), some (.int v4), some (.int (nI m)), some (.int x), some (.int (nI (a + 1))), none, none] [] (zpi P)) (h0 : ¬ v6 < 0) : ∀ (e b : Nat) (n : Int32), b + e = nd → (bt bits a = true → (List.range' b e).foldl (pAl1 bits W m a) n = pAl bits W nd m a) → (¬ bt bits a = true → n = 0) → zU mX11_askOf X S L 108 [some (.ref 72), none, some (.int bits), some (.int v3), some (.int v4), some (.int (nI m)), some (.int v6), some (.int (nI a)), some (.int n), some (.int (nI b))] [] (zpi P) := by
  intro e
  induction e with
  | zero =>
    intro b n hb h1 h2
    refine b_X11_askOf_108 ⟨fun _ => ⟨fun z x1 ex1 => ?_, fun z x1 ex1 => ?_⟩, fun z => absurd ?_ z⟩
    · rw [ex1, nI_1]
      refine K v6 ?_
      split
      · rename_i y
        have := h1 y
        rw [List.range'_zero, List.foldl_nil] at this
        rw [← this, if_neg (i32_nlt z)]
      · rfl
    · rw [ex1, nI_1]
      refine K n ?_
      by_cases y : bt bits a = true
      · have := h1 y
        rw [List.range'_zero, List.foldl_nil] at this
        rw [if_pos y, ← this, if_pos (i32_lt z)]
      · rw [h2 y] at z
        exact absurd (i32_le h0) z
    · rw [h6]; exact nI_le (by omega) (by omega)
  | succ e ih =>
    intro b n hb h1 h2
    refine b_X11_askOf_108 ⟨fun z => absurd z ?_, fun _ => ?_⟩
    · rw [h6]; exact nI_ge (by omega) (by omega)
    rw [e24, e24, cl_nI (by omega), cl_nI (by omega), hw a m ha hm, hw b m (by omega) hm]
    have go : ∀ n', (bt bits a = true → n' = pAl1 bits W m a n b) → (¬ bt bits a = true → n' = 0) → ∀ x1 : Int32, x1 = n' → ∀ x2 : Int32, x2 = nI b + (1 : Int32) → zU mX11_askOf X S L 108 [some (.ref 72), none, some (.int bits), some (.int v3), some (.int v4), some (.int (nI m)), some (.int v6), some (.int (nI a)), some (.int x1), some (.int x2)] [] (zpi P) := by
      intro n' k1 k2 x1 ex1 x2 ex2
      rw [ex1, ex2, nI_1]
      refine ih (b + 1) n' (by omega) (fun y => ?_) k2
      have := h1 y
      rw [List.range'_succ, List.foldl_cons] at this
      rw [k1 y]; exact this
    refine ⟨fun z1 => ⟨fun z2 => ⟨vp_in_nI (by omega) (by omega), vp_in_nI (by omega) (by omega), fun z3 => ?_, fun z3 => ?_⟩, fun z2 => ?_⟩, fun z1 => ?_⟩
    · refine go (n + 0) (fun _ => ?_) (fun y => absurd ((b_low1 (by omega)).mp z1) y)
      rw [pAl1, if_neg (fun y => z3 y.2.symm), Int32.add_zero]
    · refine go (n + 1) (fun _ => ?_) (fun y => absurd ((b_low1 (by omega)).mp z1) y)
      rw [pAl1, if_pos ⟨(b_low1 (by omega)).mp z2, z3.symm⟩]
    · refine go (n + 0) (fun _ => ?_) (fun y => absurd ((b_low1 (by omega)).mp z1) y)
      rw [pAl1, if_neg (fun y => z2 ((b_low1 (by omega)).mpr y.1)), Int32.add_zero]
    · refine go (n + 0) (fun y => absurd ((b_low1 (by omega)).mpr y) z1) (fun y => ?_)
      rw [h2 y]; rfl
theorem ak_mid (hnd : nd ≤ 10) (h6 : S 72 6 = nI nd) (hw : ∀ d m, d < nd → m < 24 → S 107 (24 * d + m) = W d m) {m : Nat} (hm : m < 24) {v3 v4 : Int32} (K1 : v3 = -1 ∨ pMx bits W nd m < v4 → zU mX11_askOf X S L 80 [some (.ref 72), none, some (.int bits), some (.int (nI m)), some (.int (pMx bits W nd m)), some (.int (nI (m + 1))), none, none, none, none] [] (zpi P)) (K2 : ¬ v3 = -1 → ¬ pMx bits W nd m < v4 → zU mX11_askOf X S L 80 [some (.ref 72), none, some (.int bits), some (.int v3), some (.int v4), some (.int (nI (m + 1))), none, none, none, none] [] (zpi P)) : ∀ (e a : Nat), a + e = nd → zU mX11_askOf X S L 93 [some (.ref 72), none, some (.int bits), some (.int v3), some (.int v4), some (.int (nI m)), some (.int (fM bits W nd m a)), some (.int (nI a)), none, none] [] (zpi P) := by
  intro e
  induction e with
  | zero =>
    intro a ha
    obtain rfl : a = nd := by omega
    have take : (v3 = -1 ∨ pMx bits W a m < v4) → zU mX11_askOf X S L 214 [some (.ref 72), none, some (.int bits), some (.int v3), some (.int v4), some (.int (nI m)), some (.int (fM bits W a m a)), none, none, none] [] (zpi P) := by
      intro z
      refine b_X11_askOf_214 (b_X11_askOf_219 ⟨fun y => absurd y (by decide), fun _ => b_X11_askOf_232 ⟨fun y => absurd y (by decide), fun _ x1 ex1 => ?_⟩⟩)
      rw [ex1, nI_1]
      exact K1 z
    refine b_X11_askOf_93 ⟨fun _ => ⟨fun z => take (Or.inl z), fun z => ⟨fun z2 => ?_, fun z2 => take (Or.inr (i32_lt z2))⟩⟩, fun z => absurd ?_ z⟩
    · refine b_X11_askOf_219 ⟨fun _ => b_X11_askOf_232 ⟨fun _ x1 ex1 => ?_, fun y => absurd rfl y⟩, fun y => absurd rfl y⟩
      rw [ex1, nI_1]
      exact K2 z (i32_nlt z2)
    · rw [h6]; exact nI_le (Nat.le_refl _) (by omega)
  | succ e ih =>
    intro a ha
    refine b_X11_askOf_93 ⟨fun z => absurd z ?_, fun _ => ?_⟩
    · rw [h6]; exact nI_ge (by omega) (by omega)
    refine ak_in hnd h6 hw hm (show a < nd by omega) (fun x hx => ?_) ?_ nd 0 0 (by omega) (fun _ => ?_) (fun _ => rfl)
    · have : x = fM bits W nd m (a + 1) := by rw [hx, fM_succ, pMx1]
      rw [this]
      exact ih (a + 1) (by omega)
    · obtain ⟨u, hu, hue⟩ := fM_le (bits := bits) (W := W) (nd := nd) (m := m) a
      rw [hue]; exact nI_pos (by omega)
    · unfold pAl; rw [List.range_eq_range']
theorem ak_out (hnd : nd ≤ 10) (h6 : S 72 6 = nI nd) (hw : ∀ d m, d < nd → m < 24 → S 107 (24 * d + m) = W d m) (h : P (nI (pAk bits W nd).1) S L) : ∀ (e m : Nat), m + e = 24 → zU mX11_askOf X S L 80 [some (.ref 72), none, some (.int bits), some (.int (if m = 0 then -1 else nI (fA bits W nd m).1)), some (.int (if m = 0 then 0 else (fA bits W nd m).2)), some (.int (nI m)), none, none, none, none] [] (zpi P) := by
  intro e
  induction e with
  | zero =>
    intro m hm
    obtain rfl : m = 24 := by omega
    exact b_X11_askOf_80 ⟨fun _ => h, fun z => absurd (by decide) z⟩
  | succ e ih =>
    intro m hm
    refine b_X11_askOf_80 ⟨fun z => absurd z (nI_ge (b := 24) (by omega) (by omega)), fun _ => ?_⟩
    have hi := ih (m + 1) (by omega)
    rw [if_neg (by omega), if_neg (by omega), fA_succ, pAk1] at hi
    refine ak_mid hnd h6 hw (by omega) (fun z => ?_) (fun z1 z2 => ?_) nd 0 (by omega)
    · have hlt : pMx bits W nd m < (fA bits W nd m).2 := by
        by_cases h0 : m = 0
        · subst h0
          obtain ⟨u, hu, hue⟩ := fM_le (bits := bits) (W := W) (nd := nd) (m := 0) nd
          have e1 : pMx bits W nd 0 = nI u := hue
          rw [e1]
          exact nI_lt (b := 11) (by omega) (by omega)
        · rw [if_neg h0, if_neg h0] at z
          have := fA_le (bits := bits) (W := W) (nd := nd) m
          exact z.resolve_left (nI_n1 (by omega))
      rw [if_pos hlt] at hi
      exact hi
    · have h0 : ¬ m = 0 := fun y => z1 (by rw [if_pos y])
      rw [if_neg h0] at z2
      rw [if_neg h0, if_neg h0]
      rw [if_neg z2] at hi
      exact hi
end ASK
def AJ (σ : sg) (pe de : List T3) (fb : Int32) (W : Nat → Nat → Int32) (S0 : zS) (d m : Nat) (S : zS) : Prop := LJ σ pe de fb S0 S ∧ ∀ d' m', d' < de.length → m' < 24 → (d' < d ∨ d' = d ∧ m' < m) → S 107 (24 * d' + m') = W d' m'
theorem LJ.of107 {σ : sg} {pe de : List T3} {fb : Int32} {S0 S S' : zS} (h : LJ σ pe de fb S0 S) (o : ∀ j, j ≠ 107 → S' j = S j) : LJ σ pe de fb S0 S' := by
  obtain ⟨t0, t1, g, c, ro, jo, fr, se, fo, le, it, la⟩ := σ
  obtain ⟨h1, h2, h3, h4, h5⟩ := h
  have n : nF S S' := ⟨fun j a b => o j (by omega), fun i _ _ _ _ => by rw [o 72 (by omega)]⟩
  exact ⟨h1.keep n, ⟨h2.1.keep (o _ (by omega)) (o _ (by omega)) (o _ (by omega)) (by rw [o 72 (by omega)]), h2.2.keep (o _ (by omega)) (o _ (by omega)) (o _ (by omega)) (by rw [o 72 (by omega)])⟩, by rw [o 72 (by omega)]; exact h3, by rw [o 72 (by omega)]; exact h4, h5.trans (fun j hj => o j (by omega))⟩
theorem ak_keep {S0 : zS} {W : Nat → Nat → Int32} {p d : Nat} {bits : Int32} (hl : (tL 3 t1).length ≤ 10) (hd : d < (tL 3 t1).length) (hp : p < 8) (K : ∀ S', AJ (t0, t1, g, c, ro, jo, fr, se, fo, le, it, la) (tL 0 t0) (tL 3 t1) (pMk fr 0) W S0 (d + 1) 0 S' → zU mX11_askOf X S' L 7 [some (.ref 72), some (.int (nI p)), some (.int bits), some (.int (nI (d + 1))), none, none, none, none, none, none] [] (zpi P)) : ∀ (e m : Nat) (S : zS), m + e = 24 → AJ (t0, t1, g, c, ro, jo, fr, se, fo, le, it, la) (tL 0 t0) (tL 3 t1) (pMk fr 0) W S0 d m S → (∀ m', m' < 24 → S 95 (8 * m' + p) = W d m') → zU mX11_askOf X S L 29 [some (.ref 72), some (.int (nI p)), some (.int bits), some (.int (nI d)), some (.int (nI m)), none, none, none, none, none] [] (zpi P) := by
  intro e
  induction e with
  | zero =>
    intro m S hm hI _
    obtain rfl : m = 24 := by omega
    refine b_X11_askOf_29 ⟨fun _ x1 ex1 => ?_, fun z => absurd (by decide) z⟩
    rw [ex1, nI_1]
    exact K S ⟨hI.1, fun d' m' a b q => hI.2 d' m' a b (by omega)⟩
  | succ e ih =>
    intro m S hm hI h95
    refine b_X11_askOf_29 ⟨fun z => absurd z (nI_ge (b := 24) (by omega) (by omega)), fun _ => ?_⟩
    rw [e8, e24, cl_nI (by omega), cl_nI (by omega), h95 m (by omega)]
    refine ⟨vp_in_nI (by omega) (by omega), vp_in_nI (by omega) (by omega), fun S1 f1 x1 ex1 => ?_⟩
    rw [ex1, nI_1]
    have o1 : ∀ j, j ≠ 107 → S1 j = S j := fun j hj => by rw [f1, zc_ne _ _ hj]
    refine ih (m + 1) S1 (by omega) ⟨hI.1.of107 o1, fun d' m' a b q => ?_⟩ (fun m' h' => by rw [o1 95 (by omega)]; exact h95 m' h')
    rw [f1, zc_eq, upd]
    by_cases y : 24 * d' + m' = 24 * d + m
    · rw [if_pos y]
      have e1 : d' = d := by omega
      have e2 : m' = m := by omega
      rw [e1, e2]
    · rw [if_neg y]
      exact hI.2 d' m' a b (by omega)
theorem ak_runs {S0 : zS} {p : Nat} (hK0 : mK (t0, t1, g, c, ro, jo, fr, se, fo, le, it, la) S0) (hp : p < (tL 0 t0).length) (h : ∀ S', mK (t0, t1, g, c, ro, jo, fr, se, fo, le, it, la) S' → mT (tL 0 t0) (tL 3 t1) S' → oC S0 S' → P (nI (pAk (pNv (tL 0 t0) (tL 3 t1) ro jo fr se g c) (pWd (tL 0 t0) (tL 3 t1) ro jo fr g c p) (tL 3 t1).length).1) S' L) : ∀ (e d : Nat) (S : zS), d + e = (tL 3 t1).length → AJ (t0, t1, g, c, ro, jo, fr, se, fo, le, it, la) (tL 0 t0) (tL 3 t1) (pMk fr 0) (pWd (tL 0 t0) (tL 3 t1) ro jo fr g c p) S0 d 0 S → zU mX11_askOf X S L 7 [some (.ref 72), some (.int (nI p)), some (.int (pNv (tL 0 t0) (tL 3 t1) ro jo fr se g c)), some (.int (nI d)), none, none, none, none, none, none] [] (zpi P) := by
  have hl := hK0.lp
  intro e
  induction e with
  | zero =>
    intro d S hd hI
    obtain rfl : d = (tL 3 t1).length := by omega
    refine b_X11_askOf_7 ⟨fun _ => ?_, fun z => absurd ?_ z⟩
    · exact ak_out (bits := pNv (tL 0 t0) (tL 3 t1) ro jo fr se g c) (W := pWd (tL 0 t0) (tL 3 t1) ro jo fr g c p) hl.2 hI.1.2.1.2.2 (fun d m a b => hI.2 d m a b (Or.inl a)) (h S hI.1.1 hI.1.2.1 hI.1.2.2.2.2) 24 0 (by omega)
    · rw [hI.1.2.1.2.2]; exact nI_le (Nat.le_refl _) (by omega)
  | succ e ih =>
    intro d S hd hI
    obtain ⟨⟨h1, h2, h3, h4, h5⟩, h6⟩ := hI
    have hdl : d < (tL 3 t1).length := by omega
    refine b_X11_askOf_7 ⟨fun z => absurd z ?_, fun _ S1 f1 => ?_⟩
    · rw [h2.2.2]; exact nI_ge hdl (by omega)
    have o1 : ∀ j, j ≠ 72 → S1 j = S j := fun j hj => by rw [f1, zc_ne _ _ hj]
    have g1 : ∀ i, i ≠ 22 → S1 72 i = S 72 i := fun i hi => by rw [f1, zc_eq, upd, if_neg hi]
    have n1 : nF S S1 := ⟨fun j a _ => o1 j a, fun i _ _ d _ => g1 i (by omega)⟩
    have hT1 : mT (tL 0 t0) (tL 3 t1) S1 := ⟨h2.1.keep (o1 _ (by omega)) (o1 _ (by omega)) (o1 _ (by omega)) (g1 _ (by omega)), h2.2.keep (o1 _ (by omega)) (o1 _ (by omega)) (o1 _ (by omega)) (g1 _ (by omega))⟩
    have hm1 := mI_of (h1.keep n1) hT1 (nd := (1 : Int32) <<< (nI d &&& 31)) (nr := 0) (fb := pMk fr 0) (by rw [f1, zc_eq, upd, if_pos rfl]) (by rw [g1 _ (by omega)]; exact h3) (by rw [g1 _ (by omega)]; exact h4)
    refine runs_s hK0.x.m hm1 (fun S2 hZ hR hG => ?_)
    simp only [mC, pFl_0] at hR
    rw [pFl_one (tL 3 t1) 0 d hdl (fun k hk => by rw [Nat.zero_add, b_one (by omega) (by omega)])] at hR
    have hI2 : LJ (t0, t1, g, c, ro, jo, fr, se, fo, le, it, la) (tL 0 t0) (tL 3 t1) (pMk fr 0) S0 S2 := ⟨(h1.keep n1).keep hG.n, hT1.keep hG, by rw [hG.2 _ (by omega), g1 _ (by omega)]; exact h3, by rw [hG.2 _ (by omega), g1 _ (by omega)]; exact h4, (h5.trans n1.c).trans hG.n.c⟩
    refine ak_keep (S0 := S0) (W := pWd (tL 0 t0) (tL 3 t1) ro jo fr g c p) hl.2 hdl (by omega) (fun S' hI' => ih (d + 1) S' (by omega) hI') 24 0 S2 (by omega) ⟨hI2, fun d' m' a b q => ?_⟩ (fun m' hm' => ((hR m' hm').1 p hp).1)
    rw [hG.1 107 (by omega) (by omega), o1 107 (by omega)]
    exact h6 d' m' a b (by omega)
theorem askOf_m {p : Nat} (hK : mK (t0, t1, g, c, ro, jo, fr, se, fo, le, it, la) S) (hp : p < (tL 0 t0).length) (h : ∀ S', mK (t0, t1, g, c, ro, jo, fr, se, fo, le, it, la) S' → mT (tL 0 t0) (tL 3 t1) S' → oC S S' → P (nI (pAk (pNv (tL 0 t0) (tL 3 t1) ro jo fr se g c) (pWd (tL 0 t0) (tL 3 t1) ro jo fr g c p) (tL 3 t1).length).1) S' L) : zCi mX11_askOf S L [.ref 72, .int (nI p)] P :=
  e_X11_askOf (fun X => b_X11_askOf_0 (neverNow_m hK (fun S1 hI => ak_runs (S0 := S) hK hp h (tL 3 t1).length 0 S1 (by omega) ⟨hI, fun d' m' _ _ q => by omega⟩)))
theorem ask_m {p : Int32} (hK : mK (t0, t1, g, c, ro, jo, fr, se, fo, le, it, la) S) (h : ∀ S', mK (t0, t1, g, c, ro, jo, fr, se, fo, le, it, la) S' → oC S S' → P (qAsk p (t0, t1, g, c, ro, jo, fr, se, fo, le, it, la)) S' L) : zCi mX11_ask S L [.ref 72, .int p] P := by
  simp only [qAsk, aAsk] at h
  have hl := hK.lp
  refine e_X11_ask (fun X => b_X11_ask_0 (isPerson_m hK (fun S1 hK1 hT1 o1 => ⟨fun z => ?_, fun z => ?_⟩)))
  · rw [if_neg (if01 z)] at h; exact h S1 hK1 o1
  · rw [if_pos (if11 z)] at h
    obtain ⟨p, hp, rfl⟩ := rng_ix (by omega) (if11 z)
    rw [cl_nI (by omega)] at h
    exact askOf_m hK1 hp (fun S' a _ b => h S' a (o1.trans b))
/-! other years -/
def YJ (σ : sg) (pe ro jo : List T3) (fb : Int32) (N : Nat) (S0 : zS) (acc : List T3) (S : zS) : Prop := mK σ S ∧ oC S0 S ∧ mL 75 76 77 2 pe S ∧ zRl S 78 79 80 acc ∧ S 72 6 = nI N ∧ S 72 22 = 0 ∧ S 72 23 = 0 ∧ S 72 24 = fb
theorem ye_l {S0 : zS} {w : Int32} {N : Nat} {l : List T3} (hK0 : mK (t0, t1, g, c, ro, jo, fr, se, fo, le, it, la) S0) (hN : N ≤ 10) (hl0 : ∀ e ∈ l, deE e) (hll : l.length = N) (h : ∀ S', mK (t0, t1, g, c, ro, jo, fr, se, fo, le, it, la) S' → oC S0 S' → P (if w = 0 then pWr (pCf (tL 0 t0) l ro jo fr g c 24).1 else pTx (tL 0 t0).length (pCf (tL 0 t0) l ro jo fr g c 12) + pTx (tL 0 t0).length (pCf (tL 0 t0) l ro jo fr g c 24)) S' L) : ∀ (e i : Nat) (acc : List T3) (s : Int32) (S : zS), i + e = N → acc.length = i → YJ (t0, t1, g, c, ro, jo, fr, se, fo, le, it, la) (tL 0 t0) ro jo (pMk fr 0) N S0 acc S → (0 < e → 0 < (tL 0 t0).length) → l = acc ++ pYd (nI (tL 0 t0).length) e s → zU mX11_yearsOf X S L 26 [some (.ref 72), none, none, some (.int w), some (.int s), some (.int (nI i))] [] (zpi P) := by
  have hl := hK0.lp
  intro e
  induction e with
  | zero =>
    intro i acc s S hi ha hI _ hla
    obtain rfl : i = N := by omega
    obtain ⟨j1, j2, j3, j4, j5, j6, j7, j8⟩ := hI
    rw [pYd, List.append_nil] at hla
    subst hla
    have hW := hK0.x.to_de (de' := l) (by omega) hl0
    have hm : mI S (tL 0 t0) l ro jo 0 0 (pMk fr 0) g c := by
      obtain ⟨-, -, -, -, ⟨g1, g2⟩, r1, r2, -⟩ := j1
      exact ⟨j3, ⟨j4, by rw [j5, ha]⟩, r1, r2, j6, j7, j8, g1, g2⟩
    refine b_X11_yearsOf_26 ⟨fun _ => ?_, fun z => absurd ?_ z⟩
    · refine runs_s hW.m hm (fun S1 hZ hR hG => ?_)
      simp only [mC, pFl_0] at hZ hR
      have hh := h S1 (j1.keep hG.n) (j2.trans hG.n.c)
      refine ⟨fun z => ?_, fun z => ?_⟩
      · rw [if_neg z] at hh
        refine ⟨show vp_in (nI 0) 2 from vp_in_nI (by omega) (by omega), show vp_in (nI 1) 2 from vp_in_nI (by omega) (by omega), ?_⟩
        have a1 : S1 102 0 = pTx (tL 0 t0).length (pCf (tL 0 t0) l ro jo fr g c 12) := (hR 11 (by omega)).2.2.2.2.1 rfl
        have a2 : S1 102 1 = pTx (tL 0 t0).length (pCf (tL 0 t0) l ro jo fr g c 24) := (hR 23 (by omega)).2.2.2.2.2 rfl
        rw [show (0 : Int32).toNatClampNeg = 0 by decide, show (1 : Int32).toNatClampNeg = 1 by decide, a1, a2]
        exact hh
      · rw [if_pos z] at hh
        exact mworth_s hZ hh
    · rw [j5]; exact nI_le (Nat.le_refl _) (by omega)
  | succ e ih =>
    intro i acc s S hi ha hI hnp hla
    obtain ⟨j1, j2, j3, j4, j5, j6, j7, j8⟩ := hI
    have hp := hnp (by omega)
    refine b_X11_yearsOf_26 ⟨fun z => absurd z ?_, fun _ => ?_⟩
    · rw [j5]; exact nI_ge (by omega) (by omega)
    rw [cl_nI (by omega)]
    refine fun x1 ex1 => ⟨vp_in_nI (by omega) (by omega), fun S1 f1 x2 ex2 => ?_⟩
    have s2 : S1 72 2 = nI (tL 0 t0).length := by rw [f1, zc_ne _ _ (by omega)]; exact j3.2
    rw [s2]
    refine ⟨fun z => ?_, vp_in_nI (by omega) (by omega), fun S2 f2 x3 ex3 => ⟨vp_in_nI (by omega) (by omega), fun S3 f3 x4 ex4 => ?_⟩⟩
    · have := (nI_eq (b := 0) (by omega) (by omega)).mp z
      omega
    rw [ex4, nI_1]
    have o3 : ∀ j, j ≠ 78 → j ≠ 79 → j ≠ 80 → S3 j = S j := fun j a b d => by rw [f3, zc_ne _ _ d, f2, zc_ne _ _ b, f1, zc_ne _ _ a]
    have h72 : S3 72 = S 72 := o3 72 (by omega) (by omega) (by omega)
    have k78 : S3 78 = upd (S 78) i (lotV x1 24) := by rw [f3, zc_ne _ _ (by omega), f2, zc_ne _ _ (by omega), f1, zc_eq]
    have k79 : S3 79 = upd (S 79) i (lotV x2 (nI (tL 0 t0).length)) := by rw [f3, zc_ne _ _ (by omega), f2, zc_eq, f1, zc_ne _ _ (by omega)]
    have k80 : S3 80 = upd (S 80) i (lotV x3 4) := by rw [f3, zc_eq, f2, zc_ne _ _ (by omega), f1, zc_ne _ _ (by omega)]
    refine ih (i + 1) (acc ++ [(lotV x1 24, lotV x2 (nI (tL 0 t0).length), lotV x3 4)]) x3 S3 (by omega) (by rw [List.length_append, ha]; rfl) ⟨j1.keep ⟨fun j a b => o3 j (by omega) (by omega) (by omega), fun i _ _ _ _ => by rw [h72]⟩, j2.trans (fun j hj => o3 j (by omega) (by omega) (by omega)), j3.keep (o3 _ (by omega) (by omega) (by omega)) (o3 _ (by omega) (by omega) (by omega)) (o3 _ (by omega) (by omega) (by omega)) (by rw [h72]), fun q e he => ?_, by rw [h72]; exact j5, by rw [h72]; exact j6, by rw [h72]; exact j7, by rw [h72]; exact j8⟩ (fun _ => hp) ?_
    · rw [k78, k79, k80]
      by_cases hq : q < acc.length
      · rw [List.getElem?_append_left hq] at he
        rw [upd, if_neg (by omega), upd, if_neg (by omega), upd, if_neg (by omega)]
        exact j4 q e he
      · rw [List.getElem?_append_right (by omega)] at he
        have hz : q - acc.length < 1 := (List.getElem?_eq_some_iff.mp he).1
        have hq2 : q = acc.length := by omega
        subst hq2
        simp at he
        subst he
        rw [ha, upd, if_pos rfl, upd, if_pos rfl, upd, if_pos rfl]
        exact ⟨rfl, rfl, rfl⟩
    · have e1 : x1 = lotN s := ex1
      have e2 : x2 = lotN (lotN s) := by rw [ex2, e1]; rfl
      have e3 : x3 = lotN (lotN (lotN s)) := by rw [ex3, e2]; rfl
      rw [hla, pYd, e1, e2, e3, List.append_assoc]
      rfl
theorem yearsOf_m {n : Nat} {seed w : Int32} (hK : mK (t0, t1, g, c, ro, jo, fr, se, fo, le, it, la) S) (hn : n ≤ 10) (h : ∀ S', mK (t0, t1, g, c, ro, jo, fr, se, fo, le, it, la) S' → oC S S' → P (if w = 0 then pWr (pCf (tL 0 t0) (pYl (tL 0 t0).length n seed) ro jo fr g c 24).1 else pTx (tL 0 t0).length (pCf (tL 0 t0) (pYl (tL 0 t0).length n seed) ro jo fr g c 12) + pTx (tL 0 t0).length (pCf (tL 0 t0) (pYl (tL 0 t0).length n seed) ro jo fr g c 24)) S' L) : zCi mX11_yearsOf S L [.ref 72, .int seed, .int (nI n), .int w] P := by
  have hl := hK.lp
  refine e_X11_yearsOf (fun X => b_X11_yearsOf_0 (asTold_m hK (fun S1 hK1 hI1 n1 => ?_)))
  have go : ∀ N S2, S2 = zc S1 72 (upd (S1 72) 6 (nI N)) → YJ (t0, t1, g, c, ro, jo, fr, se, fo, le, it, la) (tL 0 t0) ro jo (pMk fr 0) N S [] S2 := by
    intro N S2 f2
    have o2 : ∀ j, j ≠ 72 → S2 j = S1 j := fun j hj => by rw [f2, zc_ne _ _ hj]
    have g2 : ∀ i, i ≠ 6 → S2 72 i = S1 72 i := fun i hi => by rw [f2, zc_eq, upd, if_neg hi]
    have n2 : nF S1 S2 := ⟨fun j a _ => o2 j a, fun i _ b _ _ => g2 i b⟩
    have hT := hI1.t.1
    exact ⟨hK1.keep n2, (n1.trans n2).c, hT.keep (o2 _ (by omega)) (o2 _ (by omega)) (o2 _ (by omega)) (g2 _ (by omega)), fun i e he => by simp at he, by rw [f2, zc_eq, upd, if_pos rfl], by rw [g2 _ (by omega)]; exact hI1.2.2.2.2.1, by rw [g2 _ (by omega)]; exact hI1.2.2.2.2.2.1, by rw [g2 _ (by omega)]; exact hI1.2.2.2.2.2.2.1⟩
  rw [show S1 72 2 = nI (tL 0 t0).length from hI1.1.2]
  refine ⟨fun z S2 f2 => ?_, fun z S2 f2 => ?_⟩
  · have hp : ¬ (tL 0 t0).length = 0 := fun y => z (by rw [y]; rfl)
    rw [pYl, if_neg hp] at h
    exact ye_l (S0 := S) (l := pYd (nI (tL 0 t0).length) n seed) hK hn (pYd_ok _ _ _) (pYd_len _ _ _) h n 0 [] seed S2 (by omega) rfl (go n S2 f2) (fun _ => by omega) rfl
  · have hp : (tL 0 t0).length = 0 := (nI_eq (b := 0) (by omega) (by omega)).mp z
    rw [pYl, if_pos hp] at h
    exact ye_l (S0 := S) (l := []) (N := 0) hK (by omega) (fun e he => by cases he) rfl h 0 0 [] seed S2 (by omega) rfl (go 0 S2 f2) (fun y => absurd y (by omega)) rfl
theorem years_m {seed n w : Int32} (hK : mK (t0, t1, g, c, ro, jo, fr, se, fo, le, it, la) S) (h : ∀ S', mK (t0, t1, g, c, ro, jo, fr, se, fo, le, it, la) S' → oC S S' → P (qYears seed n w (t0, t1, g, c, ro, jo, fr, se, fo, le, it, la)) S' L) : zCi mX11_years S L [.ref 72, .int seed, .int n, .int w] P := by
  simp only [qYears, aYears] at h
  refine e_X11_years (fun X => b_X11_years_0 ⟨fun q1 => ⟨fun q2 => ?_, fun z => ?_⟩, fun z => ?_⟩)
  · rw [if_pos ⟨q1, q2⟩] at h
    obtain ⟨n, h1, h2, rfl⟩ := rng_10 q1
    rw [cl_nI (by omega)] at h
    exact yearsOf_m hK h2 h
  · rw [if_neg (fun y => z y.2)] at h; exact h S hK oC.rf
  · rw [if_neg (fun y => z y.1)] at h; exact h S hK oC.rf
end MWT
