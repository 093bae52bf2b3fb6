/-! WHAT A COURSE DOES -/
def zst (S : zS) (k : Nat) : pZ := (S (k + 1), S (k + 3), S k 4, S k 5)
def zpu (S : zS) (k : Nat) (z : pZ) : zS := zMm S k z.1 z.2.1 (S (k + 2)) z.2.2.1 z.2.2.2
theorem zpu_st {S : zS} {k : Nat} {z : pZ} : zst (zpu S k z) k = z := by
  simp only [zst, zpu, zMm_1, zMm_3, zMm_fm, zMm_fw]
theorem zpu_pu {S : zS} {k : Nat} {z z' : pZ} : zpu (zpu S k z) k z' = zpu S k z' := by
  simp only [zpu, zMm_2, zMm_mm]
theorem zpu_self {S : zS} {k : Nat} : zpu S k (zst S k) = S := by
  simp only [zst, zpu]
  exact zMm_self.symm
theorem zpu_o {S : zS} {k j : Nat} {z : pZ} (h : j < k ∨ k + 3 < j) : zpu S k z j = S j := zMm_o h
theorem zpu_1 {S : zS} {k : Nat} {N : pF} : zc S (k + 1) N = zpu S k (N, (zst S k).2) := zc1_mm
theorem zpu_N {S : zS} {k : Nat} {z : pZ} : zpu S k z (k + 1) = z.1 := zMm_1
theorem zpu_D {S : zS} {k : Nat} {z : pZ} : zpu S k z (k + 3) = z.2.1 := zMm_3
theorem zpu_R {S : zS} {k : Nat} {z : pZ} : zpu S k z (k + 2) = S (k + 2) := zMm_2
theorem zR_pu {S : zS} {k t i : Nat} {z : pZ} {l : List T3} (hd : k + 3 < t ∨ t + 20 < k) (hi : i ≤ 17) (h : zR S (t + i) l) : zR (zpu S k z) (t + i) l := h.keep (zpu_o (by omega)) (zpu_o (by omega)) (zpu_o (by omega)) (zpu_o (by omega))
/-- what a Told object holds -/
def zT (S : zS) (t : Nat) (pe de ro jo fr : List T3) (g c : Int32) : Prop := zR S (t + 1) pe ∧ zR S (t + 5) de ∧ zR S (t + 9) ro ∧ zR S (t + 13) jo ∧ zR S (t + 17) fr ∧ S t 5 = g ∧ S t 6 = c
theorem zT_pu {S : zS} {k t : Nat} {z : pZ} {pe de ro jo fr : List T3} {g c : Int32} (hd : k + 3 < t ∨ t + 20 < k) (h : zT S t pe de ro jo fr g c) : zT (zpu S k z) t pe de ro jo fr g c := by
  obtain ⟨h1, h2, h3, h4, h5, h6, h7⟩ := h
  exact ⟨zR_pu hd (by omega) h1, zR_pu hd (by omega) h2, zR_pu hd (by omega) h3, zR_pu hd (by omega) h4, zR_pu hd (by omega) h5, by rw [zpu_o (by omega)]; exact h6, by rw [zpu_o (by omega)]; exact h7⟩
theorem zT_R {S : zS} {k t : Nat} {R : pF} {pe de ro jo fr : List T3} {g c : Int32} (hd : k + 3 < t ∨ t + 20 < k) (h : zT S t pe de ro jo fr g c) : zT (zc S (k + 2) R) t pe de ro jo fr g c := by
  obtain ⟨h1, h2, h3, h4, h5, h6, h7⟩ := h
  have o : ∀ j, j < k ∨ k + 3 < j → zc S (k + 2) R j = S j := fun j hj => zc_ne _ _ (by omega)
  exact ⟨h1.keep (o _ (by omega)) (o _ (by omega)) (o _ (by omega)) (o _ (by omega)), h2.keep (o _ (by omega)) (o _ (by omega)) (o _ (by omega)) (o _ (by omega)), h3.keep (o _ (by omega)) (o _ (by omega)) (o _ (by omega)) (o _ (by omega)), h4.keep (o _ (by omega)) (o _ (by omega)) (o _ (by omega)) (o _ (by omega)), h5.keep (o _ (by omega)) (o _ (by omega)) (o _ (by omega)) (o _ (by omega)), by rw [o _ (by omega)]; exact h6, by rw [o _ (by omega)]; exact h7⟩
/-- the lists are such as may be told -/
def pWf (pe de ro jo fr : List T3) : Prop := (pe.length ≤ 8 ∧ de.length ≤ 10 ∧ ro.length ≤ 9 ∧ jo.length ≤ 8 ∧ fr.length ≤ 8) ∧ (∀ e ∈ pe, ∃ q, q < 4 ∧ e.2.1 = nI q) ∧ (∀ e ∈ jo, ∃ q, q < 4 ∧ e.2.2 = nI q) ∧ (∀ e ∈ de, ∃ q, q < 24 ∧ e.1 = nI q) ∧ (∀ e ∈ jo, ∃ q, q < 24 ∧ e.1 = nI q) ∧ (∀ e ∈ ro, ∃ q, q < 24 ∧ e.1 = nI q) ∧ (∀ e ∈ fr, ∃ q, q < 24 ∧ e.1 = nI q) ∧ (∀ e ∈ ro, ∃ q, q < 2000 ∧ e.2.2 = nI q)
/-- everybody is in a county -/
def pOk (np : Nat) (N : pF) : Prop := ∀ p, p < np → ∃ q, q < 4 ∧ N (8 + p) = nI q
theorem drop_cons {l rest : List T3} {e : T3} {i : Nat} (h : l.drop i = e :: rest) : i < l.length ∧ l[i]? = some e ∧ l.drop (i + 1) = rest := by
  have hl : i < l.length := by
    rcases Nat.lt_or_ge i l.length with q | q
    · exact q
    · rw [List.drop_eq_nil_iff.mpr q] at h; cases h
  refine ⟨hl, ?_, ?_⟩
  · have : (l.drop i)[0]? = some e := by rw [h]; rfl
    simpa using this
  · rw [← List.drop_drop, h]; rfl
/-! begin -/
def pNi (pe : List T3) (i : Nat) : pF := fun j => if j < i then (pe.getD j (0, 0, 0)).2.2 else if 8 ≤ j ∧ j - 8 < i then (pe.getD (j - 8) (0, 0, 0)).2.1 else 0
theorem pNi_step {pe : List T3} {i : Nat} (hi : i < 8) : upd (upd (pNi pe i) (8 + i) (pe.getD i (0, 0, 0)).2.1) i (pe.getD i (0, 0, 0)).2.2 = pNi pe (i + 1) := by
  funext j
  simp only [upd, pNi]
  by_cases h1 : j = i
  · subst h1
    rw [if_pos rfl, if_pos (by omega)]
  · rw [if_neg h1]
    by_cases h2 : j = 8 + i
    · subst h2
      rw [if_pos rfl, if_neg (by omega), if_pos (by omega), show 8 + i - 8 = i by omega]
    · rw [if_neg h2]
      by_cases h3 : j < i
      · rw [if_pos h3, if_pos (by omega)]
      · have e1 : ¬ j < i + 1 := by omega
        by_cases h4 : 8 ≤ j ∧ j - 8 < i
        · have e2 : 8 ≤ j ∧ j - 8 < i + 1 := by omega
          simp only [if_neg h3, if_neg e1, if_pos h4, if_pos e2]
        · have e2 : ¬ (8 ≤ j ∧ j - 8 < i + 1) := by omega
          simp only [if_neg h3, if_neg e1, if_neg h4, if_neg e2]
theorem begin_l {k t : Nat} (hC : zCo k t) {pe : List T3} (hn : pe.length ≤ 8) {L : zL} {X : Nat × (Nat → Int32)} {P : zS → zL → Prop} : ∀ (d i : Nat) (S : zS), i + d = pe.length → zR S (t + 1) pe → S (k + 1) = pNi pe i → P (zc S (k + 1) (pN0 pe)) L → zU mX2_begin X S L 36 [some (.ref k), some (.ref (t + 1)), some (.int (nI i))] [] (zpv P) := by
  have hdis := hC.2.2.2.2.2.2.2
  intro d
  induction d with
  | zero =>
    intro i S hd hR hN h
    have : i = pe.length := by omega
    subst this
    refine b_X2_begin_36 hC ⟨fun _ => ?_, fun q => absurd ?_ q⟩
    · rw [show pN0 pe = S (k + 1) from hN.symm, zc_self] at h; exact h
    · rw [hR.1]; exact nI_le (Nat.le_refl _) (by omega)
  | succ d ih =>
    intro i S hd hR hN h
    obtain ⟨q1, q2, q3⟩ := hR.2 i _ (getD_at (l := pe) (i := i) (by omega))
    refine b_X2_begin_36 hC ⟨fun q => absurd q ?_, fun _ => ?_⟩
    · rw [hR.1]; exact nI_ge (by omega) (by omega)
    rw [of0, of8, cl_nI (n := i) (by omega), cl_nI (n := 8 + i) (by omega), q2]
    refine ⟨vp_in_nI (by omega) (by omega), vp_in_nI (by omega) (by omega), fun S1 e1 => ⟨vp_in_nI (by omega) (by omega), vp_in_nI (by omega) (by omega), fun S2 e2 x1 ex1 => ?_⟩⟩
    have f3 : S1 (t + 1 + 3) i = (pe.getD i (0, 0, 0)).2.2 := by rw [e1, zc_ne _ _ (by omega), q3]
    have f1 : S1 (k + 1) = upd (S (k + 1)) (8 + i) (pe.getD i (0, 0, 0)).2.1 := by rw [e1, zc_eq]
    rw [f3, f1, e1, zc_zc, hN, pNi_step (by omega)] at e2
    rw [ex1, nI_1]
    have o : ∀ j, j < k ∨ k + 3 < j → S2 j = S j := fun j hj => by rw [e2, zc_ne _ _ (by omega)]
    refine ih (i + 1) S2 (by omega) (hR.keep (o _ (by omega)) (o _ (by omega)) (o _ (by omega)) (o _ (by omega))) (by rw [e2, zc_eq]) ?_
    rw [e2, zc_zc]
    exact h
theorem begin_s {k t : Nat} (hC : zCo k t) {pe : List T3} (hn : pe.length ≤ 8) {S : zS} {L : zL} (hR : zR S (t + 1) pe) {P : zS → zL → Prop} (h : P (zpu S k (pZ0 pe)) L) : zCv mX2_begin S L [.ref k] P := by
  have hdis := hC.2.2.2.2.2.2.2
  refine e_X2_begin (fun X => b_X2_begin_0 hC ?_)
  refine fill_s hC.2.1 (by omega) (fill_s hC.2.2.2.1 (by omega) (fun S3 e3 S4 e4 => ?_))
  have e4' : S4 = zpu S k (fun _ => 0, fun _ => -1, -1, -1) := by
    have h1 : zc (zc S (k + 1) (fun _ => 0)) (k + 3) (fun _ => -1) = zpu S k (fun _ => 0, fun _ => -1, S k 4, S k 5) := by
      rw [zpu_1 (S := S) (k := k) (N := fun _ => 0)]
      simp only [zpu, zst]
      exact zMm_s3
    rw [e4, e3, h1]
    simp only [zpu]
    rw [zMm_s4, zMm_s5]
  refine begin_l hC hn pe.length 0 S4 (by omega) ?_ ?_ ?_
  · rw [e4']; exact zR_pu hdis (by omega) hR
  · rw [e4', zpu_N]
    funext j
    simp only [pNi]
    rw [if_neg (Nat.not_lt_zero _), if_neg (by omega)]
  · rw [e4', zpu_1, zpu_st, zpu_pu]; exact h
/-! the deeds of a month -/
theorem pLv_ix {np : Nat} {D : pF} {who : Int32} (h : pLv np D who) (hb : np < 2 ^ 31) : ∃ w, w < np ∧ who = nI w ∧ D w = -1 := by
  obtain ⟨w, hw, rfl⟩ := ix_of h.1 (i32_nle h.2.1) hb
  refine ⟨w, hw, rfl, ?_⟩
  have := h.2.2
  rwa [nI_clamp (by omega)] at this
theorem doDeeds_l {k t : Nat} (hC : zCo k t) {mo : Int32} {pe de : List T3} (hn : pe.length ≤ 8 ∧ de.length ≤ 10) {L : zL} {X : Nat × (Nat → Int32)} {P : Int32 → zS → zL → Prop} : ∀ (rest : List T3) (i : Nat) (S : zS) (b : Int32), de.drop i = rest → i ≤ de.length → zR S (t + 1) pe → zR S (t + 5) de → P (rest.foldl (pDd pe (S (k + 3)) mo) (S (k + 1), b)).2 (zc S (k + 1) (rest.foldl (pDd pe (S (k + 3)) mo) (S (k + 1), b)).1) L → zU mX2_doDeeds X S L 13 [some (.ref k), some (.int mo), some (.ref (t + 5)), some (.int b), some (.int (nI i)), none] [] (zpi P) := by
  have hdis := hC.2.2.2.2.2.2.2
  intro rest
  induction rest with
  | nil =>
    intro i S b hd hi hR hRd h
    have hl : de.length ≤ i := List.drop_eq_nil_iff.mp hd
    refine b_X2_doDeeds_13 (np := pe.length) hC ⟨fun _ => ?_, fun q => absurd ?_ q⟩
    · rw [List.foldl_nil, zc_self] at h; exact h
    · rw [hRd.1]; exact nI_le hl (by omega)
  | cons e rest ih =>
    intro i S b hd hi hR hRd h
    obtain ⟨hl, he, hd2⟩ := drop_cons hd
    obtain ⟨d1, d2, d3⟩ := hRd.2 i e he
    rw [List.foldl_cons] at h
    have same : pDd pe (S (k + 3)) mo (S (k + 1), b) e = (S (k + 1), b) → ∀ x1, x1 = nI i + 1 → zU mX2_doDeeds X S L 13 [some (.ref k), some (.int mo), some (.ref (t + 5)), some (.int b), some (.int x1), none] [] (zpi P) := by
      intro hb x1 e1
      rw [e1, nI_1]
      rw [hb] at h
      exact ih (i + 1) S b hd2 (by omega) hR hRd h
    refine b_X2_doDeeds_13 (np := pe.length) hC ⟨fun q => absurd q ?_, fun _ => ?_⟩
    · rw [hRd.1]; exact nI_ge hl (by omega)
    rw [cl_nI (n := i) (by omega), d1, d2, d3]
    refine ⟨vp_in_nI (by omega) (by omega), fun x1 e1 => ⟨vp_in_nI (by omega) (by omega), fun q => same ?_, fun q1 => ⟨⟨hR.1, hn.1⟩, fun y1 ey1 => ⟨fun q => same ?_, fun q2 x2 e2 => ?_⟩⟩⟩⟩
    · rw [pDd, if_neg (fun z => q z.1)]
    · rw [e1] at ey1
      rw [pDd, if_neg (fun z => ?_)]
      rw [if_pos z.2] at ey1
      rw [ey1] at q
      exact absurd q (by decide)
    · rw [e1] at ey1 e2
      have hlv : pLv pe.length (S (k + 3)) e.2.1 := by
        rcases Decidable.em (pLv pe.length (S (k + 3)) e.2.1) with z | z
        · exact z
        · rw [if_neg z] at ey1; exact absurd ey1 q2
      rw [pDd, if_pos ⟨q1, hlv⟩] at h
      obtain ⟨w, hw, hwe, -⟩ := pLv_ix hlv (by omega)
      rw [e1, hwe]
      rw [hwe, of0] at e2
      rw [hwe, cl_nI (by omega)] at h
      subst e2
      rw [cl_nI (n := w) (by omega), (hR.2 w _ (getD_at hw)).1, ← pWl_at (getD_at hw)]
      refine ⟨vp_in_nI (by omega) (by omega), vp_in_nI (by omega) (by omega), vp_in_nI (by omega) (by omega), fun y2 ey2 => ⟨vp_in_nI (by omega) (by omega), fun S1 eS1 x3 ex3 x4 ex4 => ?_⟩⟩
      rw [ex4, nI_1, ex3]
      rw [ey2] at eS1
      have o : ∀ j, j < k ∨ k + 3 < j → S1 j = S j := fun j hj => by rw [eS1, zc_ne _ _ (by omega)]
      refine ih (i + 1) S1 _ hd2 (by omega) (hR.keep (o _ (by omega)) (o _ (by omega)) (o _ (by omega)) (o _ (by omega))) (hRd.keep (o _ (by omega)) (o _ (by omega)) (o _ (by omega)) (o _ (by omega))) ?_
      rw [show S1 (k + 3) = S (k + 3) by rw [eS1, zc_ne _ _ (by omega)], show S1 (k + 1) = _ by rw [eS1, zc_eq], eS1, zc_zc]
      exact h
theorem doDeeds_s {k t : Nat} (hC : zCo k t) {mo : Int32} {pe de : List T3} (hn : pe.length ≤ 8 ∧ de.length ≤ 10) {S : zS} {L : zL} (hR : zR S (t + 1) pe) (hRd : zR S (t + 5) de) {P : Int32 → zS → zL → Prop} (h : P (pDds pe de (S (k + 3)) mo (S (k + 1))).2 (zc S (k + 1) (pDds pe de (S (k + 3)) mo (S (k + 1))).1) L) : zCi mX2_doDeeds S L [.ref k, .int mo] P :=
  e_X2_doDeeds (fun X => b_X2_doDeeds_0 (np := 0) hC (doDeeds_l hC hn de 0 S 0 rfl (Nat.zero_le _) hR hRd h))
/-! the journeys of a month -/
theorem travel_l {k t : Nat} (hC : zCo k t) {mo : Int32} {pe jo : List T3} (hn : pe.length ≤ 8 ∧ jo.length ≤ 8) {L : zL} {X : Nat × (Nat → Int32)} {P : zS → zL → Prop} : ∀ (rest : List T3) (i : Nat) (S : zS), jo.drop i = rest → i ≤ jo.length → zR S (t + 1) pe → zR S (t + 13) jo → P (zc S (k + 1) (rest.foldl (pTr pe.length (S (k + 3)) mo) (S (k + 1)))) L → zU mX2_travel X S L 10 [some (.ref k), some (.int mo), some (.ref (t + 13)), some (.int (nI i)), none, none] [] (zpv P) := by
  have hdis := hC.2.2.2.2.2.2.2
  intro rest
  induction rest with
  | nil =>
    intro i S hd hi hR hRd h
    have hl : jo.length ≤ i := List.drop_eq_nil_iff.mp hd
    refine b_X2_travel_10 (np := pe.length) hC ⟨fun _ => ?_, fun q => absurd ?_ q⟩
    · rw [List.foldl_nil, zc_self] at h; exact h
    · rw [hRd.1]; exact nI_le hl (by omega)
  | cons e rest ih =>
    intro i S hd hi hR hRd h
    obtain ⟨hl, he, hd2⟩ := drop_cons hd
    obtain ⟨d1, d2, d3⟩ := hRd.2 i e he
    rw [List.foldl_cons] at h
    have same : pTr pe.length (S (k + 3)) mo (S (k + 1)) e = S (k + 1) → ∀ x1, x1 = nI i + 1 → zU mX2_travel X S L 10 [some (.ref k), some (.int mo), some (.ref (t + 13)), some (.int x1), none, none] [] (zpv P) := by
      intro hb x1 e1
      rw [e1, nI_1]
      rw [hb] at h
      exact ih (i + 1) S hd2 (by omega) hR hRd h
    refine b_X2_travel_10 (np := pe.length) hC ⟨fun q => absurd q ?_, fun _ => ?_⟩
    · rw [hRd.1]; exact nI_ge hl (by omega)
    rw [cl_nI (n := i) (by omega), d1, d2, d3]
    refine ⟨vp_in_nI (by omega) (by omega), fun x1 e1 => ⟨vp_in_nI (by omega) (by omega), fun q => same ?_, fun q1 => ⟨⟨hR.1, hn.1⟩, fun y1 ey1 => ⟨fun q => same ?_, fun q2 => ?_⟩⟩⟩⟩
    · rw [pTr, if_neg (fun z => q z.1)]
    · rw [e1] at ey1
      rw [pTr, if_neg (fun z => ?_)]
      rw [if_pos z.2.1] at ey1
      rw [ey1] at q
      exact absurd q (by decide)
    · rw [e1] at ey1
      have hlv : pLv pe.length (S (k + 3)) e.2.1 := by
        rcases Decidable.em (pLv pe.length (S (k + 3)) e.2.1) with z | z
        · exact z
        · rw [if_neg z] at ey1; exact absurd ey1 q2
      obtain ⟨w, hw, hwe, -⟩ := pLv_ix hlv (by omega)
      have hcl : e.2.1.toNatClampNeg = w := by rw [hwe, cl_nI (by omega)]
      rw [e1, hwe, of0, of8, cl_nI (n := w) (by omega), cl_nI (n := 8 + w) (by omega)]
      refine ⟨vp_in_nI (by omega) (by omega), vp_in_nI (by omega) (by omega), fun q => same ?_, fun q3 => ⟨vp_in_nI (by omega) (by omega), fun x2 e2 x3 e3 => ?_⟩⟩
      · rw [pTr, if_neg (fun z => z.2.2 (by rw [hcl]; exact q))]
      · subst e3
        rw [pTr, if_pos ⟨q1, hlv, by rw [hcl]; exact q3⟩, hcl] at h
        rw [cl_nI (n := w) (by omega)]
        have e2' : x2 = pCa (S (k + 1) w) := e2
        refine ⟨vp_in_nI (by omega) (by omega), vp_in_nI (by omega) (by omega), fun S1 eS1 => ?_⟩
        have z32 : (32 : Int32).toNatClampNeg = 32 := rfl
        have i32 : vp_in (32 : Int32) 41 := vp_in_nI (n := 32) (by omega) (by omega)
        rw [z32]
        refine ⟨i32, i32, fun S2 eS2 => ⟨vp_in_nI (by omega) (by omega), vp_in_nI (by omega) (by omega), fun S3 eS3 x4 ex4 => ?_⟩⟩
        rw [ex4, nI_1]
        have a1 : S1 (k + 1) = upd (S (k + 1)) w (S (k + 1) w - x2) := by rw [eS1, zc_eq]
        rw [a1, eS1, zc_zc] at eS2
        have a2 := congrFun eS2 (k + 1)
        rw [zc_eq] at a2
        have a3 : S2 (t + 13 + 3) i = e.2.2 := by rw [eS2, zc_ne _ _ (by omega), d3]
        rw [a2, a3, eS2, zc_zc, e2'] at eS3
        have hN : S3 = zc S (k + 1) (pTrN (S (k + 1)) w e.2.2) := eS3
        have o : ∀ j, j < k ∨ k + 3 < j → S3 j = S j := fun j hj => by rw [hN, zc_ne _ _ (by omega)]
        refine ih (i + 1) S3 hd2 (by omega) (hR.keep (o _ (by omega)) (o _ (by omega)) (o _ (by omega)) (o _ (by omega))) (hRd.keep (o _ (by omega)) (o _ (by omega)) (o _ (by omega)) (o _ (by omega))) ?_
        rw [show S3 (k + 3) = S (k + 3) by rw [hN, zc_ne _ _ (by omega)], show S3 (k + 1) = _ by rw [hN, zc_eq], hN, zc_zc]
        exact h
theorem travel_s {k t : Nat} (hC : zCo k t) {mo : Int32} {pe jo : List T3} (hn : pe.length ≤ 8 ∧ jo.length ≤ 8) {S : zS} {L : zL} (hR : zR S (t + 1) pe) (hRd : zR S (t + 13) jo) {P : zS → zL → Prop} (h : P (zc S (k + 1) (pTrs pe.length jo (S (k + 3)) mo (S (k + 1)))) L) : zCv mX2_travel S L [.ref k, .int mo] P :=
  e_X2_travel (fun X => b_X2_travel_0 (np := 0) hC (travel_l hC hn jo 0 S rfl (Nat.zero_le _) hR hRd h))
