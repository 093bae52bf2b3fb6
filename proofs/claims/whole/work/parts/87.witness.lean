/-! WHAT MAY HAVE BEEN: the class -/
section WT
variable {pe de ro jo fr se : List T3} {g c : Int32} {L : zL} {X : Nat × (Nat → Int32)}
theorem placeOf_s {d m p : Nat} {S : zS} {P : Int32 → zS → zL → Prop} (h : P (nI (8 * (24 * d + m) + p)) S L) : zCi mX9_placeOf S L [.int (nI d), .int (nI m), .int (nI p)] P := by
  refine e_X9_placeOf (fun X => b_X9_placeOf_0 ?_)
  rw [show (24 : Int32) = nI 24 by decide, show (8 : Int32) = nI 8 by decide, pk_mul, nI_add, pk_mul, nI_add, show (d * 24 + m) * 8 + p = 8 * (24 * d + m) + p by omega]
  exact h
def KW (S0 S : zS) (Z : Nat → pZ) (np d m p : Nat) : Prop := (∀ j, j ≠ 64 → S j = S0 j) ∧ (∀ i, i < 192 * d ∨ 192 * d + 192 ≤ i → S 64 i = S0 64 i) ∧ ∀ m' p', p' < np → (m' < m ∨ m' = m ∧ p' < p) → S 64 (8 * (24 * d + m') + p') = (Z (m' + 1)).1 p'
theorem kw_in {pe' de' ro' jo' fr' : List T3} {g' c' : Int32} {S0 : zS} {P : zS → zL → Prop} (hR : cRun S0 52 pe' de' ro' jo' fr' g' c' 24) {d m np : Nat} (hd : d < 10) (hm : m < 24) (hn : np ≤ 8) (hp : S0 6 3 = nI np) (K : ∀ S', KW S0 S' (pCf pe' de' ro' jo' fr' g' c') np d (m + 1) 0 → zU mX9_keepWools X S' L 2 [some (.ref 59), some (.int (nI d)), some (.int (nI (m + 1))), none] [] (zpv P)) : ∀ (e p : Nat) (S : zS), p + e = np → KW S0 S (pCf pe' de' ro' jo' fr' g' c') np d m p → zU mX9_keepWools X S L 10 [some (.ref 59), some (.int (nI d)), some (.int (nI m)), some (.int (nI p))] [] (zpv P) := by
  intro e
  induction e with
  | zero =>
    intro p S he hI
    obtain ⟨f1, f2, f3⟩ := hI
    refine b_X9_keepWools_10 ⟨fun _ x1 ex1 => ?_, fun z => absurd ?_ z⟩
    · rw [ex1, nI_1]
      exact K S ⟨f1, f2, fun m' p' h1 h2 => f3 m' p' h1 (by omega)⟩
    · rw [f1 6 (by omega), hp]; exact nI_le (by omega) (by omega)
  | succ e ih =>
    intro p S he hI
    obtain ⟨f1, f2, f3⟩ := hI
    refine b_X9_keepWools_10 ⟨fun z => absurd z ?_, fun _ => ?_⟩
    · rw [f1 6 (by omega), hp]; exact nI_ge (by omega) (by omega)
    refine placeOf_s ?_
    rw [of0]
    refine behind_s zCo2 (hR.keep (f1 _ (by omega)) (f1 _ (by omega)) (f1 _ (by omega))) (Nat.le_refl _) hm (by omega) ⟨vp_in_nI (by omega) (by omega), fun S1 e1 x1 ex1 => ?_⟩
    rw [cl_nI (by omega)] at e1
    rw [ex1, nI_1]
    refine ih (p + 1) S1 (by omega) ⟨fun j hj => by rw [e1, zc_ne _ _ hj]; exact f1 j hj, fun i hi => ?_, fun m' p' h1 h2 => ?_⟩
    · rw [e1, zc_eq, upd, if_neg (by omega)]; exact f2 i hi
    · rw [e1, zc_eq]
      by_cases hq : m' = m ∧ p' = p
      · obtain ⟨rfl, rfl⟩ := hq; simp [upd]
      · rw [upd, if_neg (by omega)]; exact f3 m' p' h1 (by omega)
theorem kw_out {pe' de' ro' jo' fr' : List T3} {g' c' : Int32} {S0 : zS} {P : zS → zL → Prop} (hR : cRun S0 52 pe' de' ro' jo' fr' g' c' 24) {d np : Nat} (hd : d < 10) (hn : np ≤ 8) (hp : S0 6 3 = nI np) (K : ∀ S', KW S0 S' (pCf pe' de' ro' jo' fr' g' c') np d 24 0 → P S' L) : ∀ (e m : Nat) (S : zS), m + e = 24 → KW S0 S (pCf pe' de' ro' jo' fr' g' c') np d m 0 → zU mX9_keepWools X S L 2 [some (.ref 59), some (.int (nI d)), some (.int (nI m)), none] [] (zpv P) := by
  intro e
  induction e with
  | zero =>
    intro m S he hI
    have : m = 24 := by omega
    subst this
    exact b_X9_keepWools_2 ⟨fun _ => K S hI, fun z => absurd (by decide) z⟩
  | succ e ih =>
    intro m S he hI
    refine b_X9_keepWools_2 ⟨fun z => absurd z (nI_ge (b := 24) (by omega) (by omega)), fun _ => ?_⟩
    exact kw_in hR hd (by omega) hn hp (fun S' hI' => ih (m + 1) S' (by omega) hI') np 0 S (by omega) hI
theorem keepWools_s {pe' de' ro' jo' fr' : List T3} {g' c' : Int32} {S : zS} {P : zS → zL → Prop} (hR : cRun S 52 pe' de' ro' jo' fr' g' c' 24) {d np : Nat} (hd : d < 10) (hn : np ≤ 8) (hp : S 6 3 = nI np) (h : ∀ S', (∀ j, j ≠ 64 → S' j = S j) → (∀ i, i < 192 * d ∨ 192 * d + 192 ≤ i → S' 64 i = S 64 i) → (∀ m p, m < 24 → p < np → S' 64 (8 * (24 * d + m) + p) = (pCf pe' de' ro' jo' fr' g' c' (m + 1)).1 p) → P S' L) : zCv mX9_keepWools S L [.ref 59, .int (nI d)] P :=
  e_X9_keepWools (fun X => b_X9_keepWools_0 (kw_out hR hd hn hp (fun S' hI => h S' hI.1 hI.2.1 (fun m p hm hp2 => hI.2.2 m p hp2 (Or.inl hm))) 24 0 S (by omega) ⟨fun _ _ => rfl, fun _ _ => rfl, fun m' p' _ h2 => by omega⟩))
theorem co_l {pe' de' ro' jo' fr' : List T3} {g' c' : Int32} {S : zS} {P : Int32 → zS → zL → Prop} {n np : Nat} (hR : cRun S 52 pe' de' ro' jo' fr' g' c' n) (hn : n ≤ 24) (hnp : np ≤ 8) (hp : S 6 3 = nI np) (hz : zR S 60 se) (hl : se.length ≤ 8) (hs : ∀ e ∈ se, (∃ q, q < n ∧ e.1 = nI q) ∧ (∃ q, q < 8 ∧ e.2.1 = nI q)) : ∀ (rest : List T3) (i : Nat), se.drop i = rest → i ≤ se.length → P (if seOk np (pCf pe' de' ro' jo' fr' g' c') rest = true then 1 else 0) S L → zU mX9_comesOut X S L 2 [some (.ref 59), some (.int (nI i)), none] [] (zpi P) := by
  intro rest
  induction rest with
  | nil =>
    intro i hd hi h
    have hl2 : se.length ≤ i := List.drop_eq_nil_iff.mp hd
    refine b_X9_comesOut_2 ⟨fun _ => h, fun z => absurd ?_ z⟩
    rw [hz.1]; exact nI_le hl2 (by omega)
  | cons e rest ih =>
    intro i hd hi h
    obtain ⟨hil, he, hd2⟩ := drop_cons hd
    obtain ⟨d1, d2, d3⟩ := hz.2 i e he
    obtain ⟨⟨m, hm, hme⟩, ⟨w, hw, hwe⟩⟩ := hs e (List.mem_of_getElem? he)
    have sc : seOk np (pCf pe' de' ro' jo' fr' g' c') (e :: rest) = ((decide (e.2.1 < nI np) && decide ((pCf pe' de' ro' jo' fr' g' c' (m + 1)).1 w = e.2.2)) && seOk np (pCf pe' de' ro' jo' fr' g' c') rest) := by
      unfold seOk
      rw [List.all_cons, hme, hwe, cl_nI (by omega), cl_nI (by omega)]
    rw [sc] at h
    refine b_X9_comesOut_2 ⟨fun z => absurd z ?_, fun _ => ?_⟩
    · rw [hz.1]; exact nI_ge hil (by omega)
    rw [cl_nI (n := i) (by omega), show S 62 i = e.2.1 from d2, show S 61 i = e.1 from d1, hp]
    refine ⟨vp_in_nI (by omega) (by omega), fun x1 ex1 => ⟨fun z => ?_, fun z => ⟨vp_in_nI (by omega) (by omega), ?_⟩⟩⟩
    · rw [ex1] at z
      rw [decide_eq_false (i32_nlt z)] at h
      exact h
    · rw [ex1] at z ⊢
      have hlt : decide (e.2.1 < nI np) = true := decide_eq_true (i32_lt z)
      rw [hlt, Bool.true_and] at h
      rw [hwe, of0, hme]
      refine behind_s zCo2 hR hn hm (by omega) ⟨vp_in_nI (by omega) (by omega), fun z2 x2 ex2 => ?_, fun z2 => ?_⟩
      · rw [show S 63 i = e.2.2 from d3] at z2
        rw [decide_eq_true z2, Bool.true_and] at h
        rw [ex2, nI_1]
        exact ih (i + 1) hd2 (by omega) h
      · rw [show S 63 i = e.2.2 from d3] at z2
        rw [decide_eq_false z2] at h
        exact h
theorem comesOut_s {pe' de' ro' jo' fr' : List T3} {g' c' : Int32} {S : zS} {P : Int32 → zS → zL → Prop} {n np : Nat} (hR : cRun S 52 pe' de' ro' jo' fr' g' c' n) (hn : n ≤ 24) (hnp : np ≤ 8) (hp : S 6 3 = nI np) (hz : zR S 60 se) (hl : se.length ≤ 8) (hs : ∀ e ∈ se, (∃ q, q < n ∧ e.1 = nI q) ∧ (∃ q, q < 8 ∧ e.2.1 = nI q)) (h : P (if seOk np (pCf pe' de' ro' jo' fr' g' c') se = true then 1 else 0) S L) : zCi mX9_comesOut S L [.ref 59] P :=
  e_X9_comesOut (fun X => b_X9_comesOut_0 (co_l hR hn hnp hp hz hl hs se 0 rfl (Nat.zero_le _) h))
theorem xW_out (hW : xW pe de ro jo fr) {d : Nat} : xW pe (de.eraseIdx d) ro jo fr := hW.to_de (Nat.le_trans (List.length_eraseIdx_le _ _) hW.1.1.2.1) (fun e he => hW.deE e (List.mem_of_mem_eraseIdx he))
abbrev fN (pe de ro jo fr se : List T3) (g c : Int32) (k : Nat) : Int32 := (List.range k).foldl (pNv1 pe de ro jo fr se g c) 0
theorem fN_succ {k : Nat} : fN pe de ro jo fr se g c (k + 1) = pNv1 pe de ro jo fr se g c (fN pe de ro jo fr se g c k) k := by
  unfold fN; rw [List.range_succ, List.foldl_append]; rfl
def SI (pe de ro jo fr se : List T3) (g c : Int32) (S0 S : zS) (d : Nat) : Prop := (∀ j, j < 31 ∨ 55 < j → j ≠ 59 → j ≠ 64 → S j = S0 j) ∧ ¬ S 59 4 = 0 ∧ S 59 1 = fN pe de ro jo fr se g c d ∧ ∀ d' m p, d' < d → m < 24 → p < pe.length → S 64 (8 * (24 * d' + m) + p) = (pCf pe (de.eraseIdx d') ro jo fr g c (m + 1)).1 p
theorem su_l {S0 : zS} {P : zS → zL → Prop} (hT : zT S0 5 pe de ro jo fr g c) (hW : sW pe de ro jo fr se) (hz : zR S0 60 se) (h : ∀ S', SI pe de ro jo fr se g c S0 S' de.length → P S' L) : ∀ (e d : Nat) (S : zS), d + e = de.length → SI pe de ro jo fr se g c S0 S d → zU mX9_survey X S L 20 [some (.ref 59), some (.int (nI d))] [] (zpv P) := by
  have hlen := hW.1.1.1
  intro e
  induction e with
  | zero =>
    intro d S he hI
    have : d = de.length := by omega
    subst this
    refine b_X9_survey_20 ⟨fun _ => h S hI, fun z => absurd ?_ z⟩
    rw [hI.1 10 (by omega) (by omega) (by omega), hT.2.1.1]; exact nI_le (Nat.le_refl _) (by omega)
  | succ e ih =>
    intro d S he hI
    obtain ⟨f1, f2, f3, f4⟩ := hI
    refine b_X9_survey_20 ⟨fun z => absurd z ?_, fun _ => ?_⟩
    · rw [f1 10 (by omega) (by omega) (by omega), hT.2.1.1]; exact nI_ge (by omega) (by omega)
    have hTS : zT S 5 pe de ro jo fr g c := hT.out (fun j a b => f1 j (by omega) (by omega) (by omega))
    refine afresh_s hlen hTS (fun S1 hT1 o1 => ?_)
    refine rows_takeOut (n := 10) zTo31.2.2.1 hT1.2.1 ⟨hlen.2.1, by omega⟩ (by omega) (fun S2 hR2 o2 => ?_)
    have hT2 := zT_de hT1 hR2 o2
    refine run52_s (xW_out hW.1) hT2 (fun S3 hC3 o3 => ?_)
    have o : zOut 31 55 S S3 := ((o1.mono (by omega) (by omega)).trans (o2.mono (by omega) (by omega))).trans (o3.mono (by omega) (by omega))
    have h6 : S3 6 3 = nI pe.length := by rw [o 6 (by omega), f1 6 (by omega) (by omega) (by omega)]; exact hT.1.1
    refine keepWools_s hC3 (by omega) hlen.1 h6 (fun S4 k1 k2 k3 => ?_)
    have g4 : ∀ j, j < 31 ∨ 55 < j → j ≠ 59 → j ≠ 64 → S4 j = S0 j := fun j a b d => (k1 j d).trans ((o j (by omega)).trans (f1 j a b d))
    have hz4 : zR S4 60 se := hz.keep (g4 _ (by omega) (by omega) (by omega)) (g4 _ (by omega) (by omega) (by omega)) (g4 _ (by omega) (by omega) (by omega)) (g4 _ (by omega) (by omega) (by omega))
    refine comesOut_s (np := pe.length) (hC3.keep (k1 _ (by omega)) (k1 _ (by omega)) (k1 _ (by omega))) (Nat.le_refl _) hlen.1 (by rw [k1 6 (by omega)]; exact h6) hz4 hW.2.2.2.1 hW.2.2.2.2 ?_
    have a59 : S4 59 = S 59 := by rw [k1 59 (by omega), o 59 (by omega)]
    have hs := fN_succ (pe := pe) (de := de) (ro := ro) (jo := jo) (fr := fr) (se := se) (g := g) (c := c) (k := d)
    rw [pNv1] at hs
    have go : ∀ y, y = (if seOk pe.length (pCf pe (de.eraseIdx d) ro jo fr g c) se = true then (1 : Int32) <<< (nI d &&& 31) else 0) → ∀ S6, S6 = zc S4 59 (upd (S4 59) 1 ((S4 59 1) ||| y)) → ∀ x1, x1 = nI d + 1 → zU mX9_survey X S6 L 20 [some (.ref 59), some (.int x1)] [] (zpv P) := by
      intro y hy S6 e6 x1 ex1
      rw [ex1, nI_1]
      refine ih (d + 1) S6 (by omega) ⟨fun j a b d => by rw [e6, zc_ne _ _ b]; exact g4 j a b d, ?_, ?_, fun d' m p h1 h2 h3 => ?_⟩
      · rw [e6, zc_eq, upd, if_neg (by omega), a59]; exact f2
      · rw [e6, zc_eq, upd, if_pos rfl, a59, f3, hs, hy]
      · rw [e6, zc_ne _ _ (by omega)]
        by_cases hd' : d' = d
        · subst hd'; exact k3 m p h2 h3
        · rw [k2 _ (by omega), o 64 (by omega)]; exact f4 d' m p (by omega) h2 h3
    refine ⟨fun z => go 0 ?_, fun z => go _ ?_⟩
    · rw [if_neg (fun y => by rw [if_pos y] at z; exact absurd z (by decide))]
    · rcases Decidable.em (seOk pe.length (pCf pe (de.eraseIdx d) ro jo fr g c) se = true) with y | y
      · rw [if_pos y]
      · rw [if_neg y] at z; exact absurd rfl z
theorem survey_s {S : zS} {P : zS → zL → Prop} (hQ : cQ pe de ro jo fr se g c S L) (h : ∀ S', cQ pe de ro jo fr se g c S' L → qF S S' → S' 59 1 = pNv pe de ro jo fr se g c → (∀ d m p, d < de.length → m < 24 → p < pe.length → S' 64 (8 * (24 * d + m) + p) = (pCf pe (de.eraseIdx d) ro jo fr g c (m + 1)).1 p) → P S' L) : zCv mX9_survey S L [.ref 59] P := by
  have hQ0 := hQ
  obtain ⟨hT, hW, hR, hA, hM, hB, hH, hWi, hV⟩ := hQ
  refine e_X9_survey (fun X => b_X9_survey_0 ⟨fun z S1 e1 S2 e2 => ?_, fun z => ?_⟩)
  · have g2 : S2 59 = upd (upd (S 59) 4 1) 1 0 := by rw [e2, zc_eq, e1, zc_eq]
    have n2 : ∀ j, j ≠ 59 → S2 j = S j := fun j hj => by rw [e2, zc_ne _ _ hj, e1, zc_ne _ _ hj]
    refine su_l hT hW hR (fun S' hI => ?_) de.length 0 S2 (by omega) ⟨fun j _ b _ => n2 j b, ?_, ?_, fun d' _ _ h1 => absurd h1 (Nat.not_lt_zero _)⟩
    · obtain ⟨f1, f2, f3, f4⟩ := hI
      have o : ∀ j, j < 31 ∨ 55 < j → j ≠ 59 → j ≠ 64 → S' j = S j := f1
      have hq : qF S S' := fun j hj => o j (by omega) (by omega) (by omega)
      exact h S' (hQ0.keep hq (hA.keep (o _ (by omega) (by omega) (by omega)) (o _ (by omega) (by omega) (by omega)) (o _ (by omega) (by omega) (by omega)) (o _ (by omega) (by omega) (by omega))) (hM.keep (by rw [o 56 (by omega) (by omega) (by omega)]) (o _ (by omega) (by omega) (by omega))) (hB.keep (fun i _ _ => by rw [o 56 (by omega) (by omega) (by omega)])) (hH.keep (fun i _ => by rw [o 56 (by omega) (by omega) (by omega)])) (Or.inr ⟨f2, f3, f4⟩) (hV.keep (by rw [o 65 (by omega) (by omega) (by omega)]) (by rw [o 65 (by omega) (by omega) (by omega)]) rfl rfl)) hq f3 f4
    · rw [g2, upd, if_neg (by omega), upd, if_pos rfl]; decide
    · rw [g2, upd, if_pos rfl]; rfl
  · rcases hWi with a | ⟨a, b, d⟩
    · exact absurd a z
    · exact h S hQ0 qF.rf b d
/-! which values fit -/
def lst : Nat → Int32
  | 0 => -1
  | n + 1 => nI n
theorem lst_ok : ∀ n, n ≤ 24 → ∀ m, m ≤ 24 → (lst n < nI m ↔ n ≤ m) := by
  intro n hn
  cases n with
  | zero => exact last_m1
  | succ n => exact last_nI (by omega)
theorem ls_l {S : zS} {P : Int32 → zS → zL → Prop} (hz : zR S 60 se) (hl : se.length ≤ 8) (hs : ∀ e ∈ se, ∃ q, q < 24 ∧ e.1 = nI q) (h : ∀ n, n ≤ 24 → (∀ e ∈ se, ∃ q, q < n ∧ e.1 = nI q) → P (lst n) S L) : ∀ (d i n : Nat), i + d = se.length → n ≤ 24 → (∀ (k : Nat) (e : T3), k < i → se[k]? = some e → ∃ q, q < n ∧ e.1 = nI q) → zU mX9_lastSeen X S L 4 [some (.ref 59), some (.int (lst n)), some (.int (nI i))] [] (zpi P) := by
  intro d
  induction d with
  | zero =>
    intro i n hd hn hk
    refine b_X9_lastSeen_4 ⟨fun _ => h n hn (fun e he => ?_), fun z => absurd ?_ z⟩
    · obtain ⟨k, hk2⟩ := List.getElem?_of_mem he
      have := (List.getElem?_eq_some_iff.mp hk2).1
      exact hk k e (by omega) hk2
    · rw [hz.1]; exact nI_le (by omega) (by omega)
  | succ d ih =>
    intro i n hd hn hk
    refine b_X9_lastSeen_4 ⟨fun z => absurd z ?_, fun _ => ?_⟩
    · rw [hz.1]; exact nI_ge (by omega) (by omega)
    have he := getD_at (l := se) (i := i) (by omega)
    obtain ⟨q, hq, hqe⟩ := hs _ (List.mem_of_getElem? he)
    have d1 : S 61 i = nI q := by rw [← hqe]; exact (hz.2 i _ he).1
    rw [cl_nI (n := i) (by omega), d1]
    refine ⟨vp_in_nI (by omega) (by omega), fun x1 ex1 x2 ex2 => ?_⟩
    rw [ex2, nI_1, ex1]
    by_cases hlt : lst n < nI q
    · rw [if_pos hlt]
      have hnq : n ≤ q := (lst_ok n hn q (by omega)).mp hlt
      refine ih (i + 1) (q + 1) (by omega) (by omega) (fun k e hk1 hk2 => ?_)
      by_cases hki : k = i
      · subst hki
        rw [he] at hk2
        cases hk2
        exact ⟨q, by omega, hqe⟩
      · obtain ⟨q', h1, h2⟩ := hk k e (by omega) hk2
        exact ⟨q', by omega, h2⟩
    · rw [if_neg hlt]
      have hnq : q < n := by
        rcases Nat.lt_or_ge q n with y | y
        · exact y
        · exact absurd ((lst_ok n hn q (by omega)).mpr y) hlt
      refine ih (i + 1) n (by omega) hn (fun k e hk1 hk2 => ?_)
      by_cases hki : k = i
      · subst hki
        rw [he] at hk2
        cases hk2
        exact ⟨q, hnq, hqe⟩
      · exact hk k e (by omega) hk2
theorem lastSeen_s {S : zS} {P : Int32 → zS → zL → Prop} (hz : zR S 60 se) (hl : se.length ≤ 8) (hs : ∀ e ∈ se, ∃ q, q < 24 ∧ e.1 = nI q) (h : ∀ n, n ≤ 24 → (∀ e ∈ se, ∃ q, q < n ∧ e.1 = nI q) → P (lst n) S L) : zCi mX9_lastSeen S L [.ref 59] P :=
  e_X9_lastSeen (fun X => b_X9_lastSeen_0 (ls_l hz hl hs h se.length 0 0 (by omega) (by omega) (fun k _ hk => absurd hk (Nat.not_lt_zero _))))
end WT
section DG
variable (pe de ro jo fr se : List T3) (g c : Int32)
def pFt1 (col : Int32) (d : Nat) (b : Int32) (v : Nat) : Int32 := b ||| (if seOk pe.length (pCf pe (de.set d (t3s (de.getD d (0, 0, 0)) col (nI v))) ro jo fr g c) se = true then (1 : Int32) <<< (nI v &&& 31) else 0)
def pFt (col : Int32) (vals d : Nat) : Int32 := (List.range vals).foldl (pFt1 pe de ro jo fr se g c col d) 0
/-- had a deed not been -/
abbrev pWd (p d m : Nat) : Int32 := (pCf pe (de.eraseIdx d) ro jo fr g c (m + 1)).1 p
end DG
def pAl1 (bits : Int32) (W : Nat → Nat → Int32) (m d : Nat) (a : Int32) (b : Nat) : Int32 := if bt bits b = true ∧ W b m = W d m then a + 1 else a
def pAl (bits : Int32) (W : Nat → Nat → Int32) (nd m d : Nat) : Int32 := (List.range nd).foldl (pAl1 bits W m d) 0
def pMx1 (bits : Int32) (W : Nat → Nat → Int32) (nd m : Nat) (a : Int32) (d : Nat) : Int32 := if bt bits d = true then (if a < pAl bits W nd m d then pAl bits W nd m d else a) else a
def pMx (bits : Int32) (W : Nat → Nat → Int32) (nd m : Nat) : Int32 := (List.range nd).foldl (pMx1 bits W nd m) 0
def pAk1 (bits : Int32) (W : Nat → Nat → Int32) (nd : Nat) (b : Nat × Int32) (m : Nat) : Nat × Int32 := if pMx bits W nd m < b.2 then (m, pMx bits W nd m) else b
def pAk (bits : Int32) (W : Nat → Nat → Int32) (nd : Nat) : Nat × Int32 := (List.range 24).foldl (pAk1 bits W nd) (0, 11)
section WU
variable {pe de ro jo fr se : List T3} {g c : Int32} {L : zL} {X : Nat × (Nat → Int32)}
theorem xW_deed (hW : xW pe de ro jo fr) {d : Nat} {col x : Int32} (hd : d < de.length) (hc : ¬ col = 0) : xW pe (de.set d (t3s (de.getD d (0, 0, 0)) col x)) ro jo fr := by
  refine hW.to_de (by simp; exact hW.1.1.2.1) (fun e he => ?_)
  rcases List.mem_or_eq_of_mem_set he with z | z
  · exact hW.deE e z
  · rw [z]
    have h1 : (t3s (de.getD d (0, 0, 0)) col x).1 = (de.getD d (0, 0, 0)).1 := by
      unfold t3s; rw [if_neg hc]; split <;> rfl
    obtain ⟨q, hq, hqe⟩ := hW.deE _ (List.mem_of_getElem? (getD_at hd))
    exact ⟨q, hq, h1.trans hqe⟩
theorem ft_l {S0 : zS} {P : Int32 → zS → zL → Prop} (hT : zT S0 5 pe de ro jo fr g c) (hW : sW pe de ro jo fr se) (hz : zR S0 60 se) {n d vals : Nat} {col : Int32} (hn : n ≤ 24) (hs : ∀ e ∈ se, ∃ q, q < n ∧ e.1 = nI q) (hd : d < de.length) (hc : ¬ col = 0) (hv : vals ≤ 8) (h : ∀ S', (∀ j, j < 31 ∨ 55 < j → S' j = S0 j) → P (pFt pe de ro jo fr se g c col vals d) S' L) : ∀ (e v : Nat) (b : Int32) (S : zS), v + e = vals → (∀ j, j < 31 ∨ 55 < j → S j = S0 j) → (List.range' v e).foldl (pFt1 pe de ro jo fr se g c col d) b = pFt pe de ro jo fr se g c col vals d → zU mX9_fitting X S L 12 [some (.ref 59), some (.int (nI d)), some (.int col), some (.int (nI vals)), some (.int (lst n)), some (.int b), some (.int (nI v))] [] (zpi P) := by
  have hlen := hW.1.1.1
  intro e
  induction e with
  | zero =>
    intro v b S he f1 hb
    refine b_X9_fitting_12 ⟨fun _ => ?_, fun z => absurd (nI_le (by omega) (by omega)) z⟩
    have := h S f1
    rw [← hb] at this
    exact this
  | succ e ih =>
    intro v b S he f1 hb
    rw [List.range'_succ, List.foldl_cons] at hb
    refine b_X9_fitting_12 ⟨fun z => absurd z (nI_ge (by omega) (by omega)), fun _ => ?_⟩
    have hTS : zT S 5 pe de ro jo fr g c := hT.out (fun j a b => f1 j (by omega))
    refine afresh_s hlen hTS (fun S1 hT1 o1 => ?_)
    refine rows_setCell (n := 10) zTo31.2.2.1 hT1.2.1 ⟨hlen.2.1, by omega⟩ (getD_at hd) (fun S2 hR2 o2 => ?_)
    have hT2 := zT_de hT1 hR2 o2
    refine run_s zCo2 (xW_deed hW.1 hd hc).1 hT2 (n := n) hn (lst_ok n hn) ?_
    generalize hS3 : zRun S2 52 pe (de.set d (t3s (de.getD d (0, 0, 0)) col (nI v))) ro jo fr g c n = S3
    have hC3 : cRun S3 52 pe (de.set d (t3s (de.getD d (0, 0, 0)) col (nI v))) ro jo fr g c n := by rw [← hS3]; exact cRun_of
    have o3 : zOut 52 55 S2 S3 := by rw [← hS3]; exact zRun_out
    have o : zOut 31 55 S S3 := ((o1.mono (by omega) (by omega)).trans (o2.mono (by omega) (by omega))).trans (o3.mono (by omega) (by omega))
    have g3 : ∀ j, j < 31 ∨ 55 < j → S3 j = S0 j := fun j hj => (o j (by omega)).trans (f1 j hj)
    have hz3 : zR S3 60 se := hz.keep (g3 _ (by omega)) (g3 _ (by omega)) (g3 _ (by omega)) (g3 _ (by omega))
    refine comesOut_s (np := pe.length) hC3 hn hlen.1 (by rw [g3 6 (by omega)]; exact hT.1.1) hz3 hW.2.2.2.1 (fun e he => ⟨hs e he, (hW.2.2.2.2 e he).2⟩) ?_
    refine ⟨fun z x1 ex1 x2 ex2 => ?_, fun z x1 ex1 x2 ex2 => ?_⟩
    · rw [ex2, nI_1, ex1]
      rw [pFt1, if_neg (fun y => by rw [if_pos y] at z; exact absurd z (by decide))] at hb
      exact ih (v + 1) _ S3 (by omega) g3 hb
    · rw [ex2, nI_1, ex1]
      have hy : seOk pe.length (pCf pe (de.set d (t3s (de.getD d (0, 0, 0)) col (nI v))) ro jo fr g c) se = true := by
        rcases Decidable.em (seOk pe.length (pCf pe (de.set d (t3s (de.getD d (0, 0, 0)) col (nI v))) ro jo fr g c) se = true) with y | y
        · exact y
        · rw [if_neg y] at z; exact absurd rfl z
      rw [pFt1, if_pos hy] at hb
      exact ih (v + 1) _ S3 (by omega) g3 hb
theorem fitting_s {S : zS} {P : Int32 → zS → zL → Prop} (hQ : cQ pe de ro jo fr se g c S L) {d vals : Nat} {col : Int32} (hd : d < de.length) (hc : ¬ col = 0) (hv : vals ≤ 8) (h : ∀ S', cQ pe de ro jo fr se g c S' L → qF S S' → P (pFt pe de ro jo fr se g c col vals d) S' L) : zCi mX9_fitting S L [.ref 59, .int (nI d), .int col, .int (nI vals)] P := by
  have hQ0 := hQ
  obtain ⟨hT, hW, hR, hA, hM, hB, hH, hWi, hV⟩ := hQ
  refine e_X9_fitting (fun X => b_X9_fitting_0 (lastSeen_s hR hW.2.2.2.1 (fun e he => (hW.2.2.2.2 e he).1) (fun n hn hs => ?_)))
  refine ft_l hT hW hR hn hs hd hc hv (fun S' o => ?_) vals 0 0 S (by omega) (fun _ _ => rfl) (by rw [← List.range_eq_range']; rfl)
  have hq : qF S S' := fun j hj => o j (by omega)
  exact h S' (hQ0.keep hq (hA.keep (o _ (by omega)) (o _ (by omega)) (o _ (by omega)) (o _ (by omega))) (hM.keep (by rw [o 56 (by omega)]) (o _ (by omega))) (hB.keep (fun i _ _ => by rw [o 56 (by omega)])) (hH.keep (fun i _ => by rw [o 56 (by omega)])) (hWi.keep (o _ (by omega)) (o _ (by omega))) (hV.keep (by rw [o 65 (by omega)]) (by rw [o 65 (by omega)]) rfl rfl)) hq
/-! the month to ask -/
theorem bt0 {x : Int32} {m : Nat} (hm : m < 31) : (x >>> (nI m &&& 31)) &&& (1 : Int32) = 0 ↔ ¬ bt x m = true := by
  rw [b_low0 hm]; cases bt x m <;> simp
section ASK
variable {S : zS} {W : Nat → Nat → Int32} {bits : Int32} {nd p : Nat} {P : Int32 → zS → zL → Prop}
theorem ml_l (hnd : nd ≤ 10) (hp : p < 8) (h10 : S 10 3 = nI nd) (h59 : S 59 1 = bits) (hw : ∀ d m, d < nd → m < 24 → S 64 (8 * (24 * d + m) + p) = W d m) {d m : Nat} (hm : m < 24) : ∀ (e b : Nat) (a : Int32), b + e = nd → P ((List.range' b e).foldl (pAl1 bits W m d) a) S L → zU mX9_manyLike X S L 19 [some (.ref 59), none, some (.int (nI m)), some (.int (nI p)), some (.int (W d m)), some (.int a), some (.int (nI b))] [] (zpi P) := by
  intro e
  induction e with
  | zero =>
    intro b a he h
    refine b_X9_manyLike_19 ⟨fun _ => h, fun z => absurd ?_ z⟩
    rw [h10]; exact nI_le (by omega) (by omega)
  | succ e ih =>
    intro b a he h
    rw [List.range'_succ, List.foldl_cons] at h
    refine b_X9_manyLike_19 ⟨fun z => absurd z ?_, fun _ => ?_⟩
    · rw [h10]; exact nI_ge (by omega) (by omega)
    rw [h59]
    refine ⟨fun z x1 ex1 => ?_, fun z => placeOf_s ?_⟩
    · rw [pAl1, if_neg (fun y => (bt0 (by omega)).mp z y.1)] at h
      rw [ex1, nI_1]; exact ih (b + 1) _ (by omega) h
    · have hb : bt bits b = true := by
        rcases Decidable.em (bt bits b = true) with y | y
        · exact y
        · exact absurd ((bt0 (by omega)).mpr y) z
      rw [cl_nI (by omega), hw b m (by omega) hm]
      refine ⟨vp_in_nI (by omega) (by omega), fun z2 x1 ex1 => ?_, fun z2 x1 ex1 x2 ex2 => ?_⟩
      · rw [pAl1, if_neg (fun y => z2 y.2)] at h
        rw [ex1, nI_1]; exact ih (b + 1) _ (by omega) h
      · rw [pAl1, if_pos ⟨hb, z2⟩] at h
        rw [ex2, nI_1, ex1]; exact ih (b + 1) _ (by omega) h
theorem manyLike_s (hnd : nd ≤ 10) (hp : p < 8) (h10 : S 10 3 = nI nd) (h59 : S 59 1 = bits) (hw : ∀ d m, d < nd → m < 24 → S 64 (8 * (24 * d + m) + p) = W d m) {d m : Nat} (hd : d < nd) (hm : m < 24) (h : P (pAl bits W nd m d) S L) : zCi mX9_manyLike S L [.ref 59, .int (nI d), .int (nI m), .int (nI p)] P := by
  refine e_X9_manyLike (fun X => b_X9_manyLike_0 (placeOf_s ?_))
  rw [cl_nI (by omega), hw d m hd hm]
  refine ⟨vp_in_nI (by omega) (by omega), fun x1 ex1 => ?_⟩
  rw [ex1]
  refine ml_l hnd hp h10 h59 hw hm nd 0 0 (by omega) ?_
  rw [← List.range_eq_range']; exact h
theorem ma_l (hnd : nd ≤ 10) (hp : p < 8) (h10 : S 10 3 = nI nd) (h59 : S 59 1 = bits) (hw : ∀ d m, d < nd → m < 24 → S 64 (8 * (24 * d + m) + p) = W d m) {m : Nat} (hm : m < 24) : ∀ (e d : Nat) (a : Int32), d + e = nd → P ((List.range' d e).foldl (pMx1 bits W nd m) a) S L → zU mX9_mostAlike X S L 5 [some (.ref 59), some (.int (nI m)), some (.int (nI p)), some (.int a), some (.int (nI d))] [] (zpi P) := by
  intro e
  induction e with
  | zero =>
    intro d a he h
    refine b_X9_mostAlike_5 ⟨fun _ => h, fun z => absurd ?_ z⟩
    rw [h10]; exact nI_le (by omega) (by omega)
  | succ e ih =>
    intro d a he h
    rw [List.range'_succ, List.foldl_cons] at h
    refine b_X9_mostAlike_5 ⟨fun z => absurd z ?_, fun _ => ?_⟩
    · rw [h10]; exact nI_ge (by omega) (by omega)
    rw [h59]
    refine ⟨fun z x1 ex1 => ?_, fun z => ?_⟩
    · rw [pMx1, if_neg (fun y => (bt0 (by omega)).mp z y)] at h
      rw [ex1, nI_1]; exact ih (d + 1) _ (by omega) h
    · have hb : bt bits d = true := by
        rcases Decidable.em (bt bits d = true) with y | y
        · exact y
        · exact absurd ((bt0 (by omega)).mpr y) z
      rw [pMx1, if_pos hb] at h
      refine manyLike_s hnd hp h10 h59 hw (by omega) hm (fun x1 ex1 x2 ex2 => ?_)
      rw [ex2, nI_1, ex1]; exact ih (d + 1) _ (by omega) h
theorem mostAlike_s (hnd : nd ≤ 10) (hp : p < 8) (h10 : S 10 3 = nI nd) (h59 : S 59 1 = bits) (hw : ∀ d m, d < nd → m < 24 → S 64 (8 * (24 * d + m) + p) = W d m) {m : Nat} (hm : m < 24) (h : P (pMx bits W nd m) S L) : zCi mX9_mostAlike S L [.ref 59, .int (nI m), .int (nI p)] P := by
  refine e_X9_mostAlike (fun X => b_X9_mostAlike_0 (ma_l hnd hp h10 h59 hw hm nd 0 0 (by omega) ?_))
  rw [← List.range_eq_range']; exact h
theorem mk_l (hnd : nd ≤ 10) (hp : p < 8) (h10 : S 10 3 = nI nd) (h59 : S 59 1 = bits) (hw : ∀ d m, d < nd → m < 24 → S 64 (8 * (24 * d + m) + p) = W d m) : ∀ (e m : Nat) (b : Nat × Int32), m + e = 24 → P (nI ((List.range' m e).foldl (pAk1 bits W nd) b).1) S L → zU mX9_monthToAsk X S L 8 [some (.ref 59), some (.int (nI p)), some (.int (nI b.1)), some (.int b.2), some (.int (nI m)), none] [] (zpi P) := by
  intro e
  induction e with
  | zero =>
    intro m b he h
    have : m = 24 := by omega
    subst this
    exact b_X9_monthToAsk_8 ⟨fun _ => h, fun z => absurd (by decide) z⟩
  | succ e ih =>
    intro m b he h
    rw [List.range'_succ, List.foldl_cons] at h
    refine b_X9_monthToAsk_8 ⟨fun z => absurd z (nI_ge (b := 24) (by omega) (by omega)), fun _ => ?_⟩
    refine mostAlike_s hnd hp h10 h59 hw (by omega) ⟨fun z x1 ex1 => ?_, fun z x1 ex1 => ?_⟩
    · rw [pAk1, if_neg (i32_nlt z)] at h
      rw [ex1, nI_1]; exact ih (m + 1) b (by omega) h
    · rw [pAk1, if_pos (i32_lt z)] at h
      rw [ex1, nI_1]; exact ih (m + 1) (m, pMx bits W nd m) (by omega) h
theorem monthToAsk_s (hnd : nd ≤ 10) (hp : p < 8) (h10 : S 10 3 = nI nd) (h59 : S 59 1 = bits) (hw : ∀ d m, d < nd → m < 24 → S 64 (8 * (24 * d + m) + p) = W d m) (h : P (nI (pAk bits W nd).1) S L) : zCi mX9_monthToAsk S L [.ref 59, .int (nI p)] P := by
  refine e_X9_monthToAsk (fun X => b_X9_monthToAsk_0 (mk_l hnd hp h10 h59 hw 24 0 (0, 11) (by omega) ?_))
  rw [← List.range_eq_range']; exact h
end ASK
end WU
section AW
variable (pe de ro jo fr se : List T3) (g c : Int32)
def aWas (d w : Int32) : Int32 := if okN de.length d ∧ ((0 : Int32) ≤ w ∧ w ≤ (1 : Int32)) then (if w = 0 then pFt pe de ro jo fr se g c 2 4 d.toNatClampNeg else pFt pe de ro jo fr se g c 1 pe.length d.toNatClampNeg) else -2
def aAsk (p : Int32) : Int32 := if okN pe.length p then nI (pAk (pNv pe de ro jo fr se g c) (pWd pe de ro jo fr g c p.toNatClampNeg) de.length).1 else -2
end AW
section QW
variable {pe de ro jo fr se : List T3} {g c : Int32} {S : zS} {L : zL} {P : Int32 → zS → zL → Prop}
theorem never_c (hQ : cQ pe de ro jo fr se g c S L) (h : ∀ S', cQ pe de ro jo fr se g c S' L → qF S S' → P (pNv pe de ro jo fr se g c) S' L) : zCi mX10_never S L [.ref 0] P :=
  e_X10_never (fun X => b_X10_never_0 (survey_s hQ (fun S' hQ' hq k1 _ => by rw [k1]; exact h S' hQ' hq)))
theorem was_c {d w : Int32} (hQ : cQ pe de ro jo fr se g c S L) (h : ∀ S', cQ pe de ro jo fr se g c S' L → qF S S' → P (aWas pe de ro jo fr se g c d w) S' L) : zCi mX10_was S L [.ref 0, .int d, .int w] P := by
  have hl := hQ.len
  refine e_X10_was (fun X => b_X10_was_0 ?_)
  rw [hQ.1.1.1, hQ.1.2.1.1]
  refine ⟨fun q1 => ⟨fun q2 => ⟨fun z0 => ?_, fun z0 => ?_⟩, fun z => ?_⟩, fun z => ?_⟩
  · rw [aWas, if_pos ⟨q1, q2⟩, if_neg z0] at h
    obtain ⟨d, hd, rfl⟩ := rng_ix (by omega) q1
    rw [cl_nI (by omega)] at h
    exact fitting_s hQ hd (by decide) hl.1 h
  · rw [aWas, if_pos ⟨q1, q2⟩, if_pos z0] at h
    obtain ⟨d, hd, rfl⟩ := rng_ix (by omega) q1
    rw [cl_nI (by omega)] at h
    exact fitting_s (vals := 4) hQ hd (by decide) (by omega) h
  · rw [aWas, if_neg (fun y => z y.2)] at h; exact h S hQ qF.rf
  · rw [aWas, if_neg (fun y => z y.1)] at h; exact h S hQ qF.rf
theorem ask_c {p : Int32} (hQ : cQ pe de ro jo fr se g c S L) (h : ∀ S', cQ pe de ro jo fr se g c S' L → qF S S' → P (aAsk pe de ro jo fr se g c p) S' L) : zCi mX10_ask S L [.ref 0, .int p] P := by
  have hl := hQ.len
  refine e_X10_ask (fun X => b_X10_ask_0 ?_)
  rw [hQ.1.1.1]
  refine ⟨fun q1 => ?_, fun z => ?_⟩
  · rw [aAsk, if_pos q1] at h
    obtain ⟨p, hp, rfl⟩ := rng_ix (by omega) q1
    rw [cl_nI (by omega)] at h
    refine survey_s hQ (fun S' hQ' hq k1 k2 => ?_)
    exact monthToAsk_s (W := pWd pe de ro jo fr g c p) hl.2.1 (by omega) hQ'.1.2.1.1 k1 (fun d m hd hm => k2 d m p hd hm hp) (h S' hQ' hq)
  · rw [aAsk, if_neg z] at h; exact h S hQ qF.rf
end QW
