section LGT
variable {pe de ro jo fr se : List T3} {g c : Int32} {L : zL} {X : Nat × (Nat → Int32)}
theorem mul8 {r p : Nat} : nI r * (8 : Int32) + nI p = nI (8 * r + p) := by rw [show (8 : Int32) = nI 8 by decide, pk_mul, nI_add, Nat.mul_comm]
/-- the rows are measured up to r, and of row r up to p -/
def MI (S0 S : zS) (Z : Nat → pZ) (r p : Nat) : Prop := (∀ j, j ≠ 58 → S j = S0 j) ∧ (∀ i, i < 8 * r ∨ 8 * r + 8 ≤ i → S 58 i = S0 58 i) ∧ ∀ q, q < p → S 58 (8 * r + q) = pHi Z q
theorem me_in {pe' de' ro' jo' fr' : List T3} {g' c' : Int32} {S : zS} {P : zS → zL → Prop} (hR : cRun S 52 pe' de' ro' jo' fr' g' c' 24) {r p : Nat} (hr : r < 56) (hp : p < 8) (K : ∀ S', S' = zc S 58 (upd (S 58) (8 * r + p) (pHi (pCf pe' de' ro' jo' fr' g' c') p)) → zU mX4_measure X S' L 2 [some (.ref 56), some (.int (nI r)), some (.int (nI (p + 1))), none, none] [] (zpv P)) : ∀ (d m : Nat) (a : Int32), m + d = 24 → (List.range' m d).foldl (pHi1 (pCf pe' de' ro' jo' fr' g' c') p) a = pHi (pCf pe' de' ro' jo' fr' g' c') p → zU mX4_measure X S L 24 [some (.ref 56), some (.int (nI r)), some (.int (nI p)), some (.int a), some (.int (nI m))] [] (zpv P) := by
  intro d
  induction d with
  | zero =>
    intro m a hd ha
    have : m = 24 := by omega
    subst this
    refine b_X4_measure_24 ⟨fun _ => ?_, fun z => absurd (by decide) z⟩
    rw [mul8, cl_nI (by omega)]
    refine ⟨vp_in_nI (by omega) (by omega), fun S1 e1 x1 ex1 => ?_⟩
    rw [ex1, nI_1]
    refine K S1 ?_
    rw [e1, ← ha]; rfl
  | succ d ih =>
    intro m a hd ha
    rw [List.range'_succ, List.foldl_cons] at ha
    refine b_X4_measure_24 ⟨fun z => absurd z (nI_ge (b := 24) (by omega) (by omega)), fun _ => ?_⟩
    rw [of0]
    refine behind_s zCo2 hR (Nat.le_refl _) (by omega) (by omega) (fun x1 ex1 x2 ex2 => ?_)
    rw [ex2, nI_1, ex1]
    exact ih (m + 1) _ (by omega) ha
theorem me_out {pe' de' ro' jo' fr' : List T3} {g' c' : Int32} {S0 : zS} {P : zS → zL → Prop} (hR : cRun S0 52 pe' de' ro' jo' fr' g' c' 24) {r np : Nat} (hr : r < 56) (hn : np ≤ 8) (hp : S0 6 3 = nI np) (K : ∀ S1 S', MI S0 S1 (pCf pe' de' ro' jo' fr' g' c') r np → S' = zc S1 56 (upd (S1 56) 3 (nI (r + 1))) → P S' L) : ∀ (d p : Nat) (S : zS), p + d = np → MI S0 S (pCf pe' de' ro' jo' fr' g' c') r p → zU mX4_measure X S L 2 [some (.ref 56), some (.int (nI r)), some (.int (nI p)), none, none] [] (zpv P) := by
  intro d
  induction d with
  | zero =>
    intro p S hd hI
    have : p = np := by omega
    subst this
    refine b_X4_measure_2 ⟨fun _ S1 e1 => K S S1 hI ?_, fun z => absurd ?_ z⟩
    · rw [e1, nI_1]
    · rw [hI.1 6 (by omega), hp]; exact nI_le (Nat.le_refl _) (by omega)
  | succ d ih =>
    intro p S hd hI
    obtain ⟨f1, f2, f3⟩ := hI
    refine b_X4_measure_2 ⟨fun z => absurd z ?_, fun _ => ?_⟩
    · rw [f1 6 (by omega), hp]; exact nI_ge (by omega) (by omega)
    · refine me_in (hR.keep (f1 _ (by omega)) (f1 _ (by omega)) (f1 _ (by omega))) hr (by omega) (fun S1 e1 => ?_) 24 0 0 (by omega) ?_
      · refine ih (p + 1) S1 (by omega) ⟨fun j hj => by rw [e1, zc_ne _ _ hj]; exact f1 j hj, fun i hi => ?_, fun q hq => ?_⟩
        · rw [e1, zc_eq, upd, if_neg (by omega)]; exact f2 i hi
        · rw [e1, zc_eq]
          by_cases hqp : q = p
          · subst hqp; simp [upd]
          · rw [upd, if_neg (by omega)]; exact f3 q (by omega)
      · rw [← List.range_eq_range']; rfl
theorem measure_s {pe' de' ro' jo' fr' : List T3} {g' c' : Int32} {S : zS} {P : zS → zL → Prop} (hR : cRun S 52 pe' de' ro' jo' fr' g' c' 24) {r np : Nat} (hr : r < 56) (hn : np ≤ 8) (hp : S 6 3 = nI np) (h : ∀ S', (∀ j, j ≠ 58 → j ≠ 56 → S' j = S j) → S' 56 = upd (S 56) 3 (nI (r + 1)) → (∀ i, i < 8 * r ∨ 8 * r + 8 ≤ i → S' 58 i = S 58 i) → (∀ q, q < np → S' 58 (8 * r + q) = pHi (pCf pe' de' ro' jo' fr' g' c') q) → P S' L) : zCv mX4_measure S L [.ref 56, .int (nI r)] P := by
  refine e_X4_measure (fun X => b_X4_measure_0 (me_out hR hr hn hp (fun S1 S' hI e' => ?_) np 0 S (by omega) ⟨fun _ _ => rfl, fun _ _ => rfl, fun q hq => absurd hq (Nat.not_lt_zero _)⟩))
  obtain ⟨f1, f2, f3⟩ := hI
  refine h S' (fun j a b => by rw [e', zc_ne _ _ b, f1 j a]) (by rw [e', zc_eq, f1 56 (by omega)]) (fun i hi => by rw [e', zc_ne _ _ (by omega)]; exact f2 i hi) (fun q hq => by rw [e', zc_ne _ _ (by omega)]; exact f3 q hq)
/-- as light as that -/
def okL (pe de ro jo fr : List T3) (g c : Int32) (p : Nat) (most : Int32) (ch : Int32 × Int32) : Bool := !decide (most < pHi (pCf pe (chO de ch) ro jo fr g c) p)
def okS (pe de ro jo fr : List T3) (g c : Int32) (ch : Int32 × Int32) : Bool := decide (pLg pe.length (pCf pe de (chO ro ch) jo fr g c 24).2.1 = nI pe.length)
theorem getC {l : List (Int32 × Int32)} {r : Nat} (h : r < l.length) : l[r]? = some (l.getD r (0, 0)) := by
  rw [List.getD_eq_getElem?_getD, List.getElem?_eq_getElem h]; rfl
theorem dropC {l : List (Int32 × Int32)} {r : Nat} (h : r < l.length) : l.drop r = l.getD r (0, 0) :: l.drop (r + 1) := by
  rw [List.getD_eq_getElem?_getD, List.getElem?_eq_getElem h]; exact List.drop_eq_getElem_cons h
/-- at row r -/
def LI (S0 S : zS) (r n : Nat) (ch : Int32 × Int32) : Prop := (∀ j, j < 31 ∨ 58 < j → S j = S0 j) ∧ (∀ i, i ≠ 3 → S 56 i = S0 56 i) ∧ S 57 0 = ch.1 ∧ S 57 1 = ch.2 ∧ r ≤ n ∧ S 56 3 = nI n ∧ n ≤ 56
theorem fd_l {S0 : zS} {P : Int32 → zS → zL → Prop} (hT : zT S0 5 pe de ro jo fr g c) (hW : xW pe de ro jo fr) {p : Nat} {most i : Int32} (hp : p < pe.length) (h : ∀ S', (∀ j, j < 31 ∨ 58 < j → S' j = S0 j) → (∀ i, i ≠ 3 → S' 56 i = S0 56 i) → cM pe de ro jo fr g c S' → P (pTell ((chs de.length).find? (okL pe de ro jo fr g c p most)) i) S' L) : ∀ (d r n : Nat) (S : zS), r + d = (chs de.length).length → 0 < d → LI S0 S r n ((chs de.length).getD r (0, 0)) → cM pe de ro jo fr g c S → (chs de.length).find? (okL pe de ro jo fr g c p most) = ((chs de.length).drop r).find? (okL pe de ro jo fr g c p most) → zU mX4_fewestDeeds X S L 10 [some (.ref 56), some (.int (nI p)), some (.int most), some (.int i), some (.int (nI r))] [] (zpi P) := by
  have hlen := hW.1.1
  have h56 := chs_len de.length hlen.2.1
  intro d
  induction d with
  | zero => intro r n S _ h0; exact absurd h0 (by omega)
  | succ d ih =>
    intro r n S hd _ hI hM hf
    obtain ⟨f1, f2, c0, c1, hrn, hn, hn56⟩ := hI
    have hrl : r < (chs de.length).length := by omega
    have hmem : (chs de.length).getD r (0, 0) ∈ chs de.length := List.mem_of_getElem? (getC hrl)
    -- behind the measuring
    have body : ∀ S1 n1, (∀ j, j < 31 ∨ 58 < j → S1 j = S0 j) → (∀ i, i ≠ 3 → S1 56 i = S0 56 i) → S1 57 0 = ((chs de.length).getD r (0, 0)).1 → S1 57 1 = ((chs de.length).getD r (0, 0)).2 → r < n1 → n1 ≤ 56 → S1 56 3 = nI n1 → cM pe de ro jo fr g c S1 → zU mX4_fewestDeeds X S1 L 68 [some (.ref 56), some (.int (nI p)), some (.int most), some (.int i), some (.int (nI r))] [] (zpi P) := by
      intro S1 n1 g1 g2 k0 k1 hrn1 hn56' hn1 hM1
      obtain ⟨n2, hn2, hn3, hmm⟩ := hM1
      have hn12 : n2 = n1 := by
        rw [hn1] at hn3
        exact ((nI_eq (by omega) (by omega)).mp hn3).symm
      subst hn12
      have hv := hmm r _ p hrn1 (getC hrl) hp
      refine b_X4_fewestDeeds_68 ?_
      rw [mul8, cl_nI (by omega), hv]
      refine ⟨vp_in_nI (by omega) (by omega), fun z => ?_, fun z => ?_⟩
      · have hno : okL pe de ro jo fr g c p most ((chs de.length).getD r (0, 0)) = false := by unfold okL; rw [decide_eq_true z]; rfl
        rw [dropC hrl, List.find?_cons, hno] at hf
        have hc10 : S1 10 3 = nI de.length := by rw [g1 10 (by omega)]; exact hT.2.1.1
        rw [hc10]
        have hgo := goC_chs de.length hlen.2.1 r hrl
        refine goOn_s (ch := (chs de.length).getD r (0, 0)) k0 k1 (fun S2 a0 a1 o2 => ?_)
        by_cases hlast : r + 1 < (chs de.length).length
        · rw [if_pos hlast] at hgo
          rw [hgo] at a0 a1 ⊢
          refine ⟨fun _ x1 ex1 => ?_, fun y => absurd y (show ¬ (1 : Int32) = 0 by decide)⟩
          rw [ex1, nI_1]
          exact ih (r + 1) n2 S2 (by omega) (by omega) ⟨fun j hj => (o2 j (by omega)).trans (g1 j hj), fun i hi => by rw [o2 56 (by omega)]; exact g2 i hi, a0, a1, hrn1, by rw [o2 56 (by omega), hn1], hn56'⟩ (cM.keep ⟨n2, hn2, hn3, hmm⟩ (by rw [o2 56 (by omega)]) (o2 58 (by omega))) hf
        · rw [if_neg hlast] at hgo
          rw [hgo]
          refine ⟨fun y => absurd rfl y, fun _ => ?_⟩
          rw [List.drop_eq_nil_iff.mpr (by omega)] at hf
          have := h S2 (fun j hj => (o2 j (by omega)).trans (g1 j hj)) (fun i hi => by rw [o2 56 (by omega)]; exact g2 i hi) (cM.keep ⟨n2, hn2, hn3, hmm⟩ (by rw [o2 56 (by omega)]) (o2 58 (by omega)))
          rw [hf] at this
          exact this
      · have hyes : okL pe de ro jo fr g c p most ((chs de.length).getD r (0, 0)) = true := by unfold okL; rw [decide_eq_false z]; rfl
        rw [dropC hrl, List.find?_cons, hyes] at hf
        have := h S1 g1 g2 ⟨n2, hn2, hn3, hmm⟩
        rw [hf] at this
        exact tell_s (ch := (chs de.length).getD r (0, 0)) k0 k1 this
    refine b_X4_fewestDeeds_10 ⟨fun z => absurd z (nI_ge (b := 56) (by omega) (by omega)), fun _ => ?_⟩
    rw [hn]
    obtain ⟨n2, hn2, hn3, hmm⟩ := hM
    have hn12 : n2 = n := by
      rw [hn] at hn3
      exact ((nI_eq (by omega) (by omega)).mp hn3).symm
    subst hn12
    refine ⟨fun z => body S n2 f1 f2 c0 c1 ((nI_ltI (by omega) (by omega)).mp z) hn56 hn ⟨n2, hn2, hn3, hmm⟩, fun z => ?_⟩
    have hnr : n2 = r := by
      rcases Nat.lt_or_ge r n2 with y | y
      · exact absurd (nI_lt y (by omega)) z
      · omega
    subst hnr
    have hTS : zT S 5 pe de ro jo fr g c := hT.out (fun j a b => f1 j (by omega))
    refine afresh_s hlen hTS (fun S1 hT1 o1 => ?_)
    refine outOf36_s (ch := (chs de.length).getD n2 (0, 0)) (by rw [o1 57 (by omega)]; exact c0) (by rw [o1 57 (by omega)]; exact c1) hT1.2.1 hlen.2.1 hmem (fun S2 hR2 o2 => ?_)
    have hT2 := zT_de hT1 hR2 o2
    have hW2 : xW pe (chO de ((chs de.length).getD n2 (0, 0))) ro jo fr := hW.to_de (Nat.le_trans chO_len hlen.2.1) (fun e he => hW.deE e (chO_mem he))
    refine run52_s hW2 hT2 (fun S3 hC3 o3 => ?_)
    have o : zOut 31 55 S S3 := ((o1.mono (by omega) (by omega)).trans (o2.mono (by omega) (by omega))).trans (o3.mono (by omega) (by omega))
    refine measure_s hC3 (by omega) hlen.1 (np := pe.length) (by rw [o 6 (by omega), f1 6 (by omega)]; exact hT.1.1) (fun S4 k1 k2 k3 k4 => ?_)
    refine body S4 (n2 + 1) (fun j hj => (k1 j (by omega) (by omega)).trans ((o j (by omega)).trans (f1 j hj))) ?_ ?_ ?_ (by omega) (by omega) ?_ ⟨n2 + 1, by omega, ?_, fun r' ch p' hr' hch hp' => ?_⟩
    · intro i hi
      rw [k2, upd, if_neg hi, o 56 (by omega)]; exact f2 i hi
    · rw [k1 57 (by omega) (by omega), o 57 (by omega)]; exact c0
    · rw [k1 57 (by omega) (by omega), o 57 (by omega)]; exact c1
    · rw [k2, upd, if_pos rfl]
    · rw [k2, upd, if_pos rfl]
    · by_cases hrr : r' = n2
      · subst hrr
        rw [getC hrl] at hch
        cases hch
        exact k4 p' hp'
      · rw [k3 _ (by omega), o 58 (by omega)]
        exact hmm r' ch p' (by omega) hch hp'
theorem begin1_s {S : zS} {P : zS → zL → Prop} (h : ∀ S', S' 57 0 = -1 → S' 57 1 = -1 → zOut 57 57 S S' → P S' L) : zCv mX1_begin S L [.ref 57] P := by
  refine e_X1_begin (fun X => b_X1_begin_0 (fun S1 e1 S2 e2 => h S2 ?_ ?_ (fun j hj => ?_)))
  · rw [e2, zc_eq, upd, if_neg (by omega), e1, zc_eq, upd, if_pos rfl]
  · rw [e2, zc_eq, upd, if_pos rfl]
  · rw [e2, zc_ne _ _ (by omega), e1, zc_ne _ _ (by omega)]
theorem chs_pos (n : Nat) : 0 < (chs n).length := by unfold chs; simp
theorem fewestDeeds_s {S : zS} {P : Int32 → zS → zL → Prop} (hQ : cQ pe de ro jo fr se g c S L) {p : Nat} {most i : Int32} (hp : p < pe.length) (h : ∀ S', cQ pe de ro jo fr se g c S' L → qF S S' → P (pTell ((chs de.length).find? (okL pe de ro jo fr g c p most)) i) S' L) : zCi mX4_fewestDeeds S L [.ref 56, .int (nI p), .int most, .int i] P := by
  have hlen := hQ.len
  have h56 := chs_len de.length hlen.2.1
  have hQ0 := hQ
  obtain ⟨hT, hW, hR, hA, hM, hB, hH, hWi, hV⟩ := hQ
  obtain ⟨n, hn, hn2, hmm⟩ := hM
  refine e_X4_fewestDeeds (fun X => b_X4_fewestDeeds_0 (begin1_s (fun S1 a0 a1 o1 => ?_)))
  have hT1 : zT S1 5 pe de ro jo fr g c := hT.out (fun j _ _ => o1 j (by omega))
  refine fd_l hT1 hW.1 hp (fun S' k1 k2 hM' => ?_) (chs de.length).length 0 n S1 (by omega) (chs_pos _) ⟨fun _ _ => rfl, fun _ _ => rfl, a0, a1, Nat.zero_le _, by rw [o1 56 (by omega)]; exact hn2, by omega⟩ (cM.keep ⟨n, hn, hn2, hmm⟩ (by rw [o1 56 (by omega)]) (o1 58 (by omega))) rfl
  have o : ∀ j, j < 31 ∨ 58 < j → S' j = S j := fun j hj => (k1 j hj).trans (o1 j (by omega))
  have o56 : ∀ i, i ≠ 3 → S' 56 i = S 56 i := fun i hi => by rw [k2 i hi, o1 56 (by omega)]
  have hq : qF S S' := fun j hj => o j (by omega)
  exact h S' (hQ0.keep hq (hA.keep (o _ (by omega)) (o _ (by omega)) (o _ (by omega)) (o _ (by omega))) hM' (hB.keep (fun i _ _ => o56 i (by omega))) (hH.keep (fun i _ => o56 i (by omega))) (hWi.keep (o _ (by omega)) (o _ (by omega))) (hV.keep (by rw [o 65 (by omega)]) (by rw [o 65 (by omega)]) rfl rfl)) hq
theorem fs_l {S0 : zS} {P : Int32 → zS → zL → Prop} (hT : zT S0 5 pe de ro jo fr g c) (hW : xW pe de ro jo fr) (hl : ro.length ≤ 8) {i : Int32} (h : ∀ S', (∀ j, j < 31 ∨ 55 < j → j ≠ 57 → S' j = S0 j) → P (pTell ((chs ro.length).find? (okS pe de ro jo fr g c)) i) S' L) : ∀ (d r : Nat) (S : zS), r + d = (chs ro.length).length → 0 < d → (∀ j, j < 31 ∨ 55 < j → j ≠ 57 → S j = S0 j) → S 57 0 = ((chs ro.length).getD r (0, 0)).1 → S 57 1 = ((chs ro.length).getD r (0, 0)).2 → (chs ro.length).find? (okS pe de ro jo fr g c) = ((chs ro.length).drop r).find? (okS pe de ro jo fr g c) → zU mX4_fewestRounds X S L 9 [some (.ref 56), some (.int i), some (.int (nI r))] [] (zpi P) := by
  have hlen := hW.1.1
  have h56 := chs_len ro.length (by omega)
  intro d
  induction d with
  | zero => intro r S _ h0; exact absurd h0 (by omega)
  | succ d ih =>
    intro r S hd _ f1 c0 c1 hf
    have hrl : r < (chs ro.length).length := by omega
    have hmem : (chs ro.length).getD r (0, 0) ∈ chs ro.length := List.mem_of_getElem? (getC hrl)
    refine b_X4_fewestRounds_9 ⟨fun z => absurd z (nI_ge (b := 56) (by omega) (by omega)), fun _ => ?_⟩
    have hTS : zT S 5 pe de ro jo fr g c := hT.out (fun j a b => f1 j (by omega) (by omega))
    refine afresh_s hlen hTS (fun S1 hT1 o1 => ?_)
    refine outOf40_s (ch := (chs ro.length).getD r (0, 0)) (by rw [o1 57 (by omega)]; exact c0) (by rw [o1 57 (by omega)]; exact c1) hT1.2.2.1 (by omega) hmem (fun S2 hR2 o2 => ?_)
    have hT2 := zT_ro hT1 hR2 o2
    have hW2 : xW pe de (chO ro ((chs ro.length).getD r (0, 0))) jo fr := hW.to_ro (Nat.le_trans chO_len (by omega)) (fun e he => hW.roE e (chO_mem he))
    refine run52_s hW2 hT2 (fun S3 hC3 o3 => ?_)
    have o : zOut 31 55 S S3 := ((o1.mono (by omega) (by omega)).trans (o2.mono (by omega) (by omega))).trans (o3.mono (by omega) (by omega))
    have hp32 : S3 (31 + 1) 3 = nI pe.length := by rw [o3 _ (by omega)]; exact hT2.1.1
    refine living_s zCo2 hlen.1 hp32 ?_
    have h6 : S3 6 3 = nI pe.length := by rw [o 6 (by omega), f1 6 (by omega) (by omega)]; exact hT.1.1
    have h14 : S3 14 3 = nI ro.length := by rw [o 14 (by omega), f1 14 (by omega) (by omega)]; exact hT.2.2.1.1
    rw [h6, h14, hC3.1]
    have c0' : S3 57 0 = ((chs ro.length).getD r (0, 0)).1 := by rw [o 57 (by omega)]; exact c0
    have c1' : S3 57 1 = ((chs ro.length).getD r (0, 0)).2 := by rw [o 57 (by omega)]; exact c1
    have g1 : ∀ j, j < 31 ∨ 55 < j → j ≠ 57 → S3 j = S0 j := fun j a b => (o j (by omega)).trans (f1 j a b)
    refine ⟨fun z => ?_, fun z => ?_⟩
    · have hno : okS pe de ro jo fr g c ((chs ro.length).getD r (0, 0)) = false := by unfold okS; exact decide_eq_false z
      rw [dropC hrl, List.find?_cons, hno] at hf
      have hgo := goC_chs ro.length (by omega) r hrl
      refine goOn_s (ch := (chs ro.length).getD r (0, 0)) c0' c1' (fun S4 a0 a1 o4 => ?_)
      have g4 : ∀ j, j < 31 ∨ 55 < j → j ≠ 57 → S4 j = S0 j := fun j a b => (o4 j (by omega)).trans (g1 j a b)
      by_cases hlast : r + 1 < (chs ro.length).length
      · rw [if_pos hlast] at hgo
        rw [hgo] at a0 a1 ⊢
        refine ⟨fun _ x1 ex1 => ?_, fun y => absurd y (show ¬ (1 : Int32) = 0 by decide)⟩
        rw [ex1, nI_1]
        exact ih (r + 1) S4 (by omega) (by omega) g4 a0 a1 hf
      · rw [if_neg hlast] at hgo
        rw [hgo]
        refine ⟨fun y => absurd rfl y, fun _ => ?_⟩
        rw [List.drop_eq_nil_iff.mpr (by omega)] at hf
        have := h S4 g4
        rw [hf] at this
        exact this
    · have hyes : okS pe de ro jo fr g c ((chs ro.length).getD r (0, 0)) = true := by unfold okS; exact decide_eq_true z
      rw [dropC hrl, List.find?_cons, hyes] at hf
      have := h S3 g1
      rw [hf] at this
      exact tell_s (ch := (chs ro.length).getD r (0, 0)) c0' c1' this
theorem fewestRounds_s {S : zS} {P : Int32 → zS → zL → Prop} (hQ : cQ pe de ro jo fr se g c S L) {i : Int32} (h : ∀ S', cQ pe de ro jo fr se g c S' L → qF S S' → P (pTell ((chs ro.length).find? (okS pe de ro jo fr g c)) i) S' L) : zCi mX4_fewestRounds S L [.ref 56, .int i] P := by
  have hlen := hQ.len
  have hQ0 := hQ
  obtain ⟨hT, hW, hR, hA, hM, hB, hH, hWi, hV⟩ := hQ
  refine e_X4_fewestRounds (fun X => b_X4_fewestRounds_0 (begin1_s (fun S1 a0 a1 o1 => ?_)))
  have hT1 : zT S1 5 pe de ro jo fr g c := hT.out (fun j _ _ => o1 j (by omega))
  refine fs_l hT1 hW.1 hlen.2.2.1 (fun S' k1 => ?_) (chs ro.length).length 0 S1 (by omega) (chs_pos _) (fun _ _ _ => rfl) a0 a1 rfl
  have o : ∀ j, j < 31 ∨ 55 < j → j ≠ 57 → S' j = S j := fun j hj h2 => (k1 j hj h2).trans (o1 j (by omega))
  have hq : qF S S' := fun j hj => o j (by omega) (by omega)
  exact h S' (hQ0.keep hq (hA.keep (o _ (by omega) (by omega)) (o _ (by omega) (by omega)) (o _ (by omega) (by omega)) (o _ (by omega) (by omega))) (hM.keep (by rw [o 56 (by omega) (by omega)]) (o _ (by omega) (by omega))) (hB.keep (fun i _ _ => by rw [o 56 (by omega) (by omega)])) (hH.keep (fun i _ => by rw [o 56 (by omega) (by omega)])) (hWi.keep (o _ (by omega) (by omega)) (o _ (by omega) (by omega))) (hV.keep (by rw [o 65 (by omega) (by omega)]) (by rw [o 65 (by omega) (by omega)]) rfl rfl)) hq
end LGT
section AP
variable (pe de ro jo fr se : List T3) (g c : Int32)
def aPlan (pace w : Int32) : Int32 := if ((1 : Int32) ≤ pace ∧ pace ≤ (4 : Int32)) ∧ ((0 : Int32) ≤ w ∧ w ≤ (2 : Int32)) then (if w = 0 then nI ((pPk pe de ro jo fr g c pace).1 / 4) else if w = 1 then nI ((pPk pe de ro jo fr g c pace).1 % 4) else (pPk pe de ro jo fr g c pace).2) else -2
def aLight (p most i : Int32) : Int32 := if okN pe.length p ∧ ((0 : Int32) ≤ most ∧ most ≤ (99 : Int32)) ∧ ((-1 : Int32) ≤ i ∧ i ≤ (1 : Int32)) then pTell ((chs de.length).find? (okL pe de ro jo fr g c p.toNatClampNeg most)) i else -2
def aSpare (i : Int32) : Int32 := if ((-1 : Int32) ≤ i ∧ i ≤ (1 : Int32)) then pTell ((chs ro.length).find? (okS pe de ro jo fr g c)) i else -2
def aHome (p w : Int32) : Int32 := if okN pe.length p ∧ ((0 : Int32) ≤ w ∧ w ≤ (1 : Int32)) then (if w = 0 then nI (pHm pe de ro jo fr g c p.toNatClampNeg).1 else (pHm pe de ro jo fr g c p.toNatClampNeg).2) else -2
end AP
section QP
variable {pe de ro jo fr se : List T3} {g c : Int32} {S : zS} {L : zL} {P : Int32 → zS → zL → Prop}
theorem rng_1 {x : Int32} (h : (1 : Int32) ≤ x ∧ x ≤ (4 : Int32)) : ∃ j, 1 ≤ j ∧ j ≤ 4 ∧ x = nI j := by
  obtain ⟨j, hj, rfl⟩ := rng_lit (n := 4) rfl (by omega) ⟨Int32.le_trans (by decide) h.1, h.2⟩
  exact ⟨j, (nI_leI (a := 1) (by omega) (by omega)).mp h.1, hj, rfl⟩
theorem plan_c {pace w : Int32} (hQ : cQ pe de ro jo fr se g c S L) (h : ∀ S', cQ pe de ro jo fr se g c S' L → qF S S' → P (aPlan pe de ro jo fr g c pace w) S' L) : zCi mX10_plan S L [.ref 0, .int pace, .int w] P := by
  refine e_X10_plan (fun X => b_X10_plan_0 ⟨fun q1 => ⟨fun q2 => ?_, fun z => ?_⟩, fun z => ?_⟩)
  · rw [aPlan, if_pos ⟨q1, q2⟩] at h
    obtain ⟨pc, h1, h2, rfl⟩ := rng_1 q1
    refine findRound_s hQ h2 (fun S' hQ' hq k1 k2 k3 => ?_)
    rw [k1, k2, k3]
    refine ⟨fun z0 => ⟨fun z1 => ?_, fun z1 => ?_⟩, fun z0 => ?_⟩
    · rw [if_neg z0, if_neg z1] at h; exact h S' hQ' hq
    · rw [if_neg z0, if_pos z1] at h; exact h S' hQ' hq
    · rw [if_pos z0] at h; exact h S' hQ' hq
  · rw [aPlan, if_neg (fun y => z y.2)] at h; exact h S hQ qF.rf
  · rw [aPlan, if_neg (fun y => z y.1)] at h; exact h S hQ qF.rf
theorem light_c {p most i : Int32} (hQ : cQ pe de ro jo fr se g c S L) (h : ∀ S', cQ pe de ro jo fr se g c S' L → qF S S' → P (aLight pe de ro jo fr g c p most i) S' L) : zCi mX10_light S L [.ref 0, .int p, .int most, .int i] P := by
  have hl := hQ.len
  refine e_X10_light (fun X => b_X10_light_0 ?_)
  rw [hQ.1.1.1]
  refine ⟨fun q1 => ⟨fun q2 => ⟨fun q3 => ?_, fun z => ?_⟩, fun z => ?_⟩, fun z => ?_⟩
  · rw [aLight, if_pos ⟨q1, q2, q3⟩] at h
    obtain ⟨p, hp, rfl⟩ := rng_ix (by omega) q1
    rw [cl_nI (by omega)] at h
    exact fewestDeeds_s hQ hp h
  · rw [aLight, if_neg (fun y => z y.2.2)] at h; exact h S hQ qF.rf
  · rw [aLight, if_neg (fun y => z y.2.1)] at h; exact h S hQ qF.rf
  · rw [aLight, if_neg (fun y => z y.1)] at h; exact h S hQ qF.rf
theorem spare_c {i : Int32} (hQ : cQ pe de ro jo fr se g c S L) (h : ∀ S', cQ pe de ro jo fr se g c S' L → qF S S' → P (aSpare pe de ro jo fr g c i) S' L) : zCi mX10_spare S L [.ref 0, .int i] P := by
  refine e_X10_spare (fun X => b_X10_spare_0 ⟨fun q => ?_, fun z => ?_⟩)
  · rw [aSpare, if_pos q] at h; exact fewestRounds_s hQ h
  · rw [aSpare, if_neg z] at h; exact h S hQ qF.rf
theorem home_c {p w : Int32} (hQ : cQ pe de ro jo fr se g c S L) (h : ∀ S', cQ pe de ro jo fr se g c S' L → qF S S' → P (aHome pe de ro jo fr g c p w) S' L) : zCi mX10_home S L [.ref 0, .int p, .int w] P := by
  have hl := hQ.len
  refine e_X10_home (fun X => b_X10_home_0 ?_)
  rw [hQ.1.1.1]
  refine ⟨fun q1 => ⟨fun q2 => ?_, fun z => ?_⟩, fun z => ?_⟩
  · rw [aHome, if_pos ⟨q1, q2⟩] at h
    obtain ⟨p, hp, rfl⟩ := rng_ix (by omega) q1
    rw [cl_nI (by omega)] at h
    refine findHome_s hQ hp (fun S' hQ' hq k1 k2 => ?_)
    rw [k1, k2]
    refine ⟨fun z0 => ?_, fun z0 => ?_⟩
    · rw [if_neg z0] at h; exact h S' hQ' hq
    · rw [if_pos z0] at h; exact h S' hQ' hq
  · rw [aHome, if_neg (fun y => z y.2)] at h; exact h S hQ qF.rf
  · rw [aHome, if_neg (fun y => z y.1)] at h; exact h S hQ qF.rf
end QP
