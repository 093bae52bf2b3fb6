section MS
variable {pe de ro jo : List T3} {nd nr fb g c mo : Int32} {L : zL} {X : Nat × (Nat → Int32)} {P : zS → zL → Prop}
theorem sa_in (hn : pe.length ≤ 8 ∧ ro.length ≤ 9) {m : Nat} (hm : m < 24) (hmo : mo = nI m) {i q : Nat} {e : T3} (he : ro[i]? = some e) (hq : e.2.2 = nI q) (hq2 : q < 2000) : ∀ (n d : Nat) (S : zS) (s : pZ), d + n = q → mI S pe de ro jo nd nr fb g c → mZ S pe.length s → pOk pe.length s.1 → (∀ S', mZ S' pe.length (pIt (pRn pe c mo (pFr fb m) e.2.1) n s) → mF S S' → zU mX11_shearsAll X S' L 2 [some (.ref 72), some (.int mo), some (.int (nI (i + 1))), none, none] [] (zpv P)) → zU mX11_shearsAll X S L 33 [some (.ref 72), some (.int mo), some (.int (nI i)), some (.int (nI d)), none] [] (zpv P) := by
  have hi : i < ro.length := (List.getElem?_eq_some_iff.mp he).1
  intro n
  induction n with
  | zero =>
    intro d S s hd hI hZ hO K
    refine b_X11_shearsAll_33 (np := pe.length) ?_
    rw [cl_nI (n := i) (by omega), (hI.2.2.1.1 i e he).2.2, hq]
    refine ⟨vp_in_nI (by omega) (by omega), fun _ x1 e1 => ?_, fun z => absurd (nI_le (by omega) (by omega)) z⟩
    rw [e1, nI_1]
    exact K S hZ mF.rf
  | succ n ih =>
    intro d S s hd hI hZ hO K
    refine b_X11_shearsAll_33 (np := pe.length) ?_
    rw [cl_nI (n := i) (by omega), (hI.2.2.1.1 i e he).2.2, (hI.2.2.1.1 i e he).2.1, hq]
    have hnx : mNx pe.length (S 88) (S 89) (S 92) e.2.1 = pWo pe.length s.1 s.2.1 e.2.1 := mNx_pWo hn.1 (fun p hp => (hZ.1 p hp).1) (fun p hp => (hZ.1 p hp).2.1) (fun p hp => (hZ.1 p hp).2.2.2.2)
    rw [hnx]
    refine ⟨vp_in_nI (by omega) (by omega), fun z => absurd z (nI_ge (by omega) (by omega)), fun _ => ⟨vp_in_nI (by omega) (by omega), ⟨hI.1.2, hn.1⟩, fun y1 ey1 => ⟨fun z x1 e1 => ?_, fun z => ?_⟩⟩⟩
    · rw [e1, nI_1]
      have fx : pRn pe c mo (pFr fb m) e.2.1 s = s := by rw [pRn, if_pos (by rw [← ey1]; exact z)]
      exact ih (d + 1) S s (by omega) hI hZ hO (fun S' hZ' hF' => K S' (by rw [pIt, fx]; exact hZ') hF')
    · rcases pWo_ix (np := pe.length) (N := s.1) (D := s.2.1) (cty := e.2.1) with h1 | ⟨w, hw, h1, -, h3⟩
      · exact absurd (ey1.trans h1) z
      · rw [ey1, h1]
        refine shears_s hn.1 hI hZ hm hmo hw h3 hO (fun S1 hZ1 hF1 x1 e1 => ?_)
        rw [e1, nI_1]
        have fx : pRn pe c mo (pFr fb m) e.2.1 s = pSh pe c mo (pFr fb m) s w := by
          rw [pRn, if_neg (by rw [← ey1]; exact z), h1, cl_nI (by omega)]
        exact ih (d + 1) S1 _ (by omega) (hI.keep hF1) hZ1 (pOk_shN hn.1 hw hO) (fun S' hZ' hF' => K S' (by rw [pIt, fx]; exact hZ') (hF1.trans hF'))
theorem sa_l (hn : pe.length ≤ 8 ∧ ro.length ≤ 9) {m : Nat} (hm : m < 24) (hmo : mo = nI m) (hpace : ∀ e ∈ ro, ∃ q, q < 2000 ∧ e.2.2 = nI q) : ∀ (rest : List T3) (i : Nat) (S : zS) (s : pZ), ro.drop i = rest → i ≤ ro.length → mI S pe de ro jo nd nr fb g c → mZ S pe.length s → pOk pe.length s.1 → (∀ S', mZ S' pe.length ((pFl nr i rest).foldl (pRd pe c mo (pFr fb m)) s) → mF S S' → P S' L) → zU mX11_shearsAll X S L 2 [some (.ref 72), some (.int mo), some (.int (nI i)), none, none] [] (zpv P) := by
  intro rest
  induction rest with
  | nil =>
    intro i S s hd hi hI hZ hO h
    have hl : ro.length ≤ i := List.drop_eq_nil_iff.mp hd
    refine b_X11_shearsAll_2 (np := pe.length) ⟨fun _ => h S hZ mF.rf, fun q => absurd ?_ q⟩
    rw [hI.2.2.1.2]; exact nI_le hl (by omega)
  | cons e rest ih =>
    intro i S s hd hi hI hZ hO h
    obtain ⟨hl, he, hd2⟩ := drop_cons hd
    obtain ⟨d1, d2, d3⟩ := hI.2.2.1.1 i e he
    obtain ⟨q, hq, hqe⟩ := hpace e (List.mem_of_getElem? he)
    have skip : (pFl nr i (e :: rest)).foldl (pRd pe c mo (pFr fb m)) s = (pFl nr (i + 1) rest).foldl (pRd pe c mo (pFr fb m)) s → ∀ x1, x1 = nI i + 1 → zU mX11_shearsAll X S L 2 [some (.ref 72), some (.int mo), some (.int x1), none, none] [] (zpv P) := by
      intro hsk x1 e1
      rw [e1, nI_1]
      rw [hsk] at h
      exact ih (i + 1) S s hd2 (by omega) hI hZ hO h
    have cons : bt nr i = false → (pFl nr i (e :: rest)).foldl (pRd pe c mo (pFr fb m)) s = (pFl nr (i + 1) rest).foldl (pRd pe c mo (pFr fb m)) (pRd pe c mo (pFr fb m) s e) := by
      intro hbt
      rw [pFl, if_neg (by rw [hbt]; decide), List.foldl_cons]
    refine b_X11_shearsAll_2 (np := pe.length) ⟨fun z => absurd z ?_, fun _ => ?_⟩
    · rw [hI.2.2.1.2]; exact nI_ge hl (by omega)
    rw [cl_nI (n := i) (by omega), d1, hI.2.2.2.2.2.1]
    refine ⟨vp_in_nI (by omega) (by omega), fun z => skip ?_, fun z => ⟨fun z2 => skip ?_, fun z2 => ?_⟩⟩
    · cases hbt : bt nr i with
      | false => rw [cons hbt, pRd, if_neg z]
      | true => rw [pFl, if_pos hbt]
    · rw [pFl, if_pos ((b_low1 (by omega)).mp z2)]
    · have hbt : bt nr i = false := by
        cases hbt : bt nr i with
        | false => rfl
        | true => exact absurd ((b_low1 (by omega)).mpr hbt) z2
      rw [cons hbt, pRd, if_pos z, hqe, cl_nI (by omega)] at h
      refine sa_in hn hm hmo he hqe hq q 0 S s (by omega) hI hZ hO (fun S' hZ' hF' => ?_)
      refine ih (i + 1) S' _ hd2 (by omega) (hI.keep hF') hZ' ?_ (fun S2 hZ2 hF2 => h S2 hZ2 (hF'.trans hF2))
      exact pIt_inv (I := fun s : pZ => pOk pe.length s.1) (fun s hs => pOk_rn hn.1 hs) _ _ hO
theorem shearsAll_s (hn : pe.length ≤ 8 ∧ ro.length ≤ 9) {m : Nat} (hm : m < 24) (hmo : mo = nI m) (hpace : ∀ e ∈ ro, ∃ q, q < 2000 ∧ e.2.2 = nI q) {S : zS} {s : pZ} (hI : mI S pe de ro jo nd nr fb g c) (hZ : mZ S pe.length s) (hO : pOk pe.length s.1) (h : ∀ S', mZ S' pe.length ((pFl nr 0 ro).foldl (pRd pe c mo (pFr fb m)) s) → mF S S' → P S' L) : zCv mX11_shearsAll S L [.ref 72, .int mo] P :=
  e_X11_shearsAll (fun X => b_X11_shearsAll_0 (np := 0) (sa_l hn hm hmo hpace ro 0 S s rfl (Nat.zero_le _) hI hZ hO h))
/-! what is kept behind a month -/
def pTx1 (np : Nat) (s : pZ) (a : Int32) (p : Nat) : Int32 := a + (if pLv np s.2.1 (nI p) then s.1 p else 0)
def pTx (np : Nat) (s : pZ) : Int32 := (List.range np).foldl (pTx1 np s) 0
def pHv (np : Nat) (s : pZ) : Int32 := mHv np s.1 s.2.1
def mRw1 (S : zS) (np : Nat) (s : pZ) (m : Nat) : Prop :=
  (∀ p, p < np → S 95 (8 * m + p) = s.1 p ∧ S 96 (8 * m + p) = s.1 (8 + p) ∧ S 97 (8 * m + p) = s.1 (16 + p)) ∧ (∀ q, q < 4 → S 100 (4 * m + q) = s.1 (24 + q) ∧ S 101 (4 * m + q) = s.1 (28 + q)) ∧ S 98 m = s.1 32 ∧ S 99 m = pHv np s ∧ (m = 11 → S 102 0 = pTx np s) ∧ (m = 23 → S 102 1 = pTx np s)
def mRw (S : zS) (np : Nat) (Z : Nat → pZ) (n : Nat) : Prop := ∀ m, m < n → mRw1 S np (Z m) m
/-- what a whole run leaves -/
def mG (S S' : zS) : Prop := (∀ j, j ≠ 72 → (j < 88 ∨ 102 < j) → S' j = S j) ∧ (∀ i, (i < 30 ∨ 33 < i) → S' 72 i = S 72 i)
theorem mG.rf {S : zS} : mG S S := ⟨fun _ _ _ => rfl, fun _ _ => rfl⟩
theorem mG.trans {S S' S'' : zS} (h1 : mG S S') (h2 : mG S' S'') : mG S S'' := ⟨fun j a b => (h2.1 j a b).trans (h1.1 j a b), fun i a => (h2.2 i a).trans (h1.2 i a)⟩
theorem mF.toG {S S' : zS} (h : mF S S') : mG S S' := ⟨fun j a b => h.1 j a (by omega), h.2⟩
theorem mG.cel {S : zS} {k : Nat} {f : pF} (h : 88 ≤ k ∧ k ≤ 102) : mG S (zc S k f) := ⟨fun j _ b => zc_ne _ _ (by omega), fun i _ => by rw [zc_ne _ _ (by omega)]⟩
theorem mI.keepG {S S' : zS} (h : mI S pe de ro jo nd nr fb g c) (hF : mG S S') : mI S' pe de ro jo nd nr fb g c := by
  obtain ⟨⟨a1, a2⟩, ⟨b1, b2⟩, ⟨c1, c2⟩, ⟨d1, d2⟩, e1, e2, e3, e4, e5⟩ := h
  have o : ∀ j, j ≠ 72 → j < 88 → S' j = S j := fun j x y => hF.1 j x (Or.inl y)
  have f : ∀ i, i < 30 → S' 72 i = S 72 i := fun i hi => hF.2 i (Or.inl hi)
  exact ⟨⟨a1.keep (o _ (by omega) (by omega)) (o _ (by omega) (by omega)) (o _ (by omega) (by omega)), by rw [f _ (by omega)]; exact a2⟩, ⟨b1.keep (o _ (by omega) (by omega)) (o _ (by omega) (by omega)) (o _ (by omega) (by omega)), by rw [f _ (by omega)]; exact b2⟩, ⟨c1.keep (o _ (by omega) (by omega)) (o _ (by omega) (by omega)) (o _ (by omega) (by omega)), by rw [f _ (by omega)]; exact c2⟩, ⟨d1.keep (o _ (by omega) (by omega)) (o _ (by omega) (by omega)) (o _ (by omega) (by omega)), by rw [f _ (by omega)]; exact d2⟩, by rw [f _ (by omega)]; exact e1, by rw [f _ (by omega)]; exact e2, by rw [f _ (by omega)]; exact e3, by rw [f _ (by omega)]; exact e4, by rw [f _ (by omega)]; exact e5⟩
/-- the rows of other months, and what stands now, as they were -/
def mH (S S' : zS) (m : Nat) : Prop := (∀ j, (j < 95 ∨ 102 < j) → S' j = S j) ∧ (∀ i, (i < 8 * m ∨ 8 * m + 8 ≤ i) → S' 95 i = S 95 i ∧ S' 96 i = S 96 i ∧ S' 97 i = S 97 i) ∧ (∀ i, (i < 4 * m ∨ 4 * m + 4 ≤ i) → S' 100 i = S 100 i ∧ S' 101 i = S 101 i) ∧ (∀ i, i ≠ m → S' 98 i = S 98 i ∧ S' 99 i = S 99 i) ∧ (m ≠ 11 → S' 102 0 = S 102 0) ∧ (m ≠ 23 → S' 102 1 = S 102 1)
theorem mH.toG {S S' : zS} {m : Nat} (h : mH S S' m) : mG S S' := ⟨fun j _ b => h.1 j (by omega), fun i _ => by rw [h.1 72 (by omega)]⟩
theorem mHv_congr {np : Nat} {H D H' D' : pF} (hn : np ≤ 8) (h1 : ∀ p, p < np → H p = H' p) (h2 : ∀ p, p < np → D p = D' p) : mHv np H D = mHv np H' D' := by
  have key : ∀ d i (b : Int32), i + d = np → (b = -1 ∨ ∃ q, q < np ∧ b = nI q) → (List.range' i d).foldl (mHv1 np H D) b = (List.range' i d).foldl (mHv1 np H' D') b := by
    intro d
    induction d with
    | zero => intro i b _ _; rw [List.range'_zero, List.foldl_nil, List.foldl_nil]
    | succ d ih =>
      intro i b hd hb
      rw [List.range'_succ, List.foldl_cons, List.foldl_cons]
      have hi : i < np := by omega
      have hlv : pLv np D (nI i) ↔ pLv np D' (nI i) := pLv_iff (by omega) h2
      have hcm : (b = -1 ∨ ¬ H i ≤ H b.toNatClampNeg) ↔ (b = -1 ∨ ¬ H' i ≤ H' b.toNatClampNeg) := by
        rcases hb with hb | ⟨q, hq, hbq⟩
        · exact ⟨fun _ => Or.inl hb, fun _ => Or.inl hb⟩
        · have e1 : b.toNatClampNeg = q := by rw [hbq]; exact cl_nI (by omega)
          rw [e1, h1 q hq, h1 i hi]
      have hc : (pLv np D (nI i) ∧ (b = -1 ∨ ¬ H i ≤ H b.toNatClampNeg)) ↔ (pLv np D' (nI i) ∧ (b = -1 ∨ ¬ H' i ≤ H' b.toNatClampNeg)) := ⟨fun z => ⟨hlv.mp z.1, hcm.mp z.2⟩, fun z => ⟨hlv.mpr z.1, hcm.mpr z.2⟩⟩
      by_cases hz : pLv np D (nI i) ∧ (b = -1 ∨ ¬ H i ≤ H b.toNatClampNeg)
      · have e1 : mHv1 np H D b i = nI i := by rw [mHv1, if_pos hz]
        have e2 : mHv1 np H' D' b i = nI i := by rw [mHv1, if_pos (hc.mp hz)]
        rw [e1, e2]
        exact ih (i + 1) _ (by omega) (Or.inr ⟨i, hi, rfl⟩)
      · have e1 : mHv1 np H D b i = b := by rw [mHv1, if_neg hz]
        have e2 : mHv1 np H' D' b i = b := by rw [mHv1, if_neg (fun w => hz (hc.mpr w))]
        rw [e1, e2]
        exact ih (i + 1) _ (by omega) hb
  rw [mHv, mHv, List.range_eq_range']
  exact key np 0 (-1) (by omega) (Or.inl rfl)
theorem mZ.keepH {S S' : zS} {np m : Nat} {s : pZ} (h : mZ S np s) (hH : mH S S' m) : mZ S' np s := by
  obtain ⟨h1, h2, h3, h4, h5⟩ := h
  have o : ∀ j, j < 95 → S' j = S j := fun j hj => hH.1 j (Or.inl hj)
  refine ⟨fun p hp => ?_, fun q hq => ?_, ?_, ?_, ?_⟩
  · rw [o 88 (by omega), o 89 (by omega), o 90 (by omega), o 91 (by omega), o 92 (by omega)]; exact h1 p hp
  · rw [o 93 (by omega), o 94 (by omega)]; exact h2 q hq
  · rw [o 72 (by omega)]; exact h3
  · rw [o 72 (by omega)]; exact h4
  · rw [o 72 (by omega)]; exact h5
end MS
