/-! WHAT A COURSE TELLS BEHIND A RUN -/
section CR
variable {k t : Nat} {pe de ro jo fs : List T3} {g c : Int32} {L : zL} {S : zS}
/-- the Course at k has run n months -/
def cRun (S : zS) (k : Nat) (pe de ro jo fs : List T3) (g c : Int32) (n : Nat) : Prop := S (k + 3) = (pCf pe de ro jo fs g c n).2.1 ∧ S k 4 = (pCf pe de ro jo fs g c n).2.2.1 ∧ S k 5 = (pCf pe de ro jo fs g c n).2.2.2 ∧ ∀ m j, m < n → j < 41 → S (k + 2) (41 * m + j) = (pCf pe de ro jo fs g c (m + 1)).1 j
theorem cRun_of {n : Nat} : cRun (zRun S k pe de ro jo fs g c n) k pe de ro jo fs g c n := by
  refine ⟨zMm_3, zMm_fm, zMm_fw, fun m j hm hj => ?_⟩
  unfold zRun
  rw [zMm_2]
  simp only [pRr, pRw]
  rw [if_pos (by omega), show (41 * m + j) / 41 = m by omega, show (41 * m + j) % 41 = j by omega]
theorem cRun.keep {S' : zS} {n : Nat} (h : cRun S k pe de ro jo fs g c n) (h0 : S' k = S k) (h2 : S' (k + 2) = S (k + 2)) (h3 : S' (k + 3) = S (k + 3)) : cRun S' k pe de ro jo fs g c n := by
  unfold cRun; rw [h0, h2, h3]; exact h
theorem zRun_out {n : Nat} : zOut k (k + 3) S (zRun S k pe de ro jo fs g c n) := fun j hj => zMm_o hj
theorem behind_s {n m j : Nat} (hC : zCo k t) (hR : cRun S k pe de ro jo fs g c n) (hn : n ≤ 24) (hm : m < n) (hj : j < 41) {P : Int32 → zS → zL → Prop} (h : P ((pCf pe de ro jo fs g c (m + 1)).1 j) S L) : zCi mX2_behind S L [.ref k, .int (nI m), .int (nI j)] P := by
  refine e_X2_behind (fun X => b_X2_behind_0 hC ?_)
  have e : nI m * (41 : Int32) + nI j = nI (41 * m + j) := by rw [show (41 : Int32) = nI 41 by decide, pk_mul, nI_add, Nat.mul_comm]
  refine ⟨fun q => absurd q (nI_pos (by omega)), fun _ => ⟨fun q => absurd q (nI_ge (b := 24) (by omega) (by omega)), fun _ => ⟨fun q => absurd q (nI_pos (by omega)), fun _ => ⟨fun _ => ?_, fun q => absurd (nI_lt (b := 41) (by omega) (by omega)) q⟩⟩⟩⟩
  rw [e, cl_nI (by omega), hR.2.2.2 m j hm hj]
  exact ⟨vp_in_nI (by omega) (by omega), h⟩
theorem deathOf_s {n p : Nat} (hC : zCo k t) (hR : cRun S k pe de ro jo fs g c n) (hp : p < 8) {P : Int32 → zS → zL → Prop} (h : P ((pCf pe de ro jo fs g c n).2.1 p) S L) : zCi mX2_deathOf S L [.ref k, .int (nI p)] P := by
  refine e_X2_deathOf (fun X => b_X2_deathOf_0 hC ?_)
  rw [cl_nI (by omega), hR.1]
  exact ⟨fun q => absurd q (nI_pos (by omega)), fun _ => ⟨fun q => absurd q (nI_ge (b := 8) (by omega) (by omega)), fun _ => ⟨vp_in_nI hp (by omega), h⟩⟩⟩
theorem livesBehind_s {m p : Nat} (hC : zCo k t) (hn : pe.length ≤ 8) (hR : cRun S k pe de ro jo fs g c 24) (hm : m < 24) (hp : p < 8) {P : Int32 → zS → zL → Prop} (h : P (if (pCf pe de ro jo fs g c (m + 1)).2.1 p = -1 then 1 else 0) S L) : zCi mX2_livesBehind S L [.ref k, .int (nI m), .int (nI p)] P := by
  refine e_X2_livesBehind (fun X => b_X2_livesBehind_0 hC ?_)
  rw [cl_nI (by omega), hR.1]
  have hd := pD_24 (pe := pe) (de := de) (ro := ro) (jo := jo) (fb := pMk fs 0) (g := g) (c := c) hn (m := m) (p := p) (23 - m) (by omega)
  rw [show m + 1 + (23 - m) = 24 by omega] at hd
  refine ⟨vp_in_nI hp (by omega), fun q => ?_, fun q => ⟨vp_in_nI hp (by omega), fun q2 => ?_, fun q2 => ?_⟩⟩
  · rw [if_pos (hd.mpr (Or.inl q))] at h; exact h
  · rw [if_neg (fun z => ?_)] at h
    · exact h
    · rcases hd.mp z with y | y
      · exact q y
      · exact i32_nle y q2
  · rw [if_pos (hd.mpr (Or.inr (i32_lt q2)))] at h; exact h
/-- how many live -/
def pLg1 (D : pF) (a : Int32) (p : Nat) : Int32 := a + (if D p = -1 then 1 else 0)
def pLg (np : Nat) (D : pF) : Int32 := (List.range np).foldl (pLg1 D) 0
theorem living_l {np : Nat} (hC : zCo k t) (hn : np ≤ 8) (hp : S (t + 1) 3 = nI np) {X : Nat × (Nat → Int32)} {P : Int32 → zS → zL → Prop} : ∀ (d i : Nat) (a : Int32), i + d = np → P ((List.range' i d).foldl (pLg1 (S (k + 3))) a) S L → zU mX2_living X S L 4 [some (.ref k), some (.int a), some (.int (nI i))] [] (zpi P) := by
  intro d
  induction d with
  | zero =>
    intro i a hd h
    refine b_X2_living_4 hC ⟨fun _ => h, fun q => absurd ?_ q⟩
    rw [hp]; exact nI_le (by omega) (by omega)
  | succ d ih =>
    intro i a hd h
    rw [List.range'_succ, List.foldl_cons] at h
    refine b_X2_living_4 hC ⟨fun q => absurd q ?_, fun _ => ?_⟩
    · rw [hp]; exact nI_ge (by omega) (by omega)
    rw [cl_nI (n := i) (by omega)]
    refine ⟨vp_in_nI (by omega) (by omega), fun z x1 e1 x2 e2 => ?_, fun z x1 e1 x2 e2 => ?_⟩
    · rw [pLg1, if_neg z] at h
      rw [e2, nI_1, e1]; exact ih (i + 1) _ (by omega) h
    · rw [pLg1, if_pos z] at h
      rw [e2, nI_1, e1]; exact ih (i + 1) _ (by omega) h
theorem living_s {np : Nat} (hC : zCo k t) (hn : np ≤ 8) (hp : S (t + 1) 3 = nI np) {P : Int32 → zS → zL → Prop} (h : P (pLg np (S (k + 3))) S L) : zCi mX2_living S L [.ref k] P := by
  refine e_X2_living (fun X => b_X2_living_0 hC (living_l hC hn hp np 0 0 (by omega) ?_))
  rw [← List.range_eq_range']; exact h
theorem pLv_nI {np p : Nat} {D : pF} (hn : np ≤ 8) (hp : p < np) : pLv np D (nI p) ↔ D p = -1 := by
  unfold pLv
  rw [cl_nI (by omega)]
  exact ⟨fun z => z.2.2, fun z => ⟨nI_pos (by omega), nI_lt hp (by omega), z⟩⟩
theorem tax_l {m : Nat} (hC : zCo k t) (hn : pe.length ≤ 8) (hp : S (t + 1) 3 = nI pe.length) (hR : cRun S k pe de ro jo fs g c 24) (hm : m < 24) {X : Nat × (Nat → Int32)} {P : Int32 → zS → zL → Prop} : ∀ (d i : Nat) (a : Int32), i + d = pe.length → P ((List.range' i d).foldl (pTx1 pe.length (pCf pe de ro jo fs g c (m + 1))) a) S L → zU mX2_taxBehind X S L 4 [some (.ref k), some (.int (nI m)), some (.int a), some (.int (nI i))] [] (zpi P) := by
  intro d
  induction d with
  | zero =>
    intro i a hd h
    refine b_X2_taxBehind_4 hC ⟨fun _ => h, fun q => absurd ?_ q⟩
    rw [hp]; exact nI_le (by omega) (by omega)
  | succ d ih =>
    intro i a hd h
    rw [List.range'_succ, List.foldl_cons] at h
    refine b_X2_taxBehind_4 hC ⟨fun q => absurd q ?_, fun _ => ?_⟩
    · rw [hp]; exact nI_ge (by omega) (by omega)
    refine livesBehind_s hC hn hR hm (by omega) ?_
    have hl := pLv_nI (D := (pCf pe de ro jo fs g c (m + 1)).2.1) hn (show i < pe.length by omega)
    refine ⟨fun z x1 e1 x2 e2 => ?_, fun z => ?_⟩
    · have hz : ¬ (pCf pe de ro jo fs g c (m + 1)).2.1 i = -1 := fun y => by rw [if_pos y] at z; exact absurd z (by decide)
      rw [pTx1, if_neg (fun y => hz (hl.mp y))] at h
      rw [e2, nI_1, e1]; exact ih (i + 1) _ (by omega) h
    · have hz : (pCf pe de ro jo fs g c (m + 1)).2.1 i = -1 := by
        rcases Decidable.em ((pCf pe de ro jo fs g c (m + 1)).2.1 i = -1) with y | y
        · exact y
        · rw [if_neg y] at z; exact absurd rfl z
      rw [of0]
      refine behind_s hC hR (Nat.le_refl _) hm (by omega) (fun x1 e1 x2 e2 => ?_)
      rw [pTx1, if_pos (hl.mpr hz)] at h
      rw [e2, nI_1, e1]; exact ih (i + 1) _ (by omega) h
theorem tax_s {m : Nat} (hC : zCo k t) (hn : pe.length ≤ 8) (hp : S (t + 1) 3 = nI pe.length) (hR : cRun S k pe de ro jo fs g c 24) (hm : m < 24) {P : Int32 → zS → zL → Prop} (h : P (pTx pe.length (pCf pe de ro jo fs g c (m + 1))) S L) : zCi mX2_taxBehind S L [.ref k, .int (nI m)] P := by
  refine e_X2_taxBehind (fun X => b_X2_taxBehind_0 hC (tax_l hC hn hp hR hm pe.length 0 0 (by omega) ?_))
  rw [← List.range_eq_range']; exact h
theorem n1_lt {x : Int32} (h : 0 ≤ x.toInt) : (-1 : Int32) < x := by
  rw [Int32.lt_iff_toInt_lt]
  have : (-1 : Int32).toInt = -1 := by decide
  omega
theorem heavyB_l {m : Nat} (hC : zCo k t) (hn : pe.length ≤ 8) (hp : S (t + 1) 3 = nI pe.length) (hR : cRun S k pe de ro jo fs g c 24) (hm : m < 24) (hB : ∀ p, p < pe.length → 0 ≤ ((pCf pe de ro jo fs g c (m + 1)).1 p).toInt) {X : Nat × (Nat → Int32)} {P : Int32 → zS → zL → Prop} : ∀ (d i : Nat) (b a : Int32), i + d = pe.length → (b = -1 ∧ a = -1 ∨ ∃ q, q < pe.length ∧ b = nI q ∧ a = (pCf pe de ro jo fs g c (m + 1)).1 q) → P ((List.range' i d).foldl (mHv1 pe.length (pCf pe de ro jo fs g c (m + 1)).1 (pCf pe de ro jo fs g c (m + 1)).2.1) b) S L → zU mX2_heaviestBehind X S L 7 [some (.ref k), some (.int (nI m)), some (.int b), some (.int a), some (.int (nI i))] [] (zpi P) := by
  intro d
  induction d with
  | zero =>
    intro i b a hd hb h
    refine b_X2_heaviestBehind_7 hC ⟨fun _ => h, fun q => absurd ?_ q⟩
    rw [hp]; exact nI_le (by omega) (by omega)
  | succ d ih =>
    intro i b a hd hb h
    have hi : i < pe.length := by omega
    rw [List.range'_succ, List.foldl_cons] at h
    refine b_X2_heaviestBehind_7 hC ⟨fun q => absurd q ?_, fun _ => ?_⟩
    · rw [hp]; exact nI_ge (by omega) (by omega)
    refine livesBehind_s hC hn hR hm (by omega) ?_
    have hl := pLv_nI (D := (pCf pe de ro jo fs g c (m + 1)).2.1) hn hi
    have cond : a < (pCf pe de ro jo fs g c (m + 1)).1 i ↔ (b = -1 ∨ ¬ (pCf pe de ro jo fs g c (m + 1)).1 i ≤ (pCf pe de ro jo fs g c (m + 1)).1 b.toNatClampNeg) := by
      rcases hb with ⟨h1, h2⟩ | ⟨q, hq, h1, h2⟩
      · rw [h1, h2]
        exact ⟨fun _ => Or.inl rfl, fun _ => n1_lt (hB i hi)⟩
      · rw [h1, h2, cl_nI (by omega)]
        constructor
        · intro z; exact Or.inr (i32_nle z)
        · rintro (z | z)
          · exact absurd z (nI_n1 (by omega))
          · exact i32_lt z
    refine ⟨fun z x1 e1 => ?_, fun z => ?_⟩
    · have hz : ¬ (pCf pe de ro jo fs g c (m + 1)).2.1 i = -1 := fun y => by rw [if_pos y] at z; exact absurd z (by decide)
      rw [mHv1, if_neg (fun y => hz (hl.mp y.1))] at h
      rw [e1, nI_1]; exact ih (i + 1) _ _ (by omega) hb h
    · have hz : (pCf pe de ro jo fs g c (m + 1)).2.1 i = -1 := by
        rcases Decidable.em ((pCf pe de ro jo fs g c (m + 1)).2.1 i = -1) with y | y
        · exact y
        · rw [if_neg y] at z; exact absurd rfl z
      rw [of0]
      refine behind_s hC hR (Nat.le_refl _) hm (by omega) ⟨fun z2 x1 e1 => ?_, fun z2 => behind_s hC hR (Nat.le_refl _) hm (by omega) (fun x1 e1 => ?_)⟩
      · rw [mHv1, if_neg (fun y => i32_nle (cond.mpr y.2) z2)] at h
        rw [e1, nI_1]; exact ih (i + 1) _ _ (by omega) hb h
      · rw [mHv1, if_pos ⟨hl.mpr hz, cond.mp (i32_lt z2)⟩] at h
        rw [e1, nI_1]; exact ih (i + 1) _ _ (by omega) (Or.inr ⟨i, hi, rfl, rfl⟩) h
theorem heavyB_s {m : Nat} (hC : zCo k t) (hW : xW pe de ro jo fs) (hp : S (t + 1) 3 = nI pe.length) (hR : cRun S k pe de ro jo fs g c 24) (hm : m < 24) {P : Int32 → zS → zL → Prop} (h : P (pHv pe.length (pCf pe de ro jo fs g c (m + 1))) S L) : zCi mX2_heaviestBehind S L [.ref k, .int (nI m)] P := by
  have hn := hW.1.1.1
  refine e_X2_heaviestBehind (fun X => b_X2_heaviestBehind_0 hC (heavyB_l hC hn hp hR hm ?_ pe.length 0 _ _ (by omega) (Or.inl ⟨rfl, rfl⟩) ?_))
  · intro p hp2
    exact ((pBd_C (fb := pMk fs 0) (g := g) (c := c) hW (m + 1) (by omega)).2.1 p hp2).1
  · rw [← List.range_eq_range']; exact h
def pWr1 (N : pF) (a : Int32) (q : Nat) : Int32 := a + N (28 + q)
/-- what all cloth is worth -/
def pWr (N : pF) : Int32 := (List.range 4).foldl (pWr1 N) 0
theorem worthAll_l (hC : zCo k t) (hR : cRun S k pe de ro jo fs g c 24) {X : Nat × (Nat → Int32)} {P : Int32 → zS → zL → Prop} : ∀ (d i : Nat) (a : Int32), i + d = 4 → P ((List.range' i d).foldl (pWr1 (pCf pe de ro jo fs g c 24).1) a) S L → zU mX2_worthInAll X S L 4 [some (.ref k), some (.int a), some (.int (nI i))] [] (zpi P) := by
  intro d
  induction d with
  | zero =>
    intro i a hd h
    refine b_X2_worthInAll_4 hC ⟨fun _ => h, fun q => absurd ?_ q⟩
    exact nI_le (a := 4) (by omega) (by omega)
  | succ d ih =>
    intro i a hd h
    rw [List.range'_succ, List.foldl_cons] at h
    refine b_X2_worthInAll_4 hC ⟨fun q => absurd q (nI_ge (b := 4) (by omega) (by omega)), fun _ => ?_⟩
    rw [of28]
    refine behind_s (m := 23) hC hR (Nat.le_refl _) (by omega) (by omega) (fun x1 e1 x2 e2 => ?_)
    rw [e2, nI_1, e1]; exact ih (i + 1) _ (by omega) h
theorem worthAll_s (hC : zCo k t) (hR : cRun S k pe de ro jo fs g c 24) {P : Int32 → zS → zL → Prop} (h : P (pWr (pCf pe de ro jo fs g c 24).1) S L) : zCi mX2_worthInAll S L [.ref k] P := by
  refine e_X2_worthInAll (fun X => b_X2_worthInAll_0 hC (worthAll_l hC hR 4 0 0 (by omega) ?_))
  rw [← List.range_eq_range']; exact h
/-- as it was told: the copy holds what is told -/
theorem afresh_s (hW : pe.length ≤ 8 ∧ de.length ≤ 10 ∧ ro.length ≤ 9 ∧ jo.length ≤ 8 ∧ fs.length ≤ 8) (hT : zT S 5 pe de ro jo fs g c) {P : zS → zL → Prop} (h : ∀ S', zT S' 31 pe de ro jo fs g c → zOut 31 51 S S' → P S' L) : zCv mX3_afresh S L [.ref 30] P := by
  obtain ⟨l1, l2, l3, l4, l5⟩ := hW
  obtain ⟨h1, h2, h3, h4, h5, h6, h7⟩ := hT
  refine e_X3_afresh (fun X => b_X3_afresh_0 (e_X8_become (fun X => b_X8_become_0 ?_)))
  refine rows_become zTo31.2.1 zTo5.2.1 (by omega) h1 ⟨by omega, by omega, by omega⟩ (fun S1 r1 o1 => ?_)
  refine rows_become zTo31.2.2.1 zTo5.2.2.1 (by omega) (h2.out o1 (by omega)) ⟨by omega, by omega, by omega⟩ (fun S2 r2 o2 => ?_)
  have o2' := (o1.mono (c := 31) (d := 51) (by omega) (by omega)).trans (o2.mono (by omega) (by omega))
  refine rows_become zTo31.2.2.2.1 zTo5.2.2.2.1 (by omega) (h3.out o2' (by omega)) ⟨by omega, by omega, by omega⟩ (fun S3 r3 o3 => ?_)
  have o3' := o2'.trans (o3.mono (by omega) (by omega))
  refine rows_become zTo31.2.2.2.2.1 zTo5.2.2.2.2.1 (by omega) (h4.out o3' (by omega)) ⟨by omega, by omega, by omega⟩ (fun S4 r4 o4 => ?_)
  have o4' := o3'.trans (o4.mono (by omega) (by omega))
  refine rows_become zTo31.2.2.2.2.2 zTo5.2.2.2.2.2 (by omega) (h5.out o4' (by omega)) ⟨by omega, by omega, by omega⟩ (fun S5 r5 o5 => ?_)
  have o5' := o4'.trans (o5.mono (by omega) (by omega))
  intro S6 e6 S7 e7
  have o67 : zOut 31 31 S5 S7 := by
    intro j hj
    rw [e7, zc_ne _ _ (by omega), e6, zc_ne _ _ (by omega)]
  have h7a : S7 31 = upd (upd (S5 31) 5 g) 6 c := by
    have a5 : S5 5 5 = g := by rw [o5' 5 (by omega)]; exact h6
    have a6 : S6 5 6 = c := by rw [e6, zc_ne _ _ (by omega), o5' 5 (by omega)]; exact h7
    rw [e7, zc_eq, a6, e6, zc_eq, a5]
  refine h S7 ⟨?_, ?_, ?_, ?_, ?_, ?_, ?_⟩ (o5'.trans (o67.mono (by omega) (by omega)))
  · exact ((((r1.out o2 (by omega)).out o3 (by omega)).out o4 (by omega)).out o5 (by omega)).out o67 (by omega)
  · exact (((r2.out o3 (by omega)).out o4 (by omega)).out o5 (by omega)).out o67 (by omega)
  · exact ((r3.out o4 (by omega)).out o5 (by omega)).out o67 (by omega)
  · exact (r4.out o5 (by omega)).out o67 (by omega)
  · exact r5.out o67 (by omega)
  · rw [h7a, upd, if_neg (by omega), upd, if_pos rfl]
  · rw [h7a, upd, if_pos rfl]
end CR
/-! caches cleared -/
def cZ (S : zS) : Prop := S 0 9 = 0 ∧ S 56 3 = 0 ∧ S 56 4 = -1 ∧ S 56 8 = -1 ∧ S 59 4 = 0 ∧ S 65 3 = -1
theorem wunsettle_s {S : zS} {L : zL} {P : zS → zL → Prop} (h : ∀ S', S' 59 = upd (S 59) 4 0 → (∀ j, j ≠ 59 → S' j = S j) → P S' L) : zCv mX9_unsettle S L [.ref 59] P :=
  e_X9_unsettle (fun X => b_X9_unsettle_0 (fun S1 e1 => h S1 (by rw [e1, zc_eq]) (fun j hj => by rw [e1, zc_ne _ _ hj])))
theorem unsettle_s {S : zS} {L : zL} {P : zS → zL → Prop} (h : ∀ S', cZ S' → (∀ j, j ≠ 0 → j ≠ 56 → j ≠ 59 → j ≠ 65 → S' j = S j) → P S' L) : zCv mX10_unsettle S L [.ref 0] P := by
  refine e_X10_unsettle (fun X => b_X10_unsettle_0 (fun S1 e1 => ?_))
  refine e_X4_unsettle (fun X => b_X4_unsettle_0 (fun S2 e2 S3 e3 S4 e4 => ?_))
  refine wunsettle_s (fun S5 e5 f5 => ?_)
  refine e_X0_unsettle (fun X => b_X0_unsettle_0 (fun S6 e6 => ?_))
  have g4 : S4 56 = upd (upd (upd (S1 56) 3 0) 4 (-1)) 8 (-1) := by rw [e4, zc_eq, e3, zc_eq, e2, zc_eq]
  have n4 : ∀ j, j ≠ 56 → S4 j = S1 j := fun j hj => by rw [e4, zc_ne _ _ hj, e3, zc_ne _ _ hj, e2, zc_ne _ _ hj]
  have n6 : ∀ j, j ≠ 65 → S6 j = S5 j := fun j hj => by rw [e6, zc_ne _ _ hj]
  refine h S6 ⟨?_, ?_, ?_, ?_, ?_, ?_⟩ (fun j a b d e => ?_)
  · rw [n6 0 (by omega), f5 0 (by omega), n4 0 (by omega), e1, zc_eq, upd, if_pos rfl]
  · rw [n6 56 (by omega), f5 56 (by omega), g4]; simp [upd]
  · rw [n6 56 (by omega), f5 56 (by omega), g4]; simp [upd]
  · rw [n6 56 (by omega), f5 56 (by omega), g4]; simp [upd]
  · rw [n6 59 (by omega), e5]; simp [upd]
  · rw [e6, zc_eq]; simp [upd]
  · rw [n6 j e, f5 j d, n4 j b, e1, zc_ne _ _ a]
