/-! A WHOLE RUN OF A COURSE -/
def pRw (Z : Nat → pF) (R : pF) (n : Nat) : pF := fun i => if i < 41 * n then Z (i / 41) (i % 41) else R i
theorem pRw_step {Z : Nat → pF} {R : pF} {m : Nat} : va_cpy (Z m) (pRw Z R m) 0 (41 * m) 41 = pRw Z R (m + 1) := by
  funext i
  simp only [va_cpy, pRw]
  by_cases h1 : 41 * m ≤ i ∧ i < 41 * m + 41
  · rw [if_pos h1, if_pos (by omega), show i / 41 = m by omega, show i % 41 = i - 41 * m by omega, Nat.zero_add]
  · by_cases h2 : i < 41 * m
    · simp only [if_neg h1, if_pos h2, if_pos (show i < 41 * (m + 1) by omega)]
    · simp only [if_neg h1, if_neg h2, if_neg (show ¬ i < 41 * (m + 1) by omega)]
theorem pDds_no {pe de : List T3} {D N : pF} {mo : Int32} (h : ∀ e ∈ de, ¬ e.1 = mo) : pDds pe de D mo N = (N, 0) := by
  refine foldl_inv (I := fun s : pF × Int32 => s = (N, 0)) de (N, 0) rfl ?_
  intro s d hd hs
  rw [hs, pDd, if_neg (fun z => h d hd z.1)]
theorem pTrs_no {np : Nat} {jo : List T3} {D N : pF} {mo : Int32} (h : ∀ e ∈ jo, ¬ e.1 = mo) : pTrs np jo D mo N = N := by
  refine foldl_inv (I := fun s : pF => s = N) jo N rfl ?_
  intro s d hd hs
  rw [hs, pTr, if_neg (fun z => h d hd z.1)]
theorem pRds_no {pe ro : List T3} {cold mo : Int32} {fr : Prop} [Decidable fr] {s : pZ} (h : ∀ e ∈ ro, ¬ e.1 = mo) : ro.foldl (pRd pe cold mo fr) s = s := by
  refine foldl_inv (I := fun a : pZ => a = s) ro s rfl ?_
  intro a d hd hs
  rw [hs, pRd, if_neg (h d hd)]
theorem pRd_fr {pe : List T3} {cold mo : Int32} {fr fr' : Prop} [Decidable fr] [Decidable fr'] (h : fr ↔ fr') : pRd pe cold mo fr = pRd pe cold mo fr' := by
  have e1 : ∀ (s : pZ) (w : Nat), pSh pe cold mo fr s w = pSh pe cold mo fr' s w := by
    intro s w
    simp only [pSh, h]
  have e2 : ∀ (cty : Int32), pRn pe cold mo fr cty = pRn pe cold mo fr' cty := by
    intro cty
    funext s
    simp only [pRn, e1]
  funext s r
  simp only [pRd, e2]
theorem pMk_no {l : List T3} {m : Nat} (hm : m < 24) (hl : ∀ e ∈ l, ∃ q, q < 24 ∧ e.1 = nI q) (h : pMk l 0 &&& ((1 : Int32) <<< (nI m &&& 31)) = 0) : ∀ e ∈ l, ¬ e.1 = nI m := by
  intro e he hee
  have h1 := (b_msk (by omega)).mp h
  have h2 := (b_pMk l 0 m hm hl).mpr (Or.inr ⟨e, he, hee⟩)
  rw [h1] at h2
  cases h2
section RUN
variable {k t : Nat} {pe de ro jo fs : List T3} {g c last : Int32} {L : zL} {X : Nat × (Nat → Int32)} {P : zS → zL → Prop}
abbrev pCf (pe de ro jo fs : List T3) (g c : Int32) (m : Nat) : pZ := pC pe de ro jo (pMk fs 0) g c m
abbrev pRr (pe de ro jo fs : List T3) (g c : Int32) (R : pF) (n : Nat) : pF := pRw (fun m => (pCf pe de ro jo fs g c (m + 1)).1) R n
/-- the cells behind n months of a run -/
def zRun (S : zS) (k : Nat) (pe de ro jo fs : List T3) (g c : Int32) (n : Nat) : zS := zMm S k (pCf pe de ro jo fs g c n).1 (pCf pe de ro jo fs g c n).2.1 (pRr pe de ro jo fs g c (S (k + 2)) n) (pCf pe de ro jo fs g c n).2.2.1 (pCf pe de ro jo fs g c n).2.2.2
theorem zT_mm {S : zS} {N D R : pF} {fm fw : Int32} (hd : k + 3 < t ∨ t + 20 < k) (h : zT S t pe de ro jo fs g c) : zT (zMm S k N D R fm fw) t pe de ro jo fs g c := by
  obtain ⟨h1, h2, h3, h4, h5, h6, h7⟩ := h
  exact ⟨h1.keep (zMm_o (by omega)) (zMm_o (by omega)) (zMm_o (by omega)) (zMm_o (by omega)), h2.keep (zMm_o (by omega)) (zMm_o (by omega)) (zMm_o (by omega)) (zMm_o (by omega)), h3.keep (zMm_o (by omega)) (zMm_o (by omega)) (zMm_o (by omega)) (zMm_o (by omega)), h4.keep (zMm_o (by omega)) (zMm_o (by omega)) (zMm_o (by omega)) (zMm_o (by omega)), h5.keep (zMm_o (by omega)) (zMm_o (by omega)) (zMm_o (by omega)) (zMm_o (by omega)), by rw [zMm_o (by omega)]; exact h6, by rw [zMm_o (by omega)]; exact h7⟩
theorem run_l (hC : zCo k t) (hW : pWf pe de ro jo fs) {S0 : zS} (hT : zT S0 t pe de ro jo fs g c) {n : Nat} (hn : n ≤ 24) (hlast : ∀ m, m ≤ 24 → (last < nI m ↔ n ≤ m)) (h : P (zRun S0 k pe de ro jo fs g c n) L) : ∀ (d m : Nat) (S : zS), m + d = n → S = zRun S0 k pe de ro jo fs g c m →
    zU mX2_run X S L 53 [some (.ref k), some (.int last), some (.int (pMk de 0)), some (.int (pMk jo 0)), some (.int (pMk ro 0)), some (.int (pMk fs 0)), some (.int (nI m)), none, none] [] (zpv P) := by
  have hdis := hC.2.2.2.2.2.2.2
  obtain ⟨⟨l1, l2, l3, l4, l5⟩, w1, w2, w3, w4, w5, w6, w7⟩ := hW
  intro d
  induction d with
  | zero =>
    intro m S hd hS
    have : m = n := by omega
    subst this
    refine b_X2_run_53 hC ⟨fun _ => by rw [hS]; exact h, fun q => absurd ((hlast m hn).mpr (Nat.le_refl _)) q⟩
  | succ d ih =>
    intro m S hd hS
    have hTS : zT S t pe de ro jo fs g c := by rw [hS]; exact zT_mm hdis hT
    have hO := pOk_C (de := de) (ro := ro) (fb := pMk fs 0) (g := g) (c := c) l1 w1 w2 m
    have hst : zst S k = pCf pe de ro jo fs g c m := by
      rw [hS]; simp only [zst, zRun, zMm_1, zMm_3, zMm_fm, zMm_fw]
    have hSk : S = zpu S k (zst S k) := zpu_self.symm
    -- the end of the month
    have e137 : ∀ S5, S5 = zpu S k (pCf pe de ro jo fs g c (m + 1)) → zU mX2_run X S5 L 137 [some (.ref k), some (.int last), some (.int (pMk de 0)), some (.int (pMk jo 0)), some (.int (pMk ro 0)), some (.int (pMk fs 0)), some (.int (nI m)), none, none] [] (zpv P) := by
      intro S5 e5
      have e41 : nI m * (41 : Int32) = nI (41 * m) := by rw [show (41 : Int32) = nI 41 by decide, pk_mul, Nat.mul_comm]
      refine b_X2_run_137 hC ?_
      rw [e41, cl_nI (by omega), show (0 : Int32).toNatClampNeg = 0 from rfl, show (41 : Int32).toNatClampNeg = 41 from rfl]
      refine ⟨⟨⟨by decide, nI_pos (by omega), by decide⟩, by omega, by omega⟩, fun S6 e6 x1 ex1 => ?_⟩
      rw [ex1, nI_1]
      refine ih (m + 1) S6 (by omega) ?_
      have hR : S (k + 2) = pRr pe de ro jo fs g c (S0 (k + 2)) m := by rw [hS]; simp only [zRun, zMm_2]
      rw [e6, e5, zpu_N, zpu_R, hR]
      have hstep : va_cpy (pCf pe de ro jo fs g c (m + 1)).1 (pRr pe de ro jo fs g c (S0 (k + 2)) m) 0 (41 * m) 41 = pRr pe de ro jo fs g c (S0 (k + 2)) (m + 1) := pRw_step (Z := fun m => (pCf pe de ro jo fs g c (m + 1)).1)
      rw [hstep]
      simp only [zpu]
      rw [zMm_s2, hS]
      simp only [zRun]
      rw [zMm_mm]
    -- the rounds
    have e110 : ∀ S4 N4, S4 = zpu S k (N4, (pCf pe de ro jo fs g c m).2) → pOk pe.length N4 → ro.foldl (pRd pe c (nI m) (pFr (pMk fs 0) m)) (N4, (pCf pe de ro jo fs g c m).2) = pCf pe de ro jo fs g c (m + 1) → zU mX2_run X S4 L 110 [some (.ref k), some (.int last), some (.int (pMk de 0)), some (.int (pMk jo 0)), some (.int (pMk ro 0)), some (.int (pMk fs 0)), some (.int (nI m)), some (.int ((1 : Int32) <<< (nI m &&& 31))), none] [] (zpv P) := by
      intro S4 N4 e4 hO4 hfold
      have hT4 : zT S4 t pe de ro jo fs g c := by rw [e4]; exact zT_pu hdis hTS
      have rd : ∀ fr : Int32, (¬ fr = 0 ↔ pFr (pMk fs 0) m) → zU mX2_run X S4 L 134 [some (.ref k), some (.int last), some (.int (pMk de 0)), some (.int (pMk jo 0)), some (.int (pMk ro 0)), some (.int (pMk fs 0)), some (.int (nI m)), none, none] [.int fr, .int (nI m), .ref k] (zpv P) := by
        intro fr hfr
        refine b_X2_run_134 hC ?_
        refine makeRounds_s hC ⟨l1, l3⟩ w7 hT4 (by rw [e4, zpu_N]; exact hO4) (e137 _ ?_)
        rw [pRd_fr hfr, e4, zpu_st, zpu_pu, hfold]
      refine b_X2_run_110 hC ⟨fun z => e137 _ ?_, fun z => ⟨fun z2 => rd 0 ?_, fun z2 => rd 1 ?_⟩⟩
      · rw [pRds_no (pMk_no (by omega) w5 z)] at hfold
        rw [e4, hfold]
      · have hb := (b_msk (by omega)).mp z2
        constructor
        · intro q; exact absurd rfl q
        · intro q
          have := (b_low1 (by omega)).mp q
          rw [hb] at this; cases this
      · constructor
        · intro _
          refine (b_low1 (by omega)).mpr ?_
          cases hb : bt (pMk fs 0) m with
          | true => rfl
          | false => exact absurd ((b_msk (by omega)).mpr hb) z2
        · intro _; decide
    -- the journeys
    have e89 : ∀ S1 w0 a, a = pDds pe de (pCf pe de ro jo fs g c m).2.1 (nI m) (pCf pe de ro jo fs g c m).1 → S1 = zpu S k (a.1, (pCf pe de ro jo fs g c m).2) → w0 = a.2 → zU mX2_run X S1 L 89 [some (.ref k), some (.int last), some (.int (pMk de 0)), some (.int (pMk jo 0)), some (.int (pMk ro 0)), some (.int (pMk fs 0)), some (.int (nI m)), some (.int ((1 : Int32) <<< (nI m &&& 31))), none] [.int w0] (zpv P) := by
      intro S1 w0 a ea e1 ew
      have hT1 : zT S1 t pe de ro jo fs g c := by rw [e1]; exact zT_pu hdis hTS
      have hOa : pOk pe.length a.1 := by rw [ea]; exact pOk_dds l1 hO
      refine b_X2_run_89 hC ?_
      refine moult_s hC l1 hT1.1.1 hT1.2.2.2.2.2.1 ?_
      have hD1 : S1 (k + 3) = (pCf pe de ro jo fs g c m).2.1 := by rw [e1, zpu_D]
      have hN1 : S1 (k + 1) = a.1 := by rw [e1, zpu_N]
      rw [hD1, hN1, ew]
      have e2 : zc S1 (k + 1) (pMo pe.length (pCf pe de ro jo fs g c m).2.1 g a.2 a.1) = zpu S k (pMo pe.length (pCf pe de ro jo fs g c m).2.1 g a.2 a.1, (pCf pe de ro jo fs g c m).2) := by
        rw [zpu_1, e1, zpu_st, zpu_pu]
      rw [e2]
      have hmo := pOk_mo (D := (pCf pe de ro jo fs g c m).2.1) (g := g) (b := a.2) l1 hOa
      have hst2 : pMs pe de ro jo (pMk fs 0) g c m (pCf pe de ro jo fs g c m) = pCf pe de ro jo fs g c (m + 1) := rfl
      rw [pMs] at hst2
      rw [← ea] at hst2
      refine ⟨fun z => e110 _ _ rfl hmo ?_, fun z => ?_⟩
      · rw [pTrs_no (pMk_no (by omega) w4 z)] at hst2
        exact hst2
      · refine travel_s hC ⟨l1, l4⟩ (zT_pu hdis hTS).1 (zT_pu hdis hTS).2.2.2.1 ?_
        rw [zpu_N, zpu_D, zpu_1, zpu_st, zpu_pu]
        exact e110 _ _ rfl (pOk_trs l1 w2 hmo) hst2
    refine b_X2_run_53 hC ⟨fun z => absurd ((hlast m (by omega)).mp z) (by omega), fun _ => ⟨fun z => absurd z ?_, fun _ x1 ex1 => ?_⟩⟩
    · rw [show (24 : Int32) = nI 24 by decide]; exact nI_ge (by omega) (by omega)
    · subst ex1
      refine ⟨fun z => e89 S 0 _ rfl ?_ ?_, fun z => ?_⟩
      · rw [pDds_no (pMk_no (by omega) w3 z)]
        show S = zpu S k (pCf pe de ro jo fs g c m)
        rw [← hst]; exact hSk
      · rw [pDds_no (pMk_no (by omega) w3 z)]
      · refine doDeeds_s hC ⟨l1, l2⟩ hTS.1 hTS.2.1 ?_
        have hD : S (k + 3) = (pCf pe de ro jo fs g c m).2.1 := by rw [← hst]; rfl
        have hN : S (k + 1) = (pCf pe de ro jo fs g c m).1 := by rw [← hst]; rfl
        rw [hD, hN]
        refine e89 _ _ _ rfl ?_ rfl
        rw [zpu_1, hst]
theorem run_s (hC : zCo k t) (hW : pWf pe de ro jo fs) {S : zS} (hT : zT S t pe de ro jo fs g c) {n : Nat} (hn : n ≤ 24) (hlast : ∀ m, m ≤ 24 → (last < nI m ↔ n ≤ m)) (h : P (zRun S k pe de ro jo fs g c n) L) : zCv mX2_run S L [.ref k, .int last] P := by
  have hdis := hC.2.2.2.2.2.2.2
  refine e_X2_run (fun X => b_X2_run_0 hC ?_)
  have hto := hC.2.2.2.2.1
  refine begin_s hC hW.1.1 hT.1 ?_
  have hT1 : zT (zpu S k (pZ0 pe)) t pe de ro jo fs g c := zT_pu hdis hT
  refine monthsOf_s hto.2.2.1 hT1.2.1 ⟨hW.1.2.1, by omega⟩ ?_
  refine monthsOf_s hto.2.2.2.2.1 hT1.2.2.2.1 ⟨hW.1.2.2.2.1, by omega⟩ ?_
  refine monthsOf_s hto.2.2.2.1 hT1.2.2.1 ⟨hW.1.2.2.1, by omega⟩ ?_
  refine monthsOf_s hto.2.2.2.2.2 hT1.2.2.2.2.1 ⟨hW.1.2.2.2.2, by omega⟩ ?_
  refine run_l hC hW hT hn hlast h n 0 _ (by omega) ?_
  simp only [zRun, zpu]
  have : pRr pe de ro jo fs g c (S (k + 2)) 0 = S (k + 2) := by
    funext i; simp only [pRr, pRw]; rw [if_neg (by omega)]
  rw [this]
  rfl
end RUN
theorem last_nI {q : Nat} (hq : q < 24) : ∀ m, m ≤ 24 → (nI q < nI m ↔ q + 1 ≤ m) := fun m hm => by rw [nI_ltI (by omega) (by omega)]; omega
theorem last_m1 : ∀ m, m ≤ 24 → ((-1 : Int32) < nI m ↔ 0 ≤ m) := by decide +kernel
