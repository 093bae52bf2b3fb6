section MR
variable {pe de ro jo : List T3} {nd nr fb g c mo : Int32} {L : zL} {X : Nat × (Nat → Int32)} {P : zS → zL → Prop}
theorem pN0_vals (hn : pe.length ≤ 8) : (∀ p, p < pe.length → pN0 pe p = (pe.getD p (0, 0, 0)).2.2 ∧ pN0 pe (8 + p) = (pe.getD p (0, 0, 0)).2.1 ∧ pN0 pe (16 + p) = 0 ∧ pN0 pe (33 + p) = 0) ∧ (∀ q, q < 4 → pN0 pe (24 + q) = 0 ∧ pN0 pe (28 + q) = 0) ∧ pN0 pe 32 = 0 := by
  have z : ∀ j, 16 ≤ j → pN0 pe j = 0 := by
    intro j hj
    simp only [pN0]
    rw [if_neg (by omega), if_neg (by omega)]
  refine ⟨fun p hp => ⟨?_, ?_, z _ (by omega), z _ (by omega)⟩, fun q hq => ⟨z _ (by omega), z _ (by omega)⟩, z _ (by omega)⟩
  · simp only [pN0]; rw [if_pos hp]
  · simp only [pN0]; rw [if_neg (by omega), if_pos (by omega), show 8 + p - 8 = p by omega]
def mB (S : zS) (pe : List T3) (i : Nat) : Prop := ∀ p, p < i → S 88 p = pN0 pe p ∧ S 89 p = pN0 pe (8 + p) ∧ S 90 p = pN0 pe (16 + p) ∧ S 91 p = pN0 pe (33 + p) ∧ S 92 p = -1
theorem runs_1 (hn : pe.length ≤ 8) : ∀ (d i : Nat) (S : zS), i + d = pe.length → mI S pe de ro jo nd nr fb g c → mB S pe i → (∀ S', mB S' pe pe.length → mF S S' → zU mX11_runs X S' L 63 [some (.ref 72), some (.int 0)] [] (zpv P)) → zU mX11_runs X S L 2 [some (.ref 72), some (.int (nI i))] [] (zpv P) := by
  intro d
  induction d with
  | zero =>
    intro i S hd hI hB K
    have : i = pe.length := by omega
    subst this
    refine b_X11_runs_2 ⟨fun _ => K S hB mF.rf, fun q => absurd ?_ q⟩
    rw [hI.1.2]; exact nI_le (by omega) (by omega)
  | succ d ih =>
    intro i S hd hI hB K
    have hi : i < pe.length := by omega
    obtain ⟨v, -, -⟩ := pN0_vals hn
    obtain ⟨v1, v2, v3, v4⟩ := v i hi
    obtain ⟨q1, q2, q3⟩ := hI.1.1 i _ (getD_at hi)
    refine b_X11_runs_2 ⟨fun q => absurd q ?_, fun _ => ?_⟩
    · rw [hI.1.2]; exact nI_ge (by omega) (by omega)
    rw [cl_nI (n := i) (by omega), q3]
    refine ⟨vp_in_nI (by omega) (by omega), vp_in_nI (by omega) (by omega), fun S1 e1 => ?_⟩
    have s1 : ∀ j, j ≠ 88 → S1 j = S j := fun j hj => by rw [e1, zc_ne _ _ hj]
    rw [s1 76 (by omega), q2]
    refine ⟨vp_in_nI (by omega) (by omega), vp_in_nI (by omega) (by omega), fun S2 e2 => ⟨vp_in_nI (by omega) (by omega), fun S3 e3 => ⟨vp_in_nI (by omega) (by omega), fun S4 e4 => ⟨vp_in_nI (by omega) (by omega), fun S5 e5 x1 ex1 => ?_⟩⟩⟩⟩
    have s2 : ∀ j, j ≠ 89 → S2 j = S1 j := fun j hj => by rw [e2, zc_ne _ _ hj]
    have s3 : ∀ j, j ≠ 90 → S3 j = S2 j := fun j hj => by rw [e3, zc_ne _ _ hj]
    have s4 : ∀ j, j ≠ 91 → S4 j = S3 j := fun j hj => by rw [e4, zc_ne _ _ hj]
    have s5 : ∀ j, j ≠ 92 → S5 j = S4 j := fun j hj => by rw [e5, zc_ne _ _ hj]
    have f88 : S5 88 = upd (S 88) i (pN0 pe i) := by rw [s5 88 (by omega), s4 88 (by omega), s3 88 (by omega), s2 88 (by omega), e1, zc_eq, v1]
    have f89 : S5 89 = upd (S 89) i (pN0 pe (8 + i)) := by rw [s5 89 (by omega), s4 89 (by omega), s3 89 (by omega), e2, zc_eq, s1 89 (by omega), v2]
    have f90 : S5 90 = upd (S 90) i (pN0 pe (16 + i)) := by rw [s5 90 (by omega), s4 90 (by omega), e3, zc_eq, s2 90 (by omega), s1 90 (by omega), v3]
    have f91 : S5 91 = upd (S 91) i (pN0 pe (33 + i)) := by rw [s5 91 (by omega), e4, zc_eq, s3 91 (by omega), s2 91 (by omega), s1 91 (by omega), v4]
    have f92 : S5 92 = upd (S 92) i (-1) := by rw [e5, zc_eq, s4 92 (by omega), s3 92 (by omega), s2 92 (by omega), s1 92 (by omega)]
    have hF : mF S S5 := ((((show mF S S1 by rw [e1]; exact mF.cel (by omega)).trans (show mF S1 S2 by rw [e2]; exact mF.cel (by omega))).trans (show mF S2 S3 by rw [e3]; exact mF.cel (by omega))).trans (show mF S3 S4 by rw [e4]; exact mF.cel (by omega))).trans (show mF S4 S5 by rw [e5]; exact mF.cel (by omega))
    rw [ex1, nI_1]
    refine ih (i + 1) S5 (by omega) (hI.keep hF) (fun p hp => ?_) (fun S' hB' hF' => K S' hB' (hF.trans hF'))
    rw [f88, f89, f90, f91, f92]
    by_cases hpi : p = i
    · subst hpi; simp [upd]
    · simp only [upd, if_neg hpi]
      exact hB p (by omega)
theorem runs_2 (hn : pe.length ≤ 8) : ∀ (d i : Nat) (S : zS), i + d = 4 → mB S pe pe.length → (∀ q, q < i → S 93 q = 0 ∧ S 94 q = 0) → (∀ S', mZ S' pe.length (pZ0 pe) → mF S S' → zU mX11_runs X S' L 105 [some (.ref 72), some (.int 0)] [] (zpv P)) → zU mX11_runs X S L 63 [some (.ref 72), some (.int (nI i))] [] (zpv P) := by
  intro d
  induction d with
  | zero =>
    intro i S hd hB hQ K
    have : i = 4 := by omega
    subst this
    obtain ⟨-, v5, v6⟩ := pN0_vals hn
    refine b_X11_runs_63 ⟨fun _ S1 e1 S2 e2 S3 e3 => K S3 ?_ ?_, fun q => absurd (by decide) q⟩
    · have s3 : ∀ j, j ≠ 72 → S3 j = S j := fun j hj => by rw [e3, zc_ne _ _ hj, e2, zc_ne _ _ hj, e1, zc_ne _ _ hj]
      have h72 : S3 72 = upd (upd (upd (S 72) 31 0) 32 (-1)) 33 (-1) := by rw [e3, zc_eq, e2, zc_eq, e1, zc_eq]
      refine ⟨fun p hp => ?_, fun q hq => ?_, ?_, ?_, ?_⟩
      · rw [s3 88 (by omega), s3 89 (by omega), s3 90 (by omega), s3 91 (by omega), s3 92 (by omega)]
        exact hB p hp
      · rw [s3 93 (by omega), s3 94 (by omega)]
        exact ⟨(hQ q hq).1.trans (v5 q hq).1.symm, (hQ q hq).2.trans (v5 q hq).2.symm⟩
      · rw [h72, upd, if_neg (by omega), upd, if_neg (by omega), upd, if_pos rfl]; exact v6.symm
      · rw [h72, upd, if_neg (by omega), upd, if_pos rfl]; rfl
      · rw [h72, upd, if_pos rfl]; rfl
    · exact ((show mF S S1 by rw [e1]; exact mF.fld (by omega)).trans (show mF S1 S2 by rw [e2]; exact mF.fld (by omega))).trans (show mF S2 S3 by rw [e3]; exact mF.fld (by omega))
  | succ d ih =>
    intro i S hd hB hQ K
    refine b_X11_runs_63 ⟨fun q => absurd q ?_, fun _ => ?_⟩
    · rw [show (4 : Int32) = nI 4 by decide]; exact nI_ge (by omega) (by omega)
    rw [cl_nI (n := i) (by omega)]
    refine ⟨vp_in_nI (by omega) (by omega), fun S1 e1 => ⟨vp_in_nI (by omega) (by omega), fun S2 e2 x1 ex1 => ?_⟩⟩
    have s1 : ∀ j, j ≠ 93 → S1 j = S j := fun j hj => by rw [e1, zc_ne _ _ hj]
    have s2 : ∀ j, j ≠ 94 → S2 j = S1 j := fun j hj => by rw [e2, zc_ne _ _ hj]
    have t : ∀ j, j ≠ 93 → j ≠ 94 → S2 j = S j := fun j h1 h2 => (s2 j h2).trans (s1 j h1)
    have hF : mF S S2 := (show mF S S1 by rw [e1]; exact mF.cel (by omega)).trans (show mF S1 S2 by rw [e2]; exact mF.cel (by omega))
    rw [ex1, nI_1]
    refine ih (i + 1) S2 (by omega) (fun p hp => ?_) (fun q hq => ?_) (fun S' hZ hF' => K S' hZ (hF.trans hF'))
    · rw [t 88 (by omega) (by omega), t 89 (by omega) (by omega), t 90 (by omega) (by omega), t 91 (by omega) (by omega), t 92 (by omega) (by omega)]
      exact hB p hp
    · have f93 : S2 93 = upd (S 93) i 0 := by rw [s2 93 (by omega), e1, zc_eq]
      have f94 : S2 94 = upd (S 94) i 0 := by rw [e2, zc_eq, s1 94 (by omega)]
      rw [f93, f94]
      by_cases hqi : q = i
      · subst hqi; simp [upd]
      · simp only [upd, if_neg hqi]; exact hQ q (by omega)
theorem mRw1.keepF {S S' : zS} {np m : Nat} {s : pZ} (h : mRw1 S np s m) (hF : mF S S') : mRw1 S' np s m := by
  have o : ∀ j, 94 < j → S' j = S j := fun j hj => hF.1 j (by omega) (Or.inr hj)
  unfold mRw1
  rw [o 95 (by omega), o 96 (by omega), o 97 (by omega), o 98 (by omega), o 99 (by omega), o 100 (by omega), o 101 (by omega), o 102 (by omega)]
  exact h
theorem mRw1.keepH {S S' : zS} {np m m' : Nat} {s : pZ} (hn : np ≤ 8) (h : mRw1 S np s m) (hH : mH S S' m') (hne : m ≠ m') : mRw1 S' np s m := by
  obtain ⟨h1, h2, h3, h4, h5, h6⟩ := h
  obtain ⟨g1, g2, g3, g4, g5, g6⟩ := hH
  refine ⟨fun p hp => ?_, fun q hq => ?_, ?_, ?_, fun hz => ?_, fun hz => ?_⟩
  · obtain ⟨a, b, d⟩ := g2 (8 * m + p) (by omega)
    rw [a, b, d]; exact h1 p hp
  · obtain ⟨a, b⟩ := g3 (4 * m + q) (by omega)
    rw [a, b]; exact h2 q hq
  · rw [(g4 m hne).1]; exact h3
  · rw [(g4 m hne).2]; exact h4
  · rw [g5 (by omega)]; exact h5 hz
  · rw [g6 (by omega)]; exact h6 hz
abbrev mC (pe de ro jo : List T3) (nd nr fb g c : Int32) (m : Nat) : pZ := pC pe (pFl nd 0 de) (pFl nr 0 ro) jo fb g c m
/-- the lists are such as the reference may hold -/
def mWf (pe de ro jo : List T3) : Prop := (pe.length ≤ 8 ∧ de.length ≤ 10 ∧ ro.length ≤ 9 ∧ jo.length ≤ 8) ∧ (∀ e ∈ pe, ∃ q, q < 4 ∧ e.2.1 = nI q) ∧ (∀ e ∈ jo, ∃ q, q < 4 ∧ e.2.2 = nI q) ∧ (∀ e ∈ ro, ∃ q, q < 2000 ∧ e.2.2 = nI q)
theorem runs_3 (hW : mWf pe de ro jo) {S0 : zS} (h : ∀ S', mZ S' pe.length (mC pe de ro jo nd nr fb g c 24) → mRw S' pe.length (fun m => mC pe de ro jo nd nr fb g c (m + 1)) 24 → mG S0 S' → P S' L) : ∀ (d m : Nat) (S : zS), m + d = 24 → mI S pe de ro jo nd nr fb g c → mZ S pe.length (mC pe de ro jo nd nr fb g c m) → mRw S pe.length (fun m => mC pe de ro jo nd nr fb g c (m + 1)) m → mG S0 S → zU mX11_runs X S L 105 [some (.ref 72), some (.int (nI m))] [] (zpv P) := by
  obtain ⟨⟨l1, l2, l3, l4⟩, w1, w2, w3⟩ := hW
  intro d
  induction d with
  | zero =>
    intro m S hd hI hZ hR hG
    have : m = 24 := by omega
    subst this
    exact b_X11_runs_105 ⟨fun _ => h S hZ hR hG, fun q => absurd (by decide) q⟩
  | succ d ih =>
    intro m S hd hI hZ hR hG
    have hO := pOk_C (de := pFl nd 0 de) (ro := pFl nr 0 ro) (fb := fb) (g := g) (c := c) l1 w1 w2 m
    refine b_X11_runs_105 ⟨fun q => absurd q ?_, fun _ => ?_⟩
    · rw [show (24 : Int32) = nI 24 by decide]; exact nI_ge (by omega) (by omega)
    refine grows_s ⟨l1, l2⟩ hI hZ (fun S1 hZ1 hF1 => ?_)
    refine goes_s ⟨l1, l4⟩ (hI.keep hF1) hZ1 (fun S2 hZ2 hF2 => ?_)
    have hO2 := pOk_trs (D := (mC pe de ro jo nd nr fb g c m).2.1) (mo := nI m) l1 w2 (pOk_mo (D := (mC pe de ro jo nd nr fb g c m).2.1) (g := g) (b := (pDds pe (pFl nd 0 de) (mC pe de ro jo nd nr fb g c m).2.1 (nI m) (mC pe de ro jo nd nr fb g c m).1).2) l1 (pOk_dds (de := pFl nd 0 de) (D := (mC pe de ro jo nd nr fb g c m).2.1) (mo := nI m) l1 hO))
    refine shearsAll_s ⟨l1, l3⟩ (by omega) rfl w3 ((hI.keep hF1).keep hF2) hZ2 hO2 (fun S3 hZ3 hF3 => ?_)
    have hF := (hF1.trans hF2).trans hF3
    have hZ3' : mZ S3 pe.length (mC pe de ro jo nd nr fb g c (m + 1)) := hZ3
    refine keeps_s l1 (by omega) (hI.keep hF) hZ3' (fun S4 hH hR1 x1 ex1 => ?_)
    rw [ex1, nI_1]
    refine ih (m + 1) S4 (by omega) ((hI.keep hF).keepG hH.toG) (hZ3'.keepH hH) (fun m' hm' => ?_) ((hG.trans hF.toG).trans hH.toG)
    by_cases hmm : m' = m
    · subst hmm; exact hR1
    · exact ((hR m' (by omega)).keepF hF).keepH l1 hH hmm
theorem runs_s (hW : mWf pe de ro jo) {S : zS} (hI : mI S pe de ro jo nd nr fb g c) (h : ∀ S', mZ S' pe.length (mC pe de ro jo nd nr fb g c 24) → mRw S' pe.length (fun m => mC pe de ro jo nd nr fb g c (m + 1)) 24 → mG S S' → P S' L) : zCv mX11_runs S L [.ref 72] P := by
  refine e_X11_runs (fun X => b_X11_runs_0 ?_)
  refine runs_1 hW.1.1 pe.length 0 S (by omega) hI (fun p hp => absurd hp (Nat.not_lt_zero _)) (fun S1 hB hF1 => ?_)
  refine runs_2 hW.1.1 4 0 S1 (by omega) hB (fun q hq => absurd hq (Nat.not_lt_zero _)) (fun S2 hZ hF2 => ?_)
  have hF := hF1.trans hF2
  exact runs_3 hW h 24 0 S2 (by omega) (hI.keep hF) hZ (fun m hm => absurd hm (Nat.not_lt_zero _)) hF.toG
end MR
