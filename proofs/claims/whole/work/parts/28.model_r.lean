/-! THE REFERENCE's MONTHS -/
def zRl (S : zS) (a b c : Nat) (l : List T3) : Prop := ∀ (i : Nat) (e : T3), l[i]? = some e → S a i = e.1 ∧ S b i = e.2.1 ∧ S c i = e.2.2
def mZ (S : zS) (np : Nat) (s : pZ) : Prop :=
  (∀ p, p < np → S 88 p = s.1 p ∧ S 89 p = s.1 (8 + p) ∧ S 90 p = s.1 (16 + p) ∧ S 91 p = s.1 (33 + p) ∧ S 92 p = s.2.1 p) ∧ (∀ q, q < 4 → S 93 q = s.1 (24 + q) ∧ S 94 q = s.1 (28 + q)) ∧ S 72 31 = s.1 32 ∧ S 72 32 = s.2.2.1 ∧ S 72 33 = s.2.2.2
/-- what the months leave -/
def mF (S S' : zS) : Prop := (∀ j, j ≠ 72 → (j < 88 ∨ 94 < j) → S' j = S j) ∧ (∀ i, (i < 30 ∨ 33 < i) → S' 72 i = S 72 i)
theorem mF.rf {S : zS} : mF S S := ⟨fun _ _ _ => rfl, fun _ _ => rfl⟩
theorem mF.trans {S S' S'' : zS} (h1 : mF S S') (h2 : mF S' S'') : mF S S'' := ⟨fun j a b => (h2.1 j a b).trans (h1.1 j a b), fun i a => (h2.2 i a).trans (h1.2 i a)⟩
theorem mF.cel {S : zS} {k : Nat} {f : pF} (h : 88 ≤ k ∧ k ≤ 94) : mF S (zc S k f) := ⟨fun j _ b => zc_ne _ _ (by omega), fun i _ => by rw [zc_ne _ _ (by omega)]⟩
theorem mF.fld {S : zS} {i : Nat} {x : Int32} (h : 30 ≤ i ∧ i ≤ 33) : mF S (zc S 72 (upd (S 72) i x)) := ⟨fun j a _ => zc_ne _ _ a, fun j hj => by rw [zc_eq, upd, if_neg (by omega)]⟩
/-- what the reference's months go by -/
def mI (S : zS) (pe de ro jo : List T3) (nd nr fb g c : Int32) : Prop :=
  (zRl S 75 76 77 pe ∧ S 72 2 = nI pe.length) ∧ (zRl S 78 79 80 de ∧ S 72 6 = nI de.length) ∧ (zRl S 81 82 83 ro ∧ S 72 12 = nI ro.length) ∧ (zRl S 84 85 86 jo ∧ S 72 16 = nI jo.length) ∧ S 72 22 = nd ∧ S 72 23 = nr ∧ S 72 24 = fb ∧ S 72 10 = g ∧ S 72 11 = c
theorem zRl.keep {S S' : zS} {a b c : Nat} {l : List T3} (h : zRl S a b c l) (h1 : S' a = S a) (h2 : S' b = S b) (h3 : S' c = S c) : zRl S' a b c l := by
  unfold zRl; rw [h1, h2, h3]; exact h
theorem mI.keep {S S' : zS} {pe de ro jo : List T3} {nd nr fb g c : Int32} (h : mI S pe de ro jo nd nr fb g c) (hF : mF S S') : mI S' pe de ro jo nd nr fb g c := by
  obtain ⟨⟨a1, a2⟩, ⟨b1, b2⟩, ⟨c1, c2⟩, ⟨d1, d2⟩, e1, e2, e3, e4, e5⟩ := h
  have o : ∀ j, j ≠ 72 → j < 88 → S' j = S j := fun j x y => hF.1 j x (Or.inl y)
  have f : ∀ i, i < 30 → S' 72 i = S 72 i := fun i hi => hF.2 i (Or.inl hi)
  exact ⟨⟨a1.keep (o _ (by omega) (by omega)) (o _ (by omega) (by omega)) (o _ (by omega) (by omega)), by rw [f _ (by omega)]; exact a2⟩, ⟨b1.keep (o _ (by omega) (by omega)) (o _ (by omega) (by omega)) (o _ (by omega) (by omega)), by rw [f _ (by omega)]; exact b2⟩, ⟨c1.keep (o _ (by omega) (by omega)) (o _ (by omega) (by omega)) (o _ (by omega) (by omega)), by rw [f _ (by omega)]; exact c2⟩, ⟨d1.keep (o _ (by omega) (by omega)) (o _ (by omega) (by omega)) (o _ (by omega) (by omega)), by rw [f _ (by omega)]; exact d2⟩, by rw [f _ (by omega)]; exact e1, by rw [f _ (by omega)]; exact e2, by rw [f _ (by omega)]; exact e3, by rw [f _ (by omega)]; exact e4, by rw [f _ (by omega)]; exact e5⟩
/-- a list without those whose bits are set -/
def pFl (b : Int32) : Nat → List T3 → List T3
  | _, [] => []
  | i, e :: l => if bt b i = true then pFl b (i + 1) l else e :: pFl b (i + 1) l
theorem pLv_iff {np : Nat} {D D' : pF} {who : Int32} (hb : np < 2000) (h : ∀ p, p < np → D p = D' p) : pLv np D who ↔ pLv np D' who := by
  have key : ∀ {A B : pF}, (∀ p, p < np → A p = B p) → pLv np A who → pLv np B who := by
    intro A B hAB z
    obtain ⟨w, hw, hwe, hA⟩ := pLv_ix z (by omega)
    refine ⟨z.1, z.2.1, ?_⟩
    rw [hwe, cl_nI (by omega), ← hAB w hw]
    exact hA
  exact ⟨key h, key (fun p hp => (h p hp).symm)⟩
theorem mZ_has {S : zS} {np w : Nat} {s : pZ} {x : Int32} (hn : np ≤ 8) (hw : w < np) (h : mZ S np s) : mZ (zc S 88 (upd (S 88) w x)) np (upd s.1 w x, s.2) := by
  obtain ⟨h1, h2, h3, h4, h5⟩ := h
  refine ⟨fun p hp => ?_, fun q hq => ?_, ?_, ?_, ?_⟩
  · obtain ⟨a, b, c, d, e⟩ := h1 p hp
    refine ⟨?_, ?_, ?_, ?_, ?_⟩
    · rw [zc_eq]; simp only [upd]; rw [a]
    · rw [zc_ne _ _ (by omega), b]; simp only [upd]; rw [if_neg (by omega)]
    · rw [zc_ne _ _ (by omega), c]; simp only [upd]; rw [if_neg (by omega)]
    · rw [zc_ne _ _ (by omega), d]; simp only [upd]; rw [if_neg (by omega)]
    · rw [zc_ne _ _ (by omega), e]
  · obtain ⟨a, b⟩ := h2 q hq
    exact ⟨by rw [zc_ne _ _ (by omega), a]; simp only [upd]; rw [if_neg (by omega)], by rw [zc_ne _ _ (by omega), b]; simp only [upd]; rw [if_neg (by omega)]⟩
  · rw [zc_ne _ _ (by omega), h3]; simp only [upd]; rw [if_neg (by omega)]
  · rw [zc_ne _ _ (by omega), h4]
  · rw [zc_ne _ _ (by omega), h5]
theorem mZ_place {S : zS} {np w : Nat} {s : pZ} {x : Int32} (hn : np ≤ 8) (hw : w < np) (h : mZ S np s) : mZ (zc S 89 (upd (S 89) w x)) np (upd s.1 (8 + w) x, s.2) := by
  obtain ⟨h1, h2, h3, h4, h5⟩ := h
  refine ⟨fun p hp => ?_, fun q hq => ?_, ?_, ?_, ?_⟩
  · obtain ⟨a, b, c, d, e⟩ := h1 p hp
    refine ⟨?_, ?_, ?_, ?_, ?_⟩
    · rw [zc_ne _ _ (by omega), a]; simp only [upd]; rw [if_neg (by omega)]
    · rw [zc_eq]; simp only [upd]; rw [b]
      by_cases hpw : p = w
      · rw [if_pos hpw, if_pos (by omega)]
      · rw [if_neg hpw, if_neg (by omega)]
    · rw [zc_ne _ _ (by omega), c]; simp only [upd]; rw [if_neg (by omega)]
    · rw [zc_ne _ _ (by omega), d]; simp only [upd]; rw [if_neg (by omega)]
    · rw [zc_ne _ _ (by omega), e]
  · obtain ⟨a, b⟩ := h2 q hq
    exact ⟨by rw [zc_ne _ _ (by omega), a]; simp only [upd]; rw [if_neg (by omega)], by rw [zc_ne _ _ (by omega), b]; simp only [upd]; rw [if_neg (by omega)]⟩
  · rw [zc_ne _ _ (by omega), h3]; simp only [upd]; rw [if_neg (by omega)]
  · rw [zc_ne _ _ (by omega), h4]
  · rw [zc_ne _ _ (by omega), h5]
theorem mZ_thorn {S : zS} {np : Nat} {s : pZ} {x : Int32} (hn : np ≤ 8) (h : mZ S np s) : mZ (zc S 72 (upd (S 72) 31 x)) np (upd s.1 32 x, s.2) := by
  obtain ⟨h1, h2, h3, h4, h5⟩ := h
  refine ⟨fun p hp => ?_, fun q hq => ?_, ?_, ?_, ?_⟩
  · obtain ⟨a, b, c, d, e⟩ := h1 p hp
    refine ⟨?_, ?_, ?_, ?_, ?_⟩
    · rw [zc_ne _ _ (by omega), a]; simp only [upd]; rw [if_neg (by omega)]
    · rw [zc_ne _ _ (by omega), b]; simp only [upd]; rw [if_neg (by omega)]
    · rw [zc_ne _ _ (by omega), c]; simp only [upd]; rw [if_neg (by omega)]
    · rw [zc_ne _ _ (by omega), d]; simp only [upd]; rw [if_neg (by omega)]
    · rw [zc_ne _ _ (by omega), e]
  · obtain ⟨a, b⟩ := h2 q hq
    exact ⟨by rw [zc_ne _ _ (by omega), a]; simp only [upd]; rw [if_neg (by omega)], by rw [zc_ne _ _ (by omega), b]; simp only [upd]; rw [if_neg (by omega)]⟩
  · rw [zc_eq]; simp [upd]
  · rw [zc_eq]; simp only [upd]; rw [if_neg (by omega), h4]
  · rw [zc_eq]; simp only [upd]; rw [if_neg (by omega), h5]
theorem mZ_did {S : zS} {np : Nat} {s : pZ} {x : Int32} (h : mZ S np s) : mZ (zc S 72 (upd (S 72) 30 x)) np s := by
  obtain ⟨h1, h2, h3, h4, h5⟩ := h
  refine ⟨fun p hp => ?_, fun q hq => ?_, ?_, ?_, ?_⟩
  · have := h1 p hp
    simp only [zc_ne (S := S) (k := 72) (upd (S 72) 30 x) (show (88 : Nat) ≠ 72 by decide), zc_ne (S := S) (k := 72) (upd (S 72) 30 x) (show (89 : Nat) ≠ 72 by decide), zc_ne (S := S) (k := 72) (upd (S 72) 30 x) (show (90 : Nat) ≠ 72 by decide), zc_ne (S := S) (k := 72) (upd (S 72) 30 x) (show (91 : Nat) ≠ 72 by decide), zc_ne (S := S) (k := 72) (upd (S 72) 30 x) (show (92 : Nat) ≠ 72 by decide)]
    exact this
  · have := h2 q hq
    rw [zc_ne _ _ (by omega), zc_ne _ _ (by omega)]
    exact this
  · rw [zc_eq]; simp only [upd]; rw [if_neg (by omega), h3]
  · rw [zc_eq]; simp only [upd]; rw [if_neg (by omega), h4]
  · rw [zc_eq]; simp only [upd]; rw [if_neg (by omega), h5]
theorem mZ_N {S : zS} {np : Nat} {N N' : pF} {z : pF × Int32 × Int32} (h : mZ S np (N, z)) (e : N = N') : mZ S np (N', z) := e ▸ h
section MG
variable {pe de ro jo : List T3} {nd nr fb g c mo : Int32} {L : zL} {X : Nat × (Nat → Int32)} {P : zS → zL → Prop}
theorem upd_same {f : pF} {i : Nat} {x : Int32} (h : f i = x) : upd f i x = f := by
  funext j
  by_cases hj : j = i
  · subst hj; simp [upd, h]
  · simp [upd, hj]
theorem i32_1 {x : Int32} : (1 : Int32) ≤ x ↔ ¬ x ≤ 0 := by
  rw [Int32.le_iff_toInt_le, Int32.le_iff_toInt_le]
  have h1 : (1 : Int32).toInt = 1 := by decide
  have h0 : (0 : Int32).toInt = 0 := by decide
  rw [h1, h0]; omega
theorem gr_mo (hn : pe.length ≤ 8) : ∀ (d i : Nat) (S : zS) (s : pZ), i + d = pe.length → mI S pe de ro jo nd nr fb g c → mZ S pe.length s → (∀ S', mZ S' pe.length ((List.range' i d).foldl (pMo1 s.2.1 g (S 72 30)) s.1, s.2) → mF S S' → P S' L) → zU mX11_grows X S L 128 [some (.ref 72), none, some (.int (nI i)), none, none] [] (zpv P) := by
  intro d
  induction d with
  | zero =>
    intro i S s hd hI hZ h
    refine b_X11_grows_128 (np := pe.length) ⟨fun _ => h S hZ mF.rf, fun q => absurd ?_ q⟩
    rw [hI.1.2]; exact nI_le (by omega) (by omega)
  | succ d ih =>
    intro i S s hd hI hZ h
    have hi : i < pe.length := by omega
    rw [List.range'_succ, List.foldl_cons] at h
    have hlv : pLv pe.length (S 92) (nI i) ↔ s.2.1 i = -1 := by
      simp only [pLv, cl_nI (show i < 2000 by omega), (hZ.1 i hi).2.2.2.2]
      exact ⟨fun z => z.2.2, fun z => ⟨nI_pos (by omega), nI_lt hi (by omega), z⟩⟩
    have same : ¬ (¬ s.1 i ≤ 0 ∧ ¬ g < s.1 i ∧ s.2.1 i = -1 ∧ (S 72 30 >>> (nI i &&& 31)) &&& 1 = 0) → ∀ S1, S1 = zc S 88 (upd (S 88) i (S 88 i - 0)) → ∀ x1, x1 = nI i + 1 → zU mX11_grows X S1 L 128 [some (.ref 72), none, some (.int x1), none, none] [] (zpv P) := by
      intro hno S1 e1 x1 ex1
      rw [pMo1, if_neg hno] at h
      rw [Int32.sub_zero, upd_same rfl, zc_self] at e1
      subst e1
      rw [ex1, nI_1]
      exact ih (i + 1) S1 s (by omega) hI hZ h
    refine b_X11_grows_128 (np := pe.length) ⟨fun q => absurd q ?_, fun _ => ?_⟩
    · rw [hI.1.2]; exact nI_ge (by omega) (by omega)
    rw [cl_nI (n := i) (by omega)]
    refine ⟨vp_in_nI (by omega) (by omega), ⟨hI.1.2, hn⟩, fun q1 => ⟨fun q2 => ⟨vp_in_nI (by omega) (by omega), same (fun z => ?_)⟩, fun q2 => ⟨vp_in_nI (by omega) (by omega), fun q3 => ⟨vp_in_nI (by omega) (by omega), fun S1 e1 x1 ex1 => ?_⟩, fun q3 => ⟨vp_in_nI (by omega) (by omega), same (fun z => q3 ?_)⟩⟩⟩, fun q1 => ⟨vp_in_nI (by omega) (by omega), same (fun z => q1 (hlv.mpr z.2.2.1))⟩⟩
    · have := z.2.2.2
      rw [q2] at this
      exact absurd this (by decide)
    · rw [(hZ.1 i hi).1, hI.2.2.2.2.2.2.2.1] at q3
      have hb : (S 72 30 >>> (nI i &&& 31)) &&& 1 = 0 := by
        cases hbt : bt (S 72 30) i with
        | false => exact (b_low0 (by omega)).mpr hbt
        | true => exact absurd ((b_low1 (by omega)).mpr hbt) q2
      rw [pMo1, if_pos ⟨i32_1.mp q3.1, i32_nlt q3.2, hlv.mp q1, hb⟩] at h
      rw [ex1, nI_1]
      have hF : mF S S1 := by rw [e1]; exact mF.cel (by omega)
      have hd30 : S1 72 30 = S 72 30 := by rw [e1, zc_ne _ _ (by omega)]
      refine ih (i + 1) S1 (upd s.1 i (s.1 i - 1), s.2) (by omega) (hI.keep hF) ?_ ?_
      · rw [e1, (hZ.1 i hi).1]; exact mZ_has hn hi hZ
      · intro S' hZ' hF'
        rw [hd30] at hZ'
        exact h S' hZ' (hF.trans hF')
    · rw [(hZ.1 i hi).1, hI.2.2.2.2.2.2.2.1]
      exact ⟨i32_1.mpr z.1, i32_le z.2.1⟩
theorem gr_dd (hn : pe.length ≤ 8 ∧ de.length ≤ 10) : ∀ (rest : List T3) (i : Nat) (S : zS) (s : pZ) (b : Int32), de.drop i = rest → i ≤ de.length → mI S pe de ro jo nd nr fb g c → mZ S pe.length s → S 72 30 = b →
    (∀ S', mZ S' pe.length (pMo pe.length s.2.1 g ((pFl nd i rest).foldl (pDd pe s.2.1 mo) (s.1, b)).2 ((pFl nd i rest).foldl (pDd pe s.2.1 mo) (s.1, b)).1, s.2) → mF S S' → P S' L) → zU mX11_grows X S L 7 [some (.ref 72), some (.int mo), some (.int (nI i)), none, none] [] (zpv P) := by
  intro rest
  induction rest with
  | nil =>
    intro i S s b hd hi hI hZ hb h
    have hl : de.length ≤ i := List.drop_eq_nil_iff.mp hd
    refine b_X11_grows_7 (np := pe.length) ⟨fun _ => ?_, fun q => absurd ?_ q⟩
    · refine gr_mo hn.1 pe.length 0 S s (by omega) hI hZ (fun S' hZ' hF => h S' ?_ hF)
      rw [← List.range_eq_range', hb] at hZ'
      exact hZ'
    · rw [hI.2.1.2]; exact nI_le hl (by omega)
  | cons e rest ih =>
    intro i S s b hd hi hI hZ hb h
    obtain ⟨hl, he, hd2⟩ := drop_cons hd
    obtain ⟨d1, d2, d3⟩ := hI.2.1.1 i e he
    have hD : ∀ p, p < pe.length → S 92 p = s.2.1 p := fun p hp => (hZ.1 p hp).2.2.2.2
    have skip : (pFl nd i (e :: rest)).foldl (pDd pe s.2.1 mo) (s.1, b) = (pFl nd (i + 1) rest).foldl (pDd pe s.2.1 mo) (s.1, b) → ∀ x1, x1 = nI i + 1 → zU mX11_grows X S L 7 [some (.ref 72), some (.int mo), some (.int x1), none, none] [] (zpv P) := by
      intro hsk x1 e1
      rw [e1, nI_1]
      rw [hsk] at h
      exact ih (i + 1) S s b hd2 (by omega) hI hZ hb h
    have cons : bt nd i = false → (pFl nd i (e :: rest)).foldl (pDd pe s.2.1 mo) (s.1, b) = (pFl nd (i + 1) rest).foldl (pDd pe s.2.1 mo) (pDd pe s.2.1 mo (s.1, b) e) := by
      intro hbt
      rw [pFl, if_neg (by rw [hbt]; decide), List.foldl_cons]
    have drop : ¬ (e.1 = mo ∧ pLv pe.length s.2.1 e.2.1) → (pFl nd i (e :: rest)).foldl (pDd pe s.2.1 mo) (s.1, b) = (pFl nd (i + 1) rest).foldl (pDd pe s.2.1 mo) (s.1, b) := by
      intro hno
      cases hbt : bt nd i with
      | false => rw [cons hbt, pDd, if_neg hno]
      | true => rw [pFl, if_pos hbt]
    refine b_X11_grows_7 (np := pe.length) ⟨fun q => absurd q ?_, fun _ => ?_⟩
    · rw [hI.2.1.2]; exact nI_ge hl (by omega)
    rw [cl_nI (n := i) (by omega), d1, d2, d3, hI.2.2.2.2.1]
    refine ⟨vp_in_nI (by omega) (by omega), fun x1 e1 => ⟨vp_in_nI (by omega) (by omega), fun q => skip (drop (fun z => q z.1)), fun q1 => ⟨fun q => skip ?_, fun q2 => ⟨⟨hI.1.2, hn.1⟩, fun q3 => ?_, fun q => skip (drop (fun z => q ?_))⟩⟩⟩⟩
    · rw [pFl, if_pos ((b_low1 (by omega)).mp q)]
    · rw [e1] at q3
      have hlv := (pLv_iff (by omega) hD).mp q3
      have hbt : bt nd i = false := by
        cases hbt : bt nd i with
        | false => rfl
        | true => exact absurd ((b_low1 (by omega)).mpr hbt) q2
      rw [cons hbt, pDd, if_pos ⟨q1, hlv⟩] at h
      obtain ⟨w, hw, hwe, -⟩ := pLv_ix hlv (by omega)
      rw [hwe, cl_nI (by omega)] at h
      rw [e1, hwe, cl_nI (n := w) (by omega), (hI.1.1 w _ (getD_at hw)).1, ← pWl_at (getD_at hw), (hZ.1 w hw).1]
      have go : ∀ w3, w3 = pGr (pWl pe w) e.2.2 → zU mX11_grows X S L 106 [some (.ref 72), some (.int mo), some (.int (nI i)), some (.int (nI w)), none] [.int w3, .int (s.1 w), .int (nI w), .ref 88] (zpv P) := by
        intro w3 hw3
        refine b_X11_grows_106 (np := pe.length) ?_
        rw [cl_nI (n := w) (by omega)]
        refine ⟨vp_in_nI (by omega) (by omega), fun S1 eS1 S2 eS2 x1 ex1 => ?_⟩
        rw [ex1, nI_1]
        have hF1 : mF S S1 := by rw [eS1]; exact mF.cel (by omega)
        have hF2 : mF S1 S2 := by rw [eS2]; exact mF.fld (by omega)
        have hb1 : S1 72 30 = b := by rw [eS1, zc_ne _ _ (by omega), hb]
        refine ih (i + 1) S2 (upd s.1 w (s.1 w + w3), s.2) (b ||| ((1 : Int32) <<< (nI w &&& 31))) hd2 (by omega) (hI.keep (hF1.trans hF2)) ?_ ?_ ?_
        · rw [eS2, eS1]; exact mZ_did (mZ_has hn.1 hw hZ)
        · rw [eS2, zc_eq, upd, if_pos rfl, hb1]
        · intro S' hZ' hF'
          refine h S' ?_ ((hF1.trans hF2).trans hF')
          rw [hw3] at hZ'
          exact hZ'
      refine ⟨vp_in_nI (by omega) (by omega), fun y3 ey3 => ⟨vp_in_nI (by omega) (by omega), vp_in_nI (by omega) (by omega), fun z0 => ⟨vp_in_nI (by omega) (by omega), fun z1 => go _ ?_, fun z1 => go _ ?_⟩, fun z0 => go _ ?_⟩⟩
      · rw [ey3, pGr, if_neg z0, if_neg z1]
      · rw [ey3, pGr, if_neg z0, if_pos z1]
      · rw [ey3, pGr, if_pos z0]
    · rw [e1]; exact (pLv_iff (by omega) hD).mpr z.2
theorem grows_s (hn : pe.length ≤ 8 ∧ de.length ≤ 10) {S : zS} {s : pZ} (hI : mI S pe de ro jo nd nr fb g c) (hZ : mZ S pe.length s) (h : ∀ S', mZ S' pe.length (pMo pe.length s.2.1 g (pDds pe (pFl nd 0 de) s.2.1 mo s.1).2 (pDds pe (pFl nd 0 de) s.2.1 mo s.1).1, s.2) → mF S S' → P S' L) : zCv mX11_grows S L [.ref 72, .int mo] P := by
  refine e_X11_grows (fun X => b_X11_grows_0 (np := 0) (fun S1 e1 => ?_))
  have hF : mF S S1 := by rw [e1]; exact mF.fld (by omega)
  refine gr_dd hn de 0 S1 s 0 rfl (Nat.zero_le _) (hI.keep hF) (by rw [e1]; exact mZ_did hZ) (by rw [e1, zc_eq]; simp [upd]) (fun S' hZ' hF' => h S' hZ' (hF.trans hF'))
end MG
