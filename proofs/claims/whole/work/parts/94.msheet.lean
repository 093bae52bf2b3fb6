/-! SHEETS OF THE REFERENCE -/
section MS
variable {t0 t1 : List Int32} {g c : Int32} {ro jo fr se : List T3} {fo le it : pF} {la : Int32} {S : zS} {L : zL} {P : Int32 → zS → zL → Prop}
/-- only sheets are others -/
def shF (S S' : zS) : Prop := (∀ j, j ≠ 72 → (j < 108 ∨ 112 < j) → S' j = S j) ∧ ∀ i, i ≠ 55 → S' 72 i = S 72 i
theorem shF.rf {S : zS} : shF S S := ⟨fun _ _ _ => rfl, fun _ _ => rfl⟩
theorem shF.trans {S S' S'' : zS} (h1 : shF S S') (h2 : shF S' S'') : shF S S'' := ⟨fun j a b => (h2.1 j a b).trans (h1.1 j a b), fun i a => (h2.2 i a).trans (h1.2 i a)⟩
theorem shF.cel {S : zS} {k : Nat} {f : pF} (h : 108 ≤ k ∧ k ≤ 112) : shF S (zc S k f) := ⟨fun j _ b => zc_ne _ _ (by omega), fun i _ => by rw [zc_ne _ _ (by omega)]⟩
theorem shF.toC {S S' : zS} (h : shF S S') : oC S S' := fun j hj => h.1 j (by omega) (by omega)
theorem mK_sh {S' : zS} {fo' le' it' : pF} {la' : Int32} (hK : mK (t0, t1, g, c, ro, jo, fr, se, fo, le, it, la) S) (ho : shF S S') (hS : mSh fo' le' it' la' S') (hw : wSh fo' le') : mK (t0, t1, g, c, ro, jo, fr, se, fo', le', it', la') S' := by
  obtain ⟨h1, h2, -, ⟨h4, h5⟩, ⟨h6, h7⟩, h8, h9, h10, h11, -⟩ := hK
  obtain ⟨n1, n2⟩ := ho
  exact ⟨h1, h2, hw, ⟨h4.keep (n1 _ (by omega) (by omega)) (n1 _ (by omega) (by omega)), h5.keep (n1 _ (by omega) (by omega)) (n1 _ (by omega) (by omega))⟩, ⟨by rw [n2 _ (by omega)]; exact h6, by rw [n2 _ (by omega)]; exact h7⟩, h8.keep (n1 _ (by omega) (by omega)) (n1 _ (by omega) (by omega)) (n1 _ (by omega) (by omega)) (n2 _ (by omega)), h9.keep (n1 _ (by omega) (by omega)) (n1 _ (by omega) (by omega)) (n1 _ (by omega) (by omega)) (n2 _ (by omega)), h10.keep (n1 _ (by omega) (by omega)) (n2 _ (by omega)), h11.keep (n1 _ (by omega) (by omega)) (n1 _ (by omega) (by omega)) (n1 _ (by omega) (by omega)) (n2 _ (by omega)), hS⟩
theorem mK.s (hK : mK (t0, t1, g, c, ro, jo, fr, se, fo, le, it, la) S) : mSh fo le it la S := hK.2.2.2.2.2.2.2.2.2
theorem mK.w (hK : mK (t0, t1, g, c, ro, jo, fr, se, fo, le, it, la) S) : wSh fo le := hK.2.2.1
theorem fnd_m' {k : Int32} (hK : mK (t0, t1, g, c, ro, jo, fr, se, fo, le, it, la) S) {S1 : zS} (e1 : S1 = zc S 72 (upd (S 72) 55 k)) : mK (t0, t1, g, c, ro, jo, fr, se, fo, le, it, k) S1 ∧ oC S S1 := by
  have o1 : ∀ j, j ≠ 72 → S1 j = S j := fun j hj => by rw [e1, zc_ne _ _ hj]
  have ho : shF S S1 := ⟨fun j a _ => o1 j a, fun i hi => by rw [e1, zc_eq, upd, if_neg hi]⟩
  obtain ⟨a, b, d⟩ := hK.s
  exact ⟨mK_sh hK ho ⟨fun s hs => by rw [o1 108 (by omega), o1 109 (by omega), o1 110 (by omega)]; exact a s hs, fun i hi => by rw [o1 111 (by omega)]; exact b i hi, by rw [e1, zc_eq, upd, if_pos rfl]⟩ hK.w, ho.toC⟩
theorem fnd_m {k : Int32} (hK : mK (t0, t1, g, c, ro, jo, fr, se, fo, le, it, la) S) (h : ∀ S', mK (t0, t1, g, c, ro, jo, fr, se, fo, le, it, k) S' → oC S S' → P (-10 - k) S' L) : zCi mX11_meets S L [.ref 72, .int k] P :=
  e_X11_meets (fun X => b_X11_meets_0 (fun S1 e1 => h S1 (fnd_m' hK e1).1 (fnd_m' hK e1).2))
theorem m60 {s k : Nat} : (60 : Int32) * nI s + nI k = nI (60 * s + k) := by rw [show (60 : Int32) = nI 60 by decide, pk_mul, nI_add]
theorem nb1 : vp_nar .boolean (1 : Int32) = 1 := by decide
theorem nb0 : vp_nar .boolean (0 : Int32) = 0 := by decide
theorem lost_i {s : Nat} (hS : mSh fo le it la S) (hs : s < 4) : S 108 s = 0 ↔ fo s = -1 := by
  rw [(hS.1 s hs).1]
  constructor
  · intro z
    rcases Decidable.em (fo s = -1) with y | y
    · exact y
    · rw [if_neg y] at z; exact absurd z (by decide)
  · intro z; rw [if_pos z]
theorem msheet_l {X : Nat × (Nat → Int32)} {s : Nat} {n : Int32} (hs : s < 4) : ∀ (d i : Nat) (S : zS), i + d = 60 → (∀ S', (∀ j, 60 * s + i ≤ j → j < 60 * s + 60 → S' 111 j = 0) → (∀ j, j < 60 * s + i ∨ 60 * s + 60 ≤ j → S' 111 j = S 111 j) → (∀ j, j ≠ 111 → S' j = S j) → P n S' L) → zU mX11_sheet X S L 59 [some (.ref 72), some (.int (nI s)), none, some (.int n), some (.int (nI i))] [] (zpi P) := by
  intro d
  induction d with
  | zero =>
    intro i S hd h
    have : i = 60 := by omega
    subst this
    exact b_X11_sheet_59 ⟨fun _ => h S (fun j a b => by omega) (fun _ _ => rfl) (fun _ _ => rfl), fun z => absurd (by decide) z⟩
  | succ d ih =>
    intro i S hd h
    refine b_X11_sheet_59 ⟨fun z => absurd z (nI_ge (b := 60) (by omega) (by omega)), fun _ => ?_⟩
    rw [m60, cl_nI (by omega)]
    refine ⟨vp_in_nI (by omega) (by omega), fun S1 e1 x1 ex1 => ?_⟩
    rw [ex1, nI_1]
    refine ih (i + 1) S1 (by omega) (fun S' k1 k2 o => h S' (fun j a b => ?_) (fun j hj => ?_) (fun j hj => by rw [o j hj, e1, zc_ne _ _ hj]))
    · by_cases hj : j = 60 * s + i
      · rw [k2 j (by omega), e1, zc_eq, upd, if_pos hj]
      · exact k1 j (by omega) b
    · rw [k2 j (by omega), e1, zc_eq, upd, if_neg (by omega)]
theorem sheet_m {s f n : Int32} (hK : mK (t0, t1, g, c, ro, jo, fr, se, fo, le, it, la) S) (h : ∀ S', mK (uSheet s f n (t0, t1, g, c, ro, jo, fr, se, fo, le, it, la)).2 S' → oC S S' → P (uSheet s f n (t0, t1, g, c, ro, jo, fr, se, fo, le, it, la)).1 S' L) : zCi mX11_sheet S L [.ref 72, .int s, .int f, .int n] P := by
  simp only [uSheet, uFnd] at h
  refine e_X11_sheet (fun X => b_X11_sheet_0 ⟨fun q1 => ⟨fun q2 => ⟨fun q3 => ⟨fun q4 => ?_, fun q4 => ?_⟩, fun z => ?_⟩, fun z => ?_⟩, fun z => ?_⟩)
  · rw [if_pos ⟨q1, q2, q3⟩, if_pos q4] at h
    obtain ⟨s, hs, rfl⟩ := rng_lit (n := 3) rfl (by omega) q1
    obtain ⟨n, hn, rfl⟩ := rng_lit (n := 60) rfl (by omega) ⟨q4, q3⟩
    rw [cl_nI (by omega)] at h ⊢
    rw [nb1]
    have hf2 : f = 0 ∨ f = 1 ∨ f = 2 := by
      obtain ⟨f, hf, rfl⟩ := rng_lit (n := 2) rfl (by omega) q2
      have : f = 0 ∨ f = 1 ∨ f = 2 := by omega
      rcases this with rfl | rfl | rfl
      · exact Or.inl rfl
      · exact Or.inr (Or.inl rfl)
      · exact Or.inr (Or.inr rfl)
    have hfn : ¬ f = -1 := by rcases hf2 with rfl | rfl | rfl <;> decide
    refine ⟨vp_in_nI (by omega) (by omega), fun S1 e1 => ⟨vp_in_nI (by omega) (by omega), fun S2 e2 => ⟨vp_in_nI (by omega) (by omega), fun S3 e3 => ?_⟩⟩⟩
    refine msheet_l (by omega) 60 0 S3 (by omega) (fun S' k1 k2 o => ?_)
    have n3 : ∀ j, j ≠ 108 → j ≠ 109 → j ≠ 110 → S3 j = S j := fun j p q r => by rw [e3, zc_ne _ _ r, e2, zc_ne _ _ q, e1, zc_ne _ _ p]
    have h108 : S' 108 = upd (S 108) s 1 := by rw [o 108 (by omega), e3, zc_ne _ _ (by omega), e2, zc_ne _ _ (by omega), e1, zc_eq]
    have h109 : S' 109 = upd (S 109) s f := by rw [o 109 (by omega), e3, zc_ne _ _ (by omega), e2, zc_eq, e1, zc_ne _ _ (by omega)]
    have h110 : S' 110 = upd (S 110) s (nI n) := by rw [o 110 (by omega), e3, zc_eq, e2, zc_ne _ _ (by omega), e1, zc_ne _ _ (by omega)]
    have ho : shF S S' := ⟨fun j a b => by rw [o j (by omega), n3 j (by omega) (by omega) (by omega)], fun i _ => by rw [o 72 (by omega), n3 72 (by omega) (by omega) (by omega)]⟩
    refine h S' (mK_sh hK ho ⟨fun q hq => ?_, fun q hq => ?_, by rw [o 72 (by omega), n3 72 (by omega) (by omega) (by omega)]; exact hK.s.2.2⟩ ?_) ho.toC
    · rw [h108, h109, h110]
      by_cases hqs : q = s
      · subst hqs
        rw [pk_us, pk_us, pk_us, pk_us, pk_us, if_neg hfn]
        exact ⟨rfl, fun _ => rfl, rfl⟩
      · rw [pk_un hqs, pk_un hqs, pk_un hqs, pk_un hqs, pk_un hqs]; exact hK.s.1 q hq
    · unfold sClr
      split
      · exact k1 q (by omega) (by omega)
      · rw [k2 q (by omega), n3 111 (by omega) (by omega) (by omega)]; exact hK.s.2.1 q hq
    · intro q hq
      simp only [upd]
      by_cases hqs : q = s
      · rw [if_pos hqs, if_pos hqs]; exact ⟨Or.inr hf2, ⟨n, hn, rfl⟩⟩
      · rw [if_neg hqs, if_neg hqs]; exact hK.w q hq
  · rw [if_pos ⟨q1, q2, q3⟩, if_neg q4] at h; exact fnd_m hK h
  · rw [if_neg (fun y => z y.2.2)] at h; exact h S hK oC.rf
  · rw [if_neg (fun y => z y.2.1)] at h; exact h S hK oC.rf
  · rw [if_neg (fun y => z y.1)] at h; exact h S hK oC.rf
theorem lose_m {s : Int32} (hK : mK (t0, t1, g, c, ro, jo, fr, se, fo, le, it, la) S) (h : ∀ S', mK (uLose s (t0, t1, g, c, ro, jo, fr, se, fo, le, it, la)).2 S' → oC S S' → P (uLose s (t0, t1, g, c, ro, jo, fr, se, fo, le, it, la)).1 S' L) : zCi mX11_lose S L [.ref 72, .int s] P := by
  simp only [uLose, uFnd] at h
  refine e_X11_lose (fun X => b_X11_lose_0 ⟨fun q1 => ?_, fun z => ?_⟩)
  · rw [if_pos q1] at h
    obtain ⟨s, hs, rfl⟩ := rng_lit (n := 3) rfl (by omega) q1
    rw [cl_nI (by omega)] at h ⊢
    have li := lost_i hK.s (show s < 4 by omega)
    rw [nb0]
    refine ⟨vp_in_nI (by omega) (by omega), fun z => ⟨vp_in_nI (by omega) (by omega), fun S1 e1 => ⟨vp_in_nI (by omega) (by omega), ?_⟩⟩, fun z => ?_⟩
    · rw [if_neg (fun y => z (li.mpr y))] at h
      have o1 : ∀ j, j ≠ 108 → S1 j = S j := fun j hj => by rw [e1, zc_ne _ _ hj]
      rw [o1 110 (by omega), (hK.s.1 s (by omega)).2.2]
      have ho : shF S S1 := by rw [e1]; exact shF.cel (by omega)
      refine h S1 (mK_sh hK ho ⟨fun q hq => ?_, fun q hq => by rw [o1 111 (by omega)]; exact hK.s.2.1 q hq, by rw [o1 72 (by omega)]; exact hK.s.2.2⟩ ?_) ho.toC
      · rw [o1 109 (by omega), o1 110 (by omega), e1, zc_eq]
        by_cases hqs : q = s
        · subst hqs
          rw [pk_us, pk_us, if_pos rfl]
          exact ⟨rfl, fun y => absurd rfl y, (hK.s.1 q hq).2.2⟩
        · rw [pk_un hqs, pk_un hqs]; exact hK.s.1 q hq
      · intro q hq
        simp only [upd]
        by_cases hqs : q = s
        · rw [if_pos hqs]; exact ⟨Or.inl rfl, (hK.w q hq).2⟩
        · rw [if_neg hqs]; exact hK.w q hq
    · rw [if_pos (li.mp z)] at h; exact fnd_m hK h
  · rw [if_neg z] at h; exact h S hK oC.rf
theorem lacks_s {s : Nat} {f i : Int32} (hS : mSh fo le it la S) (hs : s < 4) (h : P (sFa fo le s f i) S L) : zCi mX11_lacks S L [.ref 72, .int (nI s), .int f, .int i] P := by
  refine e_X11_lacks (fun X => b_X11_lacks_0 ?_)
  have li := lost_i hS hs
  unfold sFa at h
  rw [cl_nI (by omega), (hS.1 s hs).2.2]
  refine ⟨vp_in_nI hs (by omega), fun z => ?_, fun z => ?_⟩
  · have hn : ¬ fo s = -1 := fun y => z (li.mpr y)
    rw [if_neg hn] at h
    rw [(hS.1 s hs).2.1 hn]
    have hl : sLn fo le s = le s := by unfold sLn; rw [if_neg hn]
    refine ⟨vp_in_nI hs (by omega), fun z1 => ⟨vp_in_nI hs (by omega), fun z2 => ?_, fun z2 => ?_⟩, fun z1 => ?_⟩
    · rw [if_pos z1, if_pos ⟨i32_nlt z2.1, by decide, by rw [hl]; exact i32_nlt z2.2⟩] at h; exact h
    · rw [if_pos z1, if_neg (fun y => z2 ⟨i32_le y.1, i32_le (by rw [← hl]; exact y.2.2)⟩)] at h; exact h
    · rw [if_neg z1] at h; exact h
  · rw [if_pos (li.mp z)] at h; exact h
theorem keep_s {s k : Nat} {v : Int32} {Q : zS → zL → Prop} (hS : mSh fo le it la S) (hs : s < 4) (hk : k < 60) (hn : ¬ fo s = -1) (h : ∀ S', mSh fo le (upd it (60 * s + k) (sNr (fo s) v)) la S' → (∀ j, j ≠ 111 → S' j = S j) → Q S' L) : zCv mX11_keep S L [.ref 72, .int (nI s), .int (nI k), .int v] Q := by
  have go : ∀ S2 x, x = sNr (fo s) v → S2 = zc S 111 (upd (S 111) (60 * s + k) x) → Q S2 L := by
    intro S2 x hx e2
    have o2 : ∀ j, j ≠ 111 → S2 j = S j := fun j hj => by rw [e2, zc_ne _ _ hj]
    refine h S2 ⟨fun q hq => by rw [o2 108 (by omega), o2 109 (by omega), o2 110 (by omega)]; exact hS.1 q hq, fun q hq => ?_, by rw [o2 72 (by omega)]; exact hS.2.2⟩ o2
    rw [e2, zc_eq, ← hx]
    simp only [upd]
    split
    · rfl
    · exact hS.2.1 q hq
  refine e_X11_keep (fun X => b_X11_keep_0 ?_)
  rw [m60, cl_nI (by omega), cl_nI (by omega), (hS.1 s hs).2.1 hn]
  unfold sNr at go
  refine ⟨vp_in_nI hs (by omega), fun z0 => ⟨vp_in_nI hs (by omega), fun z1 => ⟨vp_in_nI (by omega) (by omega), fun S2 e2 => go S2 _ ?_ e2⟩, fun z1 => ⟨vp_in_nI (by omega) (by omega), fun S2 e2 => go S2 _ ?_ e2⟩⟩, fun z0 => ⟨vp_in_nI (by omega) (by omega), fun S2 e2 => go S2 _ ?_ e2⟩⟩
  · rw [if_neg z0, if_neg z1]
  · rw [if_neg z0, if_pos z1]
  · rw [if_pos z0]
theorem sFa_v {s : Nat} {f i : Int32} : sFa fo le s f i = 0 ∨ sFa fo le s f i = 1 ∨ sFa fo le s f i = 2 ∨ sFa fo le s f i = 3 := by
  unfold sFa
  split
  · exact Or.inr (Or.inl rfl)
  · split
    · split
      · exact Or.inl rfl
      · exact Or.inr (Or.inr (Or.inl rfl))
    · exact Or.inr (Or.inr (Or.inr rfl))
theorem sFa_le {s : Nat} {f i : Int32} : sFa fo le s f i ≤ 0 ↔ sFa fo le s f i = 0 := by
  rcases sFa_v (fo := fo) (le := le) (s := s) (f := f) (i := i) with h | h | h | h <;> rw [h] <;> decide
theorem sFa_f {s : Nat} {f i : Int32} (h : sFa fo le s f i = 0) : ¬ fo s = -1 := by
  intro y
  unfold sFa at h
  rw [if_pos y] at h
  exact absurd h (by decide)
theorem ho_1 {s : Nat} {i : Int32} (hs : s < 4) (hw : wSh fo le) (hh : sHo fo le s i 1) : ∃ k, i = nI k ∧ k < 60 := by
  obtain ⟨k, m, rfl, hm, hkm, h60⟩ := sHo_ix hs hw hh
  have hm1 : m = 1 := by
    have : (1 : Int32).toNatClampNeg = m := by rw [hm, nI_clamp (by omega)]
    have : (1 : Int32).toNatClampNeg = 1 := rfl
    omega
  exact ⟨k, rfl, by omega⟩
theorem put_m {s f i v : Int32} (hK : mK (t0, t1, g, c, ro, jo, fr, se, fo, le, it, la) S) (h : ∀ S', mK (uPut s f i v (t0, t1, g, c, ro, jo, fr, se, fo, le, it, la)).2 S' → oC S S' → P (uPut s f i v (t0, t1, g, c, ro, jo, fr, se, fo, le, it, la)).1 S' L) : zCi mX11_put S L [.ref 72, .int s, .int f, .int i, .int v] P := by
  simp only [uPut, uFnd] at h
  refine e_X11_put (fun X => b_X11_put_0 ⟨fun q1 => ⟨fun q2 => ?_, fun z => ?_⟩, fun z => ?_⟩)
  · rw [if_pos ⟨q1, q2⟩] at h
    obtain ⟨s, hs, rfl⟩ := rng_lit (n := 3) rfl (by omega) q1
    rw [cl_nI (by omega)] at h
    refine lacks_s hK.s (by omega) ⟨fun z => ?_, fun z => ?_⟩
    · have z := sFa_le.mp z
      rw [if_pos z] at h
      obtain ⟨k, rfl, hk⟩ := ho_1 (by omega) hK.w (sFa0 z)
      rw [cl_nI (by omega)] at h
      exact keep_s hK.s (by omega) hk (sFa_f z) (fun S' hS' o => h S' (mK_sh hK ⟨fun j _ b => o j (by omega), fun i _ => by rw [o 72 (by omega)]⟩ hS' hK.w) (fun j hj => o j (by omega)))
    · rw [if_neg (fun y => z (sFa_le.mpr y))] at h; exact fnd_m hK h
  · rw [if_neg (fun y => z y.2)] at h; exact h S hK oC.rf
  · rw [if_neg (fun y => z y.1)] at h; exact h S hK oC.rf
theorem get_m {s f i : Int32} (hK : mK (t0, t1, g, c, ro, jo, fr, se, fo, le, it, la) S) (h : ∀ S', mK (uGet s f i (t0, t1, g, c, ro, jo, fr, se, fo, le, it, la)).2 S' → oC S S' → P (uGet s f i (t0, t1, g, c, ro, jo, fr, se, fo, le, it, la)).1 S' L) : zCi mX11_get S L [.ref 72, .int s, .int f, .int i] P := by
  simp only [uGet] at h
  refine e_X11_get (fun X => b_X11_get_0 ⟨fun q1 => ⟨fun q2 => ?_, fun z => ?_⟩, fun z => ?_⟩)
  · rw [if_pos ⟨q1, q2⟩] at h
    obtain ⟨s, hs, rfl⟩ := rng_lit (n := 3) rfl (by omega) q1
    rw [cl_nI (by omega)] at h
    refine lacks_s hK.s (by omega) ⟨fun z => ?_, fun z S1 e1 => ?_⟩
    · have z := sFa_le.mp z
      rw [if_pos z] at h
      obtain ⟨k, rfl, hk⟩ := ho_1 (by omega) hK.w (sFa0 z)
      rw [cl_nI (by omega)] at h
      rw [m60, cl_nI (by omega), hK.s.2.1 _ (by omega)]
      exact ⟨vp_in_nI (by omega) (by omega), h S hK oC.rf⟩
    · rw [if_neg (fun y => z (sFa_le.mpr y))] at h
      exact h S1 (fnd_m' hK e1).1 (fnd_m' hK e1).2
  · rw [if_neg (fun y => z y.2)] at h; exact h S hK oC.rf
  · rw [if_neg (fun y => z y.1)] at h; exact h S hK oC.rf
theorem cmp_pos {x y : Int64} : (0 : Int32) < lg_cmp x y ↔ y < x := by
  unfold lg_cmp
  split
  · rename_i h; exact ⟨fun _ => h, fun _ => by decide⟩
  · rename_i h
    split
    · exact ⟨fun z => absurd z (by decide), fun z => absurd z h⟩
    · exact ⟨fun z => absurd z (by decide), fun z => absurd z h⟩
theorem cmp_le0 {x y : Int64} : lg_cmp x y ≤ (0 : Int32) ↔ ¬ y < x := by
  rw [← cmp_pos]; exact ⟨fun z => i32_nlt z, fun z => i32_le z⟩
/-- room, as long numbers have it -/
theorem room_i {s : Nat} {i n : Int32} (hs : s < 4) (hw : wSh fo le) (hn : ¬ fo s = -1) (h1 : ¬ i < 0) (h2 : ¬ n < 0) : (le s).toInt64 < i.toInt64 + n.toInt64 ↔ ¬ sHo fo le s i n := by
  obtain ⟨k, hk, rfl⟩ := nI_of h1
  obtain ⟨m, hm, rfl⟩ := nI_of h2
  obtain ⟨a, ha, hae⟩ := (hw s hs).2
  have hl : sLn fo le s = nI a := by unfold sLn; rw [if_neg hn, hae]
  rw [hae, nI_l (by omega), nI_l hk, nI_l hm, lN_add, pk_lLT (by omega) (by omega)]
  have e : (nI a - nI m).toInt = (a : Int) - m := by
    have e1 := nI_toInt (n := a) (by omega)
    have e2 := nI_toInt (n := m) hm
    rw [i_sub (by omega) (by omega), e1, e2]
  have e3 : nI a - nI m < nI k ↔ a < k + m := by
    rw [Int32.lt_iff_toInt_lt, e, nI_toInt hk]; omega
  unfold sHo
  rw [hl, e3]
  constructor
  · intro z y; exact y.2.2 z
  · intro z
    rcases Decidable.em (a < k + m) with y | y
    · exact y
    · exact absurd ⟨nI_pos hk, nI_pos hm, y⟩ z
theorem copy1_l {X : Nat × (Nat → Int32)} {s t i j n : Nat} (hs : s < 4) (hin : i + n ≤ 60) : ∀ (d k : Nat) (S : zS), k + d = n → (∀ q, q < k → S 112 q = S 111 (60 * s + i + q)) → (∀ S', (∀ q, q < n → S' 112 q = S' 111 (60 * s + i + q)) → (∀ j, j ≠ 112 → S' j = S j) → zU mX11_copy X S' L 157 [some (.ref 72), none, none, some (.int (nI t)), some (.int (nI j)), some (.int (nI n)), some (.int (0 : Int32))] [] (zpi P)) → zU mX11_copy X S L 120 [some (.ref 72), some (.int (nI s)), some (.int (nI i)), some (.int (nI t)), some (.int (nI j)), some (.int (nI n)), some (.int (nI k))] [] (zpi P) := by
  intro d
  induction d with
  | zero =>
    intro k S hd hm K
    have : k = n := by omega
    subst this
    exact b_X11_copy_120 ⟨fun _ => K S hm (fun _ _ => rfl), fun z => absurd (nI_le (Nat.le_refl _) (by omega)) z⟩
  | succ d ih =>
    intro k S hd hm K
    refine b_X11_copy_120 ⟨fun z => absurd z (nI_ge (by omega) (by omega)), fun _ => ?_⟩
    rw [m60, nI_add, cl_nI (by omega), cl_nI (by omega)]
    refine ⟨vp_in_nI (by omega) (by omega), vp_in_nI (by omega) (by omega), fun S1 e1 x1 ex1 => ?_⟩
    rw [ex1, nI_1]
    have o1 : ∀ j, j ≠ 112 → S1 j = S j := fun j hj => by rw [e1, zc_ne _ _ hj]
    refine ih (k + 1) S1 (by omega) (fun q hq => ?_) (fun S' a b => K S' a (fun j hj => (b j hj).trans (o1 j hj)))
    rw [o1 111 (by omega), e1, zc_eq]
    by_cases hqk : q = k
    · subst hqk; simp [upd]
    · rw [upd, if_neg hqk]; exact hm q (by omega)
theorem copy2_l {X : Nat × (Nat → Int32)} {t j n : Nat} {W : Nat → Int32} (ht : t < 4) (hjn : j + n ≤ 60) : ∀ (d k : Nat) (S : zS), k + d = n → (∀ q, q < n → S 112 q = W q) → (∀ S', (∀ q, q < k ∨ n ≤ q → S' 111 (60 * t + j + q) = S 111 (60 * t + j + q)) → (∀ q, k ≤ q → q < n → S' 111 (60 * t + j + q) = W q) → (∀ q, q < 60 * t + j → S' 111 q = S 111 q) → (∀ j, j ≠ 111 → S' j = S j) → P 1 S' L) → zU mX11_copy X S L 157 [some (.ref 72), none, none, some (.int (nI t)), some (.int (nI j)), some (.int (nI n)), some (.int (nI k))] [] (zpi P) := by
  intro d
  induction d with
  | zero =>
    intro k S hd hm K
    have : k = n := by omega
    subst this
    exact b_X11_copy_157 ⟨fun _ => K S (fun _ _ => rfl) (fun q a b => by omega) (fun _ _ => rfl) (fun _ _ => rfl), fun z => absurd (nI_le (Nat.le_refl _) (by omega)) z⟩
  | succ d ih =>
    intro k S hd hm K
    refine b_X11_copy_157 ⟨fun z => absurd z (nI_ge (by omega) (by omega)), fun _ => ?_⟩
    rw [m60, nI_add, cl_nI (by omega), cl_nI (by omega)]
    refine ⟨vp_in_nI (by omega) (by omega), vp_in_nI (by omega) (by omega), fun S1 e1 x1 ex1 => ?_⟩
    rw [ex1, nI_1]
    have o1 : ∀ j, j ≠ 111 → S1 j = S j := fun j hj => by rw [e1, zc_ne _ _ hj]
    have a1 : ∀ q, q ≠ 60 * t + j + k → S1 111 q = S 111 q := fun q hq => by rw [e1, zc_eq, upd, if_neg hq]
    refine ih (k + 1) S1 (by omega) (fun q hq => by rw [o1 112 (by omega)]; exact hm q hq) (fun S' k1 k2 k3 k4 => K S' (fun q hq => ?_) (fun q a b => ?_) (fun q hq => ?_) (fun j hj => (k4 j hj).trans (o1 j hj)))
    · rw [k1 q (by omega), a1 _ (by omega)]
    · by_cases hqk : q = k
      · subst hqk
        rw [k1 q (by omega), e1, zc_eq, upd, if_pos rfl]; exact hm q b
      · exact k2 q (by omega) b
    · rw [k3 q hq, a1 _ (by omega)]
theorem copy_m {s i t j n : Int32} (hK : mK (t0, t1, g, c, ro, jo, fr, se, fo, le, it, la) S) (h : ∀ S', mK (uCopy s i t j n (t0, t1, g, c, ro, jo, fr, se, fo, le, it, la)).2 S' → oC S S' → P (uCopy s i t j n (t0, t1, g, c, ro, jo, fr, se, fo, le, it, la)).1 S' L) : zCi mX11_copy S L [.ref 72, .int s, .int i, .int t, .int j, .int n] P := by
  simp only [uCopy, uFnd] at h
  have hS := hK.s
  refine e_X11_copy (fun X => b_X11_copy_0 ⟨fun q1 => ⟨fun q2 => ?_, fun z => ?_⟩, fun z => ?_⟩)
  · rw [if_pos ⟨q1, q2⟩] at h
    obtain ⟨s, hs, rfl⟩ := rng_lit (n := 3) rfl (by omega) q1
    obtain ⟨t, ht, rfl⟩ := rng_lit (n := 3) rfl (by omega) q2
    rw [cl_nI (n := s) (by omega), cl_nI (n := t) (by omega)] at h ⊢
    have l1 := lost_i hS (show s < 4 by omega)
    have l2 := lost_i hS (show t < 4 by omega)
    have vs : vp_in (nI s) 4 := vp_in_nI (by omega) (by omega)
    have vt : vp_in (nI t) 4 := vp_in_nI (by omega) (by omega)
    refine ⟨vs, fun z => ?_, fun z => ⟨vt, fun z2 => ⟨vs, vt, ?_⟩, fun z2 => ?_⟩⟩
    · rw [if_pos (Or.inl (l1.mp z))] at h; exact fnd_m hK h
    · have n1 : ¬ fo s = -1 := fun y => z (l1.mpr y)
      have n2 : ¬ fo t = -1 := fun y => z2 (l2.mpr y)
      rw [if_neg (fun y => y.elim n1 n2)] at h
      rw [(hS.1 s (by omega)).2.1 n1, (hS.1 t (by omega)).2.1 n2, (hS.1 s (by omega)).2.2, (hS.1 t (by omega)).2.2]
      refine ⟨fun z3 => ?_, fun z3 => ?_⟩
      · rw [if_pos z3] at h
        refine ⟨fun y => ?_, fun y1 => ⟨fun y => ?_, fun y2 => ⟨fun y => ?_, fun y3 => ⟨vs, fun y => ?_, fun y4 => ⟨vt, fun y5 => ?_, fun y => ?_⟩⟩⟩⟩⟩
        · rw [if_neg (fun w => w.1.1 y)] at h; exact fnd_m hK h
        · rw [if_neg (fun w => w.2.1 y)] at h; exact fnd_m hK h
        · rw [if_neg (fun w => w.1.2.1 y)] at h; exact fnd_m hK h
        · rw [if_neg (fun w => (room_i (by omega) hK.w n1 y1 y3).mp (cmp_pos.mp y) w.1)] at h; exact fnd_m hK h
        · have w1 : sHo fo le s i n := by
            rcases Decidable.em (sHo fo le s i n) with w | w
            · exact w
            · exact absurd (cmp_pos.mpr ((room_i (by omega) hK.w n1 y1 y3).mpr w)) y4
          have w2 : sHo fo le t j n := by
            rcases Decidable.em (sHo fo le t j n) with w | w
            · exact w
            · exact absurd ((room_i (by omega) hK.w n2 y2 y3).mpr w) (cmp_le0.mp y5)
          rw [if_pos ⟨w1, w2⟩] at h
          obtain ⟨k, m, rfl, rfl, hkm, h60⟩ := sHo_ix (by omega) hK.w w1
          obtain ⟨k2, m2, rfl, hm2, hkm2, h602⟩ := sHo_ix (by omega) hK.w w2
          have hmm : m2 = m := by
            have : (nI m).toNatClampNeg = m2 := by rw [hm2, nI_clamp (by omega)]
            rw [cl_nI (by omega)] at this; omega
          subst hmm
          rw [cl_nI (n := k) (by omega), cl_nI (n := k2) (by omega), cl_nI (n := m2) (by omega)] at h
          refine copy1_l (by omega) (by omega) m2 0 S (by omega) (fun q hq => absurd hq (Nat.not_lt_zero _)) (fun S1 a1 b1 => ?_)
          refine copy2_l (W := fun q => it (60 * s + k + q)) (by omega) (by omega) m2 0 S1 (by omega) (fun q hq => ?_) (fun S2 d1 d2 d3 d4 => ?_)
          · rw [a1 q hq, b1 111 (by omega)]; exact hS.2.1 _ (by omega)
          · have oo : ∀ j, j ≠ 111 → j ≠ 112 → S2 j = S j := fun j p q => (d4 j p).trans (b1 j q)
            have ho : shF S S2 := ⟨fun j p q => oo j (by omega) (by omega), fun i _ => by rw [oo 72 (by omega) (by omega)]⟩
            refine h S2 (mK_sh hK ho ⟨fun q hq => by rw [oo 108 (by omega) (by omega), oo 109 (by omega) (by omega), oo 110 (by omega) (by omega)]; exact hS.1 q hq, fun q hq => ?_, by rw [oo 72 (by omega) (by omega)]; exact hS.2.2⟩ hK.w) ho.toC
            rw [cpy_at]
            by_cases hq1 : q < 60 * t + k2
            · rw [if_neg (by omega), d3 q hq1, b1 111 (by omega)]; exact hS.2.1 q hq
            · obtain ⟨r, rfl⟩ : ∃ r, q = 60 * t + k2 + r := ⟨q - (60 * t + k2), by omega⟩
              by_cases hr : r < m2
              · rw [if_pos (by omega), d2 r (by omega) hr, show 60 * s + k + (60 * t + k2 + r - (60 * t + k2)) = 60 * s + k + r by omega]
              · rw [if_neg (by omega), d1 r (by omega), b1 111 (by omega)]; exact hS.2.1 _ hq
        · rw [if_neg (fun w => y (cmp_le0.mpr (fun v => (room_i (by omega) hK.w n2 y2 y3).mp v w.2)))] at h; exact fnd_m hK h
      · rw [if_neg z3] at h; exact fnd_m hK h
    · rw [if_pos (Or.inr (l2.mp z2))] at h; exact fnd_m hK h
  · rw [if_neg (fun y => z y.2)] at h; exact h S hK oC.rf
  · rw [if_neg (fun y => z y.1)] at h; exact h S hK oC.rf
theorem mwrite_l {X : Nat × (Nat → Int32)} {S0 : zS} {s p a : Nat} {W : Nat → Int32} (hs : s < 4) (hp : p < 8) (hf : ¬ fo s = -1) (ha : a ≤ 60) (hae : le s = nI a) (h95 : ∀ m, m < 24 → S0 95 (8 * m + p) = W m) (h : ∀ S', mSh fo le (sWr it s (fo s) W (min a 24)) la S' → (∀ j, j ≠ 111 → S' j = S0 j) → P (nI (min a 24)) S' L) : ∀ (d k : Nat) (S : zS), k + d = min a 24 → mSh fo le (sWr it s (fo s) W k) la S → (∀ j, j ≠ 111 → S j = S0 j) → zU mX11_write X S L 39 [some (.ref 72), some (.int (nI p)), some (.int (nI s)), some (.int (nI k))] [] (zpi P) := by
  intro d
  induction d with
  | zero =>
    intro k S hd hS o
    have hk : k = min a 24 := by omega
    have hP := h S (by rw [← hk]; exact hS) o
    rw [← hk] at hP
    refine b_X11_write_39 ?_
    rw [cl_nI (n := s) (by omega), (hS.1 s hs).2.2, hae]
    refine ⟨vp_in_nI hs (by omega), fun _ => hP, fun z => ⟨fun _ => hP, fun z2 => ?_⟩⟩
    have h1 : k < a := by
      rcases Nat.lt_or_ge k a with y | y
      · exact y
      · exact absurd (nI_le y (by omega)) z
    have h2 : k < 24 := by
      rcases Nat.lt_or_ge k 24 with y | y
      · exact y
      · exact absurd (nI_le (a := 24) y (by omega)) z2
    omega
  | succ d ih =>
    intro k S hd hS o
    have hk1 : k < a := by omega
    have hk2 : k < 24 := by omega
    refine b_X11_write_39 ?_
    rw [cl_nI (n := s) (by omega), (hS.1 s hs).2.2, hae, e8, cl_nI (n := 8 * k + p) (by omega), o 95 (by omega), h95 k hk2]
    refine ⟨vp_in_nI hs (by omega), fun z => absurd z (nI_ge hk1 (by omega)), fun _ => ⟨fun z => absurd z (nI_ge (b := 24) hk2 (by omega)), fun _ => ⟨vp_in_nI (by omega) (by omega), ?_⟩⟩⟩
    refine keep_s hS hs (by omega) hf (fun S' hS' o' x1 ex1 => ?_)
    rw [ex1, nI_1]
    rw [sWr_step hs] at hS'
    exact ih (k + 1) S' (by omega) hS' (fun j hj => (o' j hj).trans (o j hj))
theorem write_m {p s : Int32} (hK : mK (t0, t1, g, c, ro, jo, fr, se, fo, le, it, la) S) (h : ∀ S', mK (uWrite p s (t0, t1, g, c, ro, jo, fr, se, fo, le, it, la)).2 S' → oC S S' → P (uWrite p s (t0, t1, g, c, ro, jo, fr, se, fo, le, it, la)).1 S' L) : zCi mX11_write S L [.ref 72, .int p, .int s] P := by
  simp only [uWrite, uFnd] at h
  have hl := hK.lp
  refine e_X11_write (fun X => b_X11_write_0 (isPerson_m hK (fun S1 hK1 hT1 o1 => ⟨fun z => ?_, fun z => ⟨fun q2 => ?_, fun q2 => ?_⟩⟩)))
  · rw [if_neg (fun y => if01 z y.1)] at h; exact h S1 hK1 o1
  · rw [if_pos ⟨if11 z, q2⟩] at h
    obtain ⟨p, hp, rfl⟩ := rng_ix (by omega) (if11 z)
    obtain ⟨s, hs, rfl⟩ := rng_lit (n := 3) rfl (by omega) q2
    rw [cl_nI (n := p) (by omega), cl_nI (n := s) (by omega)] at h
    rw [cl_nI (by omega)]
    have li := lost_i hK1.s (show s < 4 by omega)
    refine ⟨vp_in_nI (by omega) (by omega), fun z2 => ?_, fun z2 => ?_⟩
    · have hf : ¬ fo s = -1 := fun y => z2 (li.mpr y)
      rw [if_neg hf] at h
      obtain ⟨a, ha, hae⟩ := (hK.w s (by omega)).2
      rw [hae, cl_nI (by omega)] at h
      refine runsTold_m hK1 (fun S2 hK2 hT2 n2 hZ hR => ?_)
      refine mwrite_l (S0 := S2) (W := fun m => (pCf (tL 0 t0) (tL 3 t1) ro jo fr g c (m + 1)).1 p) (by omega) (by omega) hf ha hae (fun m hm => ((hR m hm).1 p hp).1) (fun S' hS' o' => h S' (mK_sh hK2 ⟨fun j _ b => o' j (by omega), fun i _ => by rw [o' 72 (by omega)]⟩ hS' hK.w) ((o1.trans n2.c).trans (fun j hj => o' j (by omega)))) (min a 24) 0 S2 (by omega) ?_ (fun _ _ => rfl)
      rw [sWr_0]; exact hK2.s
    · rw [if_pos (li.mp z2)] at h
      exact fnd_m hK1 (fun S2 hK2 o2 => h S2 hK2 (o1.trans o2))
  · rw [if_neg (fun y => q2 y.2)] at h; exact h S1 hK1 o1
end MS
section MRD
variable {t0 t1 : List Int32} {g c : Int32} {jo fr se : List T3} {fo le it : pF} {la : Int32} {L : zL} {P : Int32 → zS → zL → Prop}
theorem uRound_v {ro : List T3} {m q p : Int32} (hr : ro.length ≤ 8) : (uRound m q p (t0, t1, g, c, ro, jo, fr, se, fo, le, it, la)).1 ≤ 0 ↔ (uRound m q p (t0, t1, g, c, ro, jo, fr, se, fo, le, it, la)).1 < 0 := by
  simp only [uRound]
  split
  · split
    · exact (by decide : (-4 : Int32) ≤ 0 ↔ (-4 : Int32) < 0)
    · constructor
      · intro z; exact absurd z (nI_nle (by omega) (by omega))
      · intro z; exact absurd z (nI_pos (by omega))
  · exact (by decide : (-2 : Int32) ≤ 0 ↔ (-2 : Int32) < 0)
theorem mread_l {X : Nat × (Nat → Int32)} {S0 : zS} {s a : Nat} (hs : s < 4) (ha : a ≤ 60) (hae : le s = nI a) : ∀ (k n : Nat) (ro : List T3) (S : zS), n + k = 20 → mK (t0, t1, g, c, ro, jo, fr, se, fo, le, it, la) S → oC S0 S → (∀ S', mK (uRdL it (60 * s) a k n (t0, t1, g, c, ro, jo, fr, se, fo, le, it, la)).2 S' → oC S0 S' → P (uRdL it (60 * s) a k n (t0, t1, g, c, ro, jo, fr, se, fo, le, it, la)).1 S' L) → zU mX11_read X S L 27 [some (.ref 72), some (.int (nI s)), some (.int (nI n))] [] (zpi P) := by
  have e3 : ∀ n, (3 : Int32) * nI n = nI (3 * n) := fun n => by rw [show (3 : Int32) = nI 3 by decide, pk_mul]
  have e2 : ∀ i, nI i + (2 : Int32) = nI (i + 2) := fun i => by rw [show (2 : Int32) = nI 2 by decide, nI_add]
  intro k
  induction k with
  | zero =>
    intro n ro S hk hK o h
    refine b_X11_read_27 ?_
    rw [cl_nI (n := s) (by omega), (hK.s.1 s hs).2.2, hae, e3, e2]
    rw [uRdL] at h
    exact ⟨vp_in_nI hs (by omega), fun _ => h S hK o, fun z => absurd (nI_le (by omega) (by omega)) z⟩
  | succ k ih =>
    intro n ro S hk hK o h
    refine b_X11_read_27 ?_
    rw [cl_nI (n := s) (by omega), (hK.s.1 s hs).2.2, hae, e3, e2, m60, nI_1, e2]
    rw [uRdL] at h
    refine ⟨vp_in_nI hs (by omega), fun z => ?_, fun z => ?_⟩
    · rw [if_neg (fun y => absurd z (nI_ge y (by omega)))] at h
      exact h S hK o
    · have hlt : 3 * n + 2 < a := by
        rcases Nat.lt_or_ge (3 * n + 2) a with y | y
        · exact y
        · exact absurd (nI_le y (by omega)) z
      rw [if_pos hlt] at h
      rw [cl_nI (n := 60 * s + 3 * n) (by omega), cl_nI (n := 60 * s + 3 * n + 1) (by omega), cl_nI (n := 60 * s + 3 * n + 2) (by omega), hK.s.2.1 _ (by omega), hK.s.2.1 _ (by omega), hK.s.2.1 _ (by omega)]
      refine ⟨vp_in_nI (by omega) (by omega), vp_in_nI (by omega) (by omega), vp_in_nI (by omega) (by omega), ?_⟩
      have uv := uRound_v (t0 := t0) (t1 := t1) (g := g) (c := c) (jo := jo) (fr := fr) (se := se) (fo := fo) (le := le) (it := it) (la := la) (m := it (60 * s + 3 * n)) (q := it (60 * s + 3 * n + 1)) (p := it (60 * s + 3 * n + 2)) hK.2.1.1.1
      obtain ⟨ro', hro⟩ := uRound_ex (t0 := t0) (t1 := t1) (g := g) (c := c) (ro := ro) (jo := jo) (fr := fr) (se := se) (fo := fo) (le := le) (it := it) (la := la) (m := it (60 * s + 3 * n)) (q := it (60 * s + 3 * n + 1)) (p := it (60 * s + 3 * n + 2))
      refine round_m hK (fun S1 hK1 o1 => ⟨fun z2 => ?_, fun z2 x1 ex1 => ?_⟩)
      · rw [if_pos (uv.mp z2)] at h
        exact h S1 hK1 (o.trans o1)
      · rw [if_neg (fun y => z2 (uv.mpr y)), hro] at h
        rw [hro] at hK1
        rw [ex1, nI_1]
        exact ih (n + 1) ro' S1 (by omega) hK1 (o.trans o1) h
theorem read_m {ro : List T3} {s : Int32} {S : zS} (hK : mK (t0, t1, g, c, ro, jo, fr, se, fo, le, it, la) S) (h : ∀ S', mK (uRead s (t0, t1, g, c, ro, jo, fr, se, fo, le, it, la)).2 S' → oC S S' → P (uRead s (t0, t1, g, c, ro, jo, fr, se, fo, le, it, la)).1 S' L) : zCi mX11_read S L [.ref 72, .int s] P := by
  simp only [uRead, uFnd] at h
  refine e_X11_read (fun X => b_X11_read_0 ⟨fun q1 => ?_, fun z => ?_⟩)
  · rw [if_pos q1] at h
    obtain ⟨s, hs, rfl⟩ := rng_lit (n := 3) rfl (by omega) q1
    rw [cl_nI (n := s) (by omega)] at h ⊢
    have li := lost_i hK.s (show s < 4 by omega)
    refine ⟨vp_in_nI (by omega) (by omega), fun z => ?_, fun z => ?_⟩
    · rw [if_neg (fun y => z (li.mpr y))] at h
      obtain ⟨a, ha, hae⟩ := (hK.w s (by omega)).2
      rw [hae, cl_nI (by omega)] at h
      exact mread_l (by omega) ha hae 20 0 ro S (by omega) hK oC.rf h
    · rw [if_pos (li.mp z)] at h; exact fnd_m hK h
  · rw [if_neg z] at h; exact h S hK oC.rf
end MRD
