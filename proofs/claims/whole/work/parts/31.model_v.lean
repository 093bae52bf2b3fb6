section MK
variable {pe de ro jo : List T3} {nd nr fb g c mo : Int32} {L : zL} {X : Nat × (Nat → Int32)} {P : zS → zL → Prop}
theorem e8 (m p : Nat) : (8 : Int32) * nI m + nI p = nI (8 * m + p) := by rw [show (8 : Int32) = nI 8 by decide, pk_mul, nI_add]
theorem e4 (m p : Nat) : (4 : Int32) * nI m + nI p = nI (4 * m + p) := by rw [show (4 : Int32) = nI 4 by decide, pk_mul, nI_add]
/-- half a month's rows -/
def mKp (S0 S : zS) (np m i : Nat) (s : pZ) : Prop := mH S0 S m ∧ (∀ p, p < i → S 95 (8 * m + p) = s.1 p ∧ S 96 (8 * m + p) = s.1 (8 + p) ∧ S 97 (8 * m + p) = s.1 (16 + p)) ∧ S 100 = S0 100 ∧ S 101 = S0 101 ∧ S 98 = S0 98 ∧ S 99 = S0 99 ∧ S 102 = S0 102
theorem mH.cel {S S' : zS} {m k i : Nat} {x : Int32} (h : mH S S' m) (hk : 95 ≤ k ∧ k ≤ 97) (hi : 8 * m ≤ i ∧ i < 8 * m + 8) : mH S (zc S' k (upd (S' k) i x)) m := by
  obtain ⟨h1, h2, h3, h4, h5, h6⟩ := h
  have o : ∀ j, j ≠ k → zc S' k (upd (S' k) i x) j = S' j := fun j hj => zc_ne _ _ hj
  have u : ∀ j q, (q < 8 * m ∨ 8 * m + 8 ≤ q) → zc S' k (upd (S' k) i x) j q = S' j q := by
    intro j q hq
    by_cases hj : j = k
    · subst hj; rw [zc_eq, upd, if_neg (by omega)]
    · rw [o j hj]
  refine ⟨fun j hj => by rw [o j (by omega)]; exact h1 j hj, fun q hq => ?_, fun q hq => ?_, fun q hq => ?_, fun hm => ?_, fun hm => ?_⟩
  · rw [u 95 q hq, u 96 q hq, u 97 q hq]; exact h2 q hq
  · rw [o 100 (by omega), o 101 (by omega)]; exact h3 q hq
  · rw [o 98 (by omega), o 99 (by omega)]; exact h4 q hq
  · rw [o 102 (by omega)]; exact h5 hm
  · rw [o 102 (by omega)]; exact h6 hm
theorem keeps_1 (hn : pe.length ≤ 8) {m : Nat} (hm : m < 24) {S0 : zS} {s : pZ} (hI : mI S0 pe de ro jo nd nr fb g c) (hZ : mZ S0 pe.length s) : ∀ (d i : Nat) (S : zS) (a : Int32), i + d = pe.length → mKp S0 S pe.length m i s → (∀ S', mKp S0 S' pe.length m pe.length s → zU mX11_keeps X S' L 92 [some (.ref 72), some (.int (nI m)), some (.int ((List.range' i d).foldl (pTx1 pe.length s) a)), some (.int 0)] [] (zpv P)) → zU mX11_keeps X S L 4 [some (.ref 72), some (.int (nI m)), some (.int a), some (.int (nI i))] [] (zpv P) := by
  intro d
  induction d with
  | zero =>
    intro i S a hd hK h
    have hI' := hI.keepG hK.1.toG
    have : i = pe.length := by omega
    subst this
    refine b_X11_keeps_4 (np := pe.length) ⟨fun _ => h S hK, fun q => absurd ?_ q⟩
    rw [hI'.1.2]; exact nI_le (by omega) (by omega)
  | succ d ih =>
    intro i S a hd hK h
    have hi : i < pe.length := by omega
    have hI' := hI.keepG hK.1.toG
    have hZ' := hZ.keepH hK.1
    obtain ⟨a1, a2, a3, a4, a5⟩ := hZ'.1 i hi
    rw [List.range'_succ, List.foldl_cons] at h
    refine b_X11_keeps_4 (np := pe.length) ⟨fun q => absurd q ?_, fun _ => ?_⟩
    · rw [hI'.1.2]; exact nI_ge (by omega) (by omega)
    rw [e8, cl_nI (n := i) (by omega), cl_nI (n := 8 * m + i) (by omega), a1]
    refine ⟨vp_in_nI (by omega) (by omega), vp_in_nI (by omega) (by omega), fun S1 e1 => ?_⟩
    have s1 : ∀ j, j ≠ 95 → S1 j = S j := fun j hj => by rw [e1, zc_ne _ _ hj]
    rw [s1 89 (by omega), a2]
    refine ⟨vp_in_nI (by omega) (by omega), vp_in_nI (by omega) (by omega), fun S2 e2 => ?_⟩
    have s2 : ∀ j, j ≠ 96 → S2 j = S1 j := fun j hj => by rw [e2, zc_ne _ _ hj]
    rw [s2 90 (by omega), s1 90 (by omega), a3]
    refine ⟨vp_in_nI (by omega) (by omega), vp_in_nI (by omega) (by omega), fun S3 e3 => ?_⟩
    have s3 : ∀ j, j ≠ 97 → S3 j = S2 j := fun j hj => by rw [e3, zc_ne _ _ hj]
    have t : ∀ j, j ≠ 95 → j ≠ 96 → j ≠ 97 → S3 j = S j := fun j h1 h2 h3 => (s3 j h3).trans ((s2 j h2).trans (s1 j h1))
    have f95 : S3 95 = upd (S 95) (8 * m + i) (s.1 i) := by rw [s3 95 (by omega), s2 95 (by omega), e1, zc_eq]
    have f96 : S3 96 = upd (S 96) (8 * m + i) (s.1 (8 + i)) := by rw [s3 96 (by omega), e2, zc_eq, s1 96 (by omega)]
    have f97 : S3 97 = upd (S 97) (8 * m + i) (s.1 (16 + i)) := by rw [e3, zc_eq, s2 97 (by omega), s1 97 (by omega)]
    have hH1 : mH S0 S1 m := by rw [e1]; exact mH.cel hK.1 (by omega) (by omega)
    have hH2 : mH S0 S2 m := by rw [e2]; exact mH.cel hH1 (by omega) (by omega)
    have hH3 : mH S0 S3 m := by rw [e3]; exact mH.cel hH2 (by omega) (by omega)
    have hK3 : mKp S0 S3 pe.length m (i + 1) s := by
      obtain ⟨k1, k2, k3, k4, k5, k6, k7⟩ := hK
      refine ⟨hH3, fun p hp => ?_, by rw [t 100 (by omega) (by omega) (by omega)]; exact k3, by rw [t 101 (by omega) (by omega) (by omega)]; exact k4, by rw [t 98 (by omega) (by omega) (by omega)]; exact k5, by rw [t 99 (by omega) (by omega) (by omega)]; exact k6, by rw [t 102 (by omega) (by omega) (by omega)]; exact k7⟩
      rw [f95, f96, f97]
      by_cases hpi : p = i
      · subst hpi; simp [upd]
      · simp only [upd, if_neg (show ¬ 8 * m + p = 8 * m + i by omega)]
        exact k2 p (by omega)
    have hlv : pLv pe.length (S3 92) (nI i) ↔ pLv pe.length s.2.1 (nI i) := pLv_iff (by omega) (fun p hp => by rw [t 92 (by omega) (by omega) (by omega)]; exact (hZ'.1 p hp).2.2.2.2)
    have go : ∀ x1, x1 = pTx1 pe.length s a i → ∀ x2, x2 = nI i + 1 → zU mX11_keeps X S3 L 4 [some (.ref 72), some (.int (nI m)), some (.int x1), some (.int x2)] [] (zpv P) := by
      intro x1 ex1 x2 ex2
      rw [ex1, ex2, nI_1]
      exact ih (i + 1) S3 _ (by omega) hK3 h
    rw [t 88 (by omega) (by omega) (by omega), t 72 (by omega) (by omega) (by omega), a1]
    refine ⟨⟨hI'.1.2, hn⟩, fun q => ⟨vp_in_nI (by omega) (by omega), fun x1 ex1 x2 ex2 => go x1 ?_ x2 ex2⟩, fun q x1 ex1 x2 ex2 => go x1 ?_ x2 ex2⟩
    · rw [ex1, pTx1, if_pos (hlv.mp q)]
    · rw [ex1, pTx1, if_neg (fun z => q (hlv.mpr z))]
def mKq (S0 S : zS) (np m i : Nat) (s : pZ) : Prop := mH S0 S m ∧ (∀ p, p < np → S 95 (8 * m + p) = s.1 p ∧ S 96 (8 * m + p) = s.1 (8 + p) ∧ S 97 (8 * m + p) = s.1 (16 + p)) ∧ (∀ q, q < i → S 100 (4 * m + q) = s.1 (24 + q) ∧ S 101 (4 * m + q) = s.1 (28 + q)) ∧ S 98 = S0 98 ∧ S 99 = S0 99 ∧ S 102 = S0 102
theorem mH.cel4 {S S' : zS} {m k i : Nat} {x : Int32} (h : mH S S' m) (hk : 100 ≤ k ∧ k ≤ 101) (hi : 4 * m ≤ i ∧ i < 4 * m + 4) : mH S (zc S' k (upd (S' k) i x)) m := by
  obtain ⟨h1, h2, h3, h4, h5, h6⟩ := h
  have o : ∀ j, j ≠ k → zc S' k (upd (S' k) i x) j = S' j := fun j hj => zc_ne _ _ hj
  have u : ∀ j q, (q < 4 * m ∨ 4 * m + 4 ≤ q) → zc S' k (upd (S' k) i x) j q = S' j q := by
    intro j q hq
    by_cases hj : j = k
    · subst hj; rw [zc_eq, upd, if_neg (by omega)]
    · rw [o j hj]
  refine ⟨fun j hj => by rw [o j (by omega)]; exact h1 j hj, fun q hq => ?_, fun q hq => ?_, fun q hq => ?_, fun hm => ?_, fun hm => ?_⟩
  · rw [o 95 (by omega), o 96 (by omega), o 97 (by omega)]; exact h2 q hq
  · rw [u 100 q hq, u 101 q hq]; exact h3 q hq
  · rw [o 98 (by omega), o 99 (by omega)]; exact h4 q hq
  · rw [o 102 (by omega)]; exact h5 hm
  · rw [o 102 (by omega)]; exact h6 hm
theorem keeps_2 (hn : pe.length ≤ 8) {m : Nat} (hm : m < 24) {S0 : zS} {s : pZ} (hI : mI S0 pe de ro jo nd nr fb g c) (hZ : mZ S0 pe.length s) (h : ∀ S', mH S0 S' m → mRw1 S' pe.length s m → P S' L) : ∀ (d i : Nat) (S : zS), i + d = 4 → mKq S0 S pe.length m i s → zU mX11_keeps X S L 92 [some (.ref 72), some (.int (nI m)), some (.int (pTx pe.length s)), some (.int (nI i))] [] (zpv P) := by
  intro d
  induction d with
  | zero =>
    intro i S hd hK
    have : i = 4 := by omega
    subst this
    obtain ⟨k1, k2, k3, k4, k5, k6⟩ := hK
    have hI' := hI.keepG k1.toG
    have hZ' := hZ.keepH k1
    refine b_X11_keeps_92 (np := pe.length) ⟨fun _ => ?_, fun q => absurd (by decide) q⟩
    rw [cl_nI (n := m) (by omega), hZ'.2.2.1]
    refine ⟨vp_in_nI (by omega) (by omega), fun S1 e1 => ?_⟩
    have s1 : ∀ j, j ≠ 98 → S1 j = S j := fun j hj => by rw [e1, zc_ne _ _ hj]
    rw [s1 72 (by omega), s1 88 (by omega), s1 92 (by omega)]
    have hhv : mHv pe.length (S 88) (S 92) = pHv pe.length s := mHv_congr hn (fun p hp => (hZ'.1 p hp).1) (fun p hp => (hZ'.1 p hp).2.2.2.2)
    rw [hhv]
    refine ⟨⟨hI'.1.2, hn⟩, fun y1 ey1 => ⟨vp_in_nI (by omega) (by omega), fun S2 e2 => ?_⟩⟩
    have s2 : ∀ j, j ≠ 99 → S2 j = S1 j := fun j hj => by rw [e2, zc_ne _ _ hj]
    have t2 : ∀ j, j ≠ 98 → j ≠ 99 → S2 j = S j := fun j h1 h2 => (s2 j h2).trans (s1 j h1)
    have i0 : vp_in (0 : Int32) 2 := vp_in_nI (n := 0) (by omega) (by omega)
    have i1 : vp_in (1 : Int32) 2 := vp_in_nI (n := 1) (by omega) (by omega)
    have z0 : (0 : Int32).toNatClampNeg = 0 := rfl
    have z1 : (1 : Int32).toNatClampNeg = 1 := rfl
    have hm11 : ∀ q, q < 24 → ((nI m : Int32) = nI q ↔ m = q) := fun q hq => nI_eq (by omega) (by omega)
    have fin : ∀ S4 a b, S4 102 = upd (upd (S 102) 0 a) 1 b → (∀ j, j ≠ 102 → S4 j = S2 j) → (m = 11 → a = pTx pe.length s) → (m ≠ 11 → a = S 102 0) → (m = 23 → b = pTx pe.length s) → (m ≠ 23 → b = S 102 1) → P S4 L := by
      intro S4 a b h102 ho ha ha' hb hb'
      have t4 : ∀ j, j ≠ 98 → j ≠ 99 → j ≠ 102 → S4 j = S j := fun j h1 h2 h3 => (ho j h3).trans (t2 j h1 h2)
      have f98 : S4 98 = upd (S 98) m (s.1 32) := by rw [ho 98 (by omega), s2 98 (by omega), e1, zc_eq]
      have f99 : S4 99 = upd (S 99) m (pHv pe.length s) := by rw [ho 99 (by omega), e2, zc_eq, s1 99 (by omega), ey1]
      obtain ⟨g1, g2, g3, g4, g5, g6⟩ := k1
      refine h S4 ⟨fun j hj => by rw [t4 j (by omega) (by omega) (by omega)]; exact g1 j hj, fun i hi => ?_, fun i hi => ?_, fun i hi => ?_, fun hz => ?_, fun hz => ?_⟩ ⟨fun p hp => ?_, fun q hq => ?_, ?_, ?_, fun hz => ?_, fun hz => ?_⟩
      · rw [t4 95 (by omega) (by omega) (by omega), t4 96 (by omega) (by omega) (by omega), t4 97 (by omega) (by omega) (by omega)]; exact g2 i hi
      · rw [t4 100 (by omega) (by omega) (by omega), t4 101 (by omega) (by omega) (by omega)]; exact g3 i hi
      · rw [f98, f99, upd, upd, if_neg hi, if_neg hi]; exact g4 i hi
      · rw [h102, upd, if_neg (by omega), upd, if_pos rfl, ha' hz, k6]
      · rw [h102, upd, if_pos rfl, hb' hz, k6]
      · rw [t4 95 (by omega) (by omega) (by omega), t4 96 (by omega) (by omega) (by omega), t4 97 (by omega) (by omega) (by omega)]; exact k2 p hp
      · rw [t4 100 (by omega) (by omega) (by omega), t4 101 (by omega) (by omega) (by omega)]; exact k3 q hq
      · rw [f98, upd, if_pos rfl]
      · rw [f99, upd, if_pos rfl]
      · rw [h102, upd, if_neg (by omega), upd, if_pos rfl, ha hz]
      · rw [h102, upd, if_pos rfl, hb hz]
    have e176 : ∀ a, (m = 11 → a = pTx pe.length s) → (m ≠ 11 → a = S 102 0) → zU mX11_keeps X S2 L 176 [some (.ref 72), some (.int (nI m)), some (.int (pTx pe.length s)), none] [.int a, .int 0, .ref 102] (zpv P) := by
      intro a ha ha'
      refine b_X11_keeps_176 (np := pe.length) ?_
      rw [z0, z1]
      refine ⟨i0, fun S3 e3 => ?_⟩
      have h3 : S3 102 = upd (S 102) 0 a := by rw [e3, zc_eq, t2 102 (by omega) (by omega)]
      refine ⟨fun z => ⟨i1, i1, fun S4 e4 => fin S4 a (S3 102 1) ?_ ?_ ha ha' ?_ ?_⟩, fun z => ⟨i1, fun S4 e4 => fin S4 a (pTx pe.length s) ?_ ?_ ha ha' (fun _ => rfl) ?_⟩⟩
      · rw [e4, zc_eq, h3]
      · intro j hj; rw [e4, zc_ne _ _ hj, e3, zc_ne _ _ hj]
      · intro hz; exact absurd ((hm11 23 (by omega)).mpr hz) z
      · intro _; rw [h3, upd, if_neg (by omega)]
      · rw [e4, zc_eq, h3]
      · intro j hj; rw [e4, zc_ne _ _ hj, e3, zc_ne _ _ hj]
      · intro hz; exact absurd ((hm11 23 (by omega)).mp z) hz
    refine ⟨fun z => ⟨i0, e176 _ (fun hz => absurd ((hm11 11 (by omega)).mpr hz) z) (fun _ => ?_)⟩, fun z => e176 _ (fun _ => rfl) (fun hz => absurd ((hm11 11 (by omega)).mp z) hz)⟩
    rw [z0, t2 102 (by omega) (by omega)]
  | succ d ih =>
    intro i S hd hK
    have hi : i < 4 := by omega
    have hZ' := hZ.keepH hK.1
    obtain ⟨a1, a2⟩ := hZ'.2.1 i hi
    refine b_X11_keeps_92 (np := pe.length) ⟨fun q => absurd q ?_, fun _ => ?_⟩
    · rw [show (4 : Int32) = nI 4 by decide]; exact nI_ge (by omega) (by omega)
    rw [e4, cl_nI (n := i) (by omega), cl_nI (n := 4 * m + i) (by omega), a1]
    refine ⟨vp_in_nI (by omega) (by omega), vp_in_nI (by omega) (by omega), fun S1 e1 => ?_⟩
    have s1 : ∀ j, j ≠ 100 → S1 j = S j := fun j hj => by rw [e1, zc_ne _ _ hj]
    rw [s1 94 (by omega), a2]
    refine ⟨vp_in_nI (by omega) (by omega), vp_in_nI (by omega) (by omega), fun S2 e2 x1 ex1 => ?_⟩
    have s2 : ∀ j, j ≠ 101 → S2 j = S1 j := fun j hj => by rw [e2, zc_ne _ _ hj]
    have t : ∀ j, j ≠ 100 → j ≠ 101 → S2 j = S j := fun j h1 h2 => (s2 j h2).trans (s1 j h1)
    have f100 : S2 100 = upd (S 100) (4 * m + i) (s.1 (24 + i)) := by rw [s2 100 (by omega), e1, zc_eq]
    have f101 : S2 101 = upd (S 101) (4 * m + i) (s.1 (28 + i)) := by rw [e2, zc_eq, s1 101 (by omega)]
    have hH1 : mH S0 S1 m := by rw [e1]; exact mH.cel4 hK.1 (by omega) (by omega)
    have hH2 : mH S0 S2 m := by rw [e2]; exact mH.cel4 hH1 (by omega) (by omega)
    rw [ex1, nI_1]
    obtain ⟨k1, k2, k3, k4, k5, k6⟩ := hK
    refine ih (i + 1) S2 (by omega) ⟨hH2, fun p hp => ?_, fun q hq => ?_, by rw [t 98 (by omega) (by omega)]; exact k4, by rw [t 99 (by omega) (by omega)]; exact k5, by rw [t 102 (by omega) (by omega)]; exact k6⟩
    · rw [t 95 (by omega) (by omega), t 96 (by omega) (by omega), t 97 (by omega) (by omega)]; exact k2 p hp
    · rw [f100, f101]
      by_cases hqi : q = i
      · subst hqi; simp [upd]
      · simp only [upd, if_neg (show ¬ 4 * m + q = 4 * m + i by omega)]
        exact k3 q (by omega)
theorem keeps_s (hn : pe.length ≤ 8) {m : Nat} (hm : m < 24) {S : zS} {s : pZ} (hI : mI S pe de ro jo nd nr fb g c) (hZ : mZ S pe.length s) (h : ∀ S', mH S S' m → mRw1 S' pe.length s m → P S' L) : zCv mX11_keeps S L [.ref 72, .int (nI m)] P := by
  refine e_X11_keeps (fun X => b_X11_keeps_0 (np := 0) ?_)
  have hH0 : mH S S m := ⟨fun _ _ => rfl, fun _ _ => ⟨rfl, rfl, rfl⟩, fun _ _ => ⟨rfl, rfl⟩, fun _ _ => ⟨rfl, rfl⟩, fun _ => rfl, fun _ => rfl⟩
  refine keeps_1 hn hm hI hZ pe.length 0 S 0 (by omega) ⟨hH0, fun p hp => absurd hp (Nat.not_lt_zero _), rfl, rfl, rfl, rfl, rfl⟩ (fun S' hK => ?_)
  have : (List.range' 0 pe.length).foldl (pTx1 pe.length s) 0 = pTx pe.length s := by rw [pTx, List.range_eq_range']
  rw [this]
  exact keeps_2 hn hm hI hZ h 4 0 S' (by omega) ⟨hK.1, hK.2.1, fun q hq => absurd hq (Nat.not_lt_zero _), hK.2.2.2.2.1, hK.2.2.2.2.2.1, hK.2.2.2.2.2.2⟩
end MK
