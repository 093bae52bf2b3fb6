/-! SHEETS: the class -/
def sLn (fo le : pF) (s : Nat) : Int32 := if fo s = -1 then 0 else le s
abbrev sHo (fo le : pF) (s : Nat) (i n : Int32) : Prop := ¬ i < 0 ∧ ¬ n < 0 ∧ ¬ sLn fo le s - n < i
def sFa (fo le : pF) (s : Nat) (form i : Int32) : Int32 := if fo s = -1 then 1 else if fo s = form then (if sHo fo le s i 1 then 0 else 2) else 3
def sNr (f v : Int32) : Int32 := if f = 0 then v.toInt8.toInt32 else if f = 1 then v.toInt16.toInt32 else v
def sClr (it : pF) (s : Nat) : pF := fun i => if 60 * s ≤ i ∧ i < 60 * s + 60 then 0 else it i
def sWr (it : pF) (s : Nat) (f : Int32) (W : Nat → Int32) (k : Nat) : pF := fun i => if 60 * s ≤ i ∧ i < 60 * s + k then sNr f (W (i - 60 * s)) else it i
abbrev okF (x : Int32) : Prop := (0 : Int32) ≤ x ∧ x ≤ (2 : Int32)
def uFnd (k : Int32) : sg → Int32 × sg
  | (t0, t1, g, c, ro, jo, fr, se, fo, le, it, _) => (-10 - k, (t0, t1, g, c, ro, jo, fr, se, fo, le, it, k))
def uSheet (s f n : Int32) : sg → Int32 × sg
  | (t0, t1, g, c, ro, jo, fr, se, fo, le, it, la) => if ok3 s ∧ okF f ∧ n ≤ (60 : Int32) then (if 0 ≤ n then (n, (t0, t1, g, c, ro, jo, fr, se, upd fo s.toNatClampNeg f, upd le s.toNatClampNeg n, sClr it s.toNatClampNeg, la)) else uFnd 5 (t0, t1, g, c, ro, jo, fr, se, fo, le, it, la)) else (-2, (t0, t1, g, c, ro, jo, fr, se, fo, le, it, la))
def uLose (s : Int32) : sg → Int32 × sg
  | (t0, t1, g, c, ro, jo, fr, se, fo, le, it, la) => if ok3 s then (if fo s.toNatClampNeg = -1 then uFnd 1 (t0, t1, g, c, ro, jo, fr, se, fo, le, it, la) else (le s.toNatClampNeg, (t0, t1, g, c, ro, jo, fr, se, upd fo s.toNatClampNeg (-1), le, it, la))) else (-2, (t0, t1, g, c, ro, jo, fr, se, fo, le, it, la))
def uPut (s f i v : Int32) : sg → Int32 × sg
  | (t0, t1, g, c, ro, jo, fr, se, fo, le, it, la) => if ok3 s ∧ okF f then (if sFa fo le s.toNatClampNeg f i = 0 then (1, (t0, t1, g, c, ro, jo, fr, se, fo, le, upd it (60 * s.toNatClampNeg + i.toNatClampNeg) (sNr (fo s.toNatClampNeg) v), la)) else uFnd (sFa fo le s.toNatClampNeg f i) (t0, t1, g, c, ro, jo, fr, se, fo, le, it, la)) else (-2, (t0, t1, g, c, ro, jo, fr, se, fo, le, it, la))
def uGet (s f i : Int32) : sg → Int32 × sg
  | (t0, t1, g, c, ro, jo, fr, se, fo, le, it, la) => if ok3 s ∧ okF f then (if sFa fo le s.toNatClampNeg f i = 0 then (it (60 * s.toNatClampNeg + i.toNatClampNeg), (t0, t1, g, c, ro, jo, fr, se, fo, le, it, la)) else (-2147483648, (t0, t1, g, c, ro, jo, fr, se, fo, le, it, sFa fo le s.toNatClampNeg f i))) else (-2147483648, (t0, t1, g, c, ro, jo, fr, se, fo, le, it, la))
def uCopy (s i t j n : Int32) : sg → Int32 × sg
  | (t0, t1, g, c, ro, jo, fr, se, fo, le, it, la) => if ok3 s ∧ ok3 t then (if fo s.toNatClampNeg = -1 ∨ fo t.toNatClampNeg = -1 then uFnd 1 (t0, t1, g, c, ro, jo, fr, se, fo, le, it, la) else if fo s.toNatClampNeg = fo t.toNatClampNeg then (if sHo fo le s.toNatClampNeg i n ∧ sHo fo le t.toNatClampNeg j n then (1, (t0, t1, g, c, ro, jo, fr, se, fo, le, va_cpy it it (60 * s.toNatClampNeg + i.toNatClampNeg) (60 * t.toNatClampNeg + j.toNatClampNeg) n.toNatClampNeg, la)) else uFnd 2 (t0, t1, g, c, ro, jo, fr, se, fo, le, it, la)) else uFnd 4 (t0, t1, g, c, ro, jo, fr, se, fo, le, it, la)) else (-2, (t0, t1, g, c, ro, jo, fr, se, fo, le, it, la))
def uWrite (p s : Int32) : sg → Int32 × sg
  | (t0, t1, g, c, ro, jo, fr, se, fo, le, it, la) => if okN (tL 0 t0).length p ∧ ok3 s then (if fo s.toNatClampNeg = -1 then uFnd 1 (t0, t1, g, c, ro, jo, fr, se, fo, le, it, la) else (nI (min (le s.toNatClampNeg).toNatClampNeg 24), (t0, t1, g, c, ro, jo, fr, se, fo, le, sWr it s.toNatClampNeg (fo s.toNatClampNeg) (fun m => (pCf (tL 0 t0) (tL 3 t1) ro jo fr g c (m + 1)).1 p.toNatClampNeg) (min (le s.toNatClampNeg).toNatClampNeg 24), la))) else (-2, (t0, t1, g, c, ro, jo, fr, se, fo, le, it, la))
def uRdL (it : pF) (b len : Nat) : Nat → Nat → sg → Int32 × sg
  | 0, n, x => (nI n, x)
  | k + 1, n, x => if 3 * n + 2 < len then (if (uRound (it (b + 3 * n)) (it (b + 3 * n + 1)) (it (b + 3 * n + 2)) x).1 < 0 then (nI n, (uRound (it (b + 3 * n)) (it (b + 3 * n + 1)) (it (b + 3 * n + 2)) x).2) else uRdL it b len k (n + 1) (uRound (it (b + 3 * n)) (it (b + 3 * n + 1)) (it (b + 3 * n + 2)) x).2) else (nI n, x)
def uRead (s : Int32) : sg → Int32 × sg
  | (t0, t1, g, c, ro, jo, fr, se, fo, le, it, la) => if ok3 s then (if fo s.toNatClampNeg = -1 then uFnd 1 (t0, t1, g, c, ro, jo, fr, se, fo, le, it, la) else uRdL it (60 * s.toNatClampNeg) (le s.toNatClampNeg).toNatClampNeg 20 0 (t0, t1, g, c, ro, jo, fr, se, fo, le, it, la)) else (-2, (t0, t1, g, c, ro, jo, fr, se, fo, le, it, la))
theorem sHo_ix {fo le : pF} {s : Nat} {i n : Int32} (hs : s < 4) (hw : wSh fo le) (h : sHo fo le s i n) : ∃ k m, i = nI k ∧ n = nI m ∧ k + m ≤ (sLn fo le s).toNatClampNeg ∧ (sLn fo le s).toNatClampNeg ≤ 60 := by
  obtain ⟨h1, h2, h3⟩ := h
  obtain ⟨k, hk, rfl⟩ := nI_of h1
  obtain ⟨m, hm, rfl⟩ := nI_of h2
  obtain ⟨a, ha, hae⟩ : ∃ a, a ≤ 60 ∧ sLn fo le s = nI a := by
    unfold sLn; split
    · exact ⟨0, by omega, rfl⟩
    · exact (hw s hs).2
  rw [hae] at h3 ⊢
  rw [cl_nI (by omega)]
  have e : (nI a - nI m).toInt = (a : Int) - m := by
    have e1 := nI_toInt (n := a) (by omega)
    have e2 := nI_toInt (n := m) hm
    rw [i_sub (by omega) (by omega), e1, e2]
  have h4 : ¬ ((a : Int) - m < k) := by
    intro z
    refine h3 (Int32.lt_iff_toInt_lt.mpr ?_)
    rw [e, nI_toInt hk]; exact z
  exact ⟨k, m, rfl, rfl, by omega, ha⟩
section SH
variable {fo le it : pF} {la : Int32} {S : zS} {L : zL}
theorem isLost_s {s : Nat} (hS : zSh fo le it la S) (hs : s < 4) {P : Int32 → zS → zL → Prop} (h : P (if fo s = -1 then 1 else 0) S L) : zCi mX6_isLost S L [.ref 68, .int (nI s)] P := by
  refine e_X6_isLost (fun X => b_X6_isLost_0 ?_)
  rw [cl_nI (by omega), (hS.1 s hs).1]
  refine ⟨fun q => absurd q (nI_pos (by omega)), fun _ => ⟨fun q => absurd q (nI_ge (b := 4) (by omega) (by omega)), fun _ => ⟨vp_in_nI hs (by omega), fun z => ?_, fun z => ?_⟩⟩⟩
  · rw [if_neg z] at h; exact h
  · rw [if_pos z] at h; exact h
theorem length_s {s : Nat} (hS : zSh fo le it la S) (hs : s < 4) {P : Int32 → zS → zL → Prop} (h : P (sLn fo le s) S L) : zCi mX6_length S L [.ref 68, .int (nI s)] P := by
  refine e_X6_length (fun X => b_X6_length_0 (isLost_s hS hs ?_))
  unfold sLn at h
  rw [cl_nI (by omega), (hS.1 s hs).2]
  refine ⟨fun z => ⟨vp_in_nI hs (by omega), ?_⟩, fun z => ?_⟩
  · rw [if_neg (fun y => by rw [if_pos y] at z; exact absurd z (by decide))] at h; exact h
  · rcases Decidable.em (fo s = -1) with y | y
    · rw [if_pos y] at h; exact h
    · rw [if_neg y] at z; exact absurd rfl z
theorem holds_s {s : Nat} {i n : Int32} (hS : zSh fo le it la S) (hs : s < 4) {P : Int32 → zS → zL → Prop} (h : P (if sHo fo le s i n then 1 else 0) S L) : zCi mX6_holds S L [.ref 68, .int (nI s), .int i, .int n] P := by
  refine e_X6_holds (fun X => b_X6_holds_0 ⟨fun z => ?_, fun z1 => ⟨fun z => ?_, fun z2 => length_s hS hs ⟨fun z => ?_, fun z => ?_⟩⟩⟩)
  · rw [if_neg (fun y => y.1 z)] at h; exact h
  · rw [if_neg (fun y => y.2.1 z)] at h; exact h
  · rw [if_neg (fun y => y.2.2 z)] at h; exact h
  · rw [if_pos ⟨z1, z2, z⟩] at h; exact h
theorem if01 {c : Prop} [Decidable c] (z : (if c then (1 : Int32) else 0) = 0) : ¬ c := fun y => by rw [if_pos y] at z; exact absurd z (by decide)
theorem if11 {c : Prop} [Decidable c] (z : ¬ (if c then (1 : Int32) else 0) = 0) : c := by
  rcases Decidable.em c with y | y
  · exact y
  · rw [if_neg y] at z; exact absurd rfl z
theorem faultAt_s {s : Nat} {f i : Int32} (hS : zSh fo le it la S) (hs : s < 4) {P : Int32 → zS → zL → Prop} (h : P (sFa fo le s f i) S L) : zCi mX6_faultAt S L [.ref 68, .int (nI s), .int f, .int i] P := by
  refine e_X6_faultAt (fun X => b_X6_faultAt_0 (isLost_s hS hs ?_))
  unfold sFa at h
  rw [cl_nI (by omega), (hS.1 s hs).1]
  refine ⟨fun z => ⟨vp_in_nI hs (by omega), fun z2 => holds_s hS hs ⟨fun z3 => ?_, fun z3 => ?_⟩, fun z2 => ?_⟩, fun z => ?_⟩
  · rw [if_neg (if01 z), if_pos z2, if_neg (if01 z3)] at h; exact h
  · rw [if_neg (if01 z), if_pos z2, if_pos (if11 z3)] at h; exact h
  · rw [if_neg (if01 z), if_neg z2] at h; exact h
  · rw [if_pos (if11 z)] at h; exact h
theorem mul60 {s k : Nat} : nI s * (60 : Int32) + nI k = nI (60 * s + k) := by rw [show (60 : Int32) = nI 60 by decide, pk_mul, nI_add, Nat.mul_comm]
theorem item_s {s : Nat} {i : Int32} (hS : zSh fo le it la S) (hw : wSh fo le) (hs : s < 4) {P : Int32 → zS → zL → Prop} (h : P (if sHo fo le s i 1 then it (60 * s + i.toNatClampNeg) else 0) S L) : zCi mX6_item S L [.ref 68, .int (nI s), .int i] P := by
  refine e_X6_item (fun X => b_X6_item_0 (holds_s hS hs ⟨fun z => ?_, fun z => ?_⟩))
  · rw [if_neg (if01 z)] at h; exact h
  · have hh := if11 z
    rw [if_pos hh] at h
    obtain ⟨k, m, rfl, hm, hkm, h60⟩ := sHo_ix hs hw hh
    have hm1 : m = 1 := by
      have : (1 : Int32).toNatClampNeg = m := by rw [hm, nI_clamp (by omega)]
      have : (1 : Int32).toNatClampNeg = 1 := rfl
      omega
    rw [cl_nI (by omega)] at h
    rw [mul60, cl_nI (by omega), hS.2.1 _ (by omega)]
    exact ⟨vp_in_nI (by omega) (by omega), h⟩
theorem store_s {s : Nat} {i v : Int32} (hS : zSh fo le it la S) (hw : wSh fo le) (hs : s < 4) (hh : sHo fo le s i 1) {P : zS → zL → Prop} (h : ∀ S', zSh fo le (upd it (60 * s + i.toNatClampNeg) (sNr (fo s) v)) la S' → zOut 71 71 S S' → P S' L) : zCv mX6_store S L [.ref 68, .int (nI s), .int i, .int v] P := by
  obtain ⟨k, m, rfl, hm, hkm, h60⟩ := sHo_ix hs hw hh
  have hm1 : m = 1 := by
    have : (1 : Int32).toNatClampNeg = m := by rw [hm, nI_clamp (by omega)]
    have : (1 : Int32).toNatClampNeg = 1 := rfl
    omega
  rw [cl_nI (by omega)] at h
  have go : ∀ S2 x, x = sNr (fo s) v → S2 = zc S 71 (upd (S 71) (60 * s + k) x) → P S2 L := by
    intro S2 x hx e2
    have o2 : ∀ j, j ≠ 71 → S2 j = S j := fun j hj => by rw [e2, zc_ne _ _ hj]
    refine h S2 ⟨fun q hq => by rw [o2 69 (by omega), o2 70 (by omega)]; exact hS.1 q hq, fun q hq => ?_, by rw [o2 68 (by omega)]; exact hS.2.2⟩ (fun j hj => o2 j (by omega))
    rw [e2, zc_eq, ← hx]
    simp only [upd]
    split
    · rfl
    · exact hS.2.1 q hq
  refine e_X6_store (fun X => b_X6_store_0 (holds_s hS hs ⟨fun z => absurd hh (if01 z), fun z => ?_⟩))
  rw [mul60, cl_nI (by omega), cl_nI (by omega), (hS.1 s hs).1]
  unfold sNr at go
  refine ⟨vp_in_nI hs (by omega), fun z0 => ⟨vp_in_nI hs (by omega), fun z1 => ⟨vp_in_nI (by omega) (by omega), fun S2 e2 => go S2 _ ?_ e2⟩, fun z1 => ⟨vp_in_nI (by omega) (by omega), fun S2 e2 => go S2 _ ?_ e2⟩⟩, fun z0 => ⟨vp_in_nI (by omega) (by omega), fun S2 e2 => go S2 _ ?_ e2⟩⟩
  · rw [if_neg z0, if_neg z1]
  · rw [if_neg z0, if_pos z1]
  · rw [if_pos z0]
theorem finding_s {k : Int32} (hS : zSh fo le it la S) {P : Int32 → zS → zL → Prop} (h : ∀ S', zSh fo le it k S' → zOut 68 68 S S' → P (-10 - k) S' L) : zCi mX6_finding S L [.ref 68, .int k] P := by
  refine e_X6_finding (fun X => b_X6_finding_0 (fun S1 e1 => ?_))
  have o1 : ∀ j, j ≠ 68 → S1 j = S j := fun j hj => by rw [e1, zc_ne _ _ hj]
  exact h S1 ⟨fun q hq => by rw [o1 69 (by omega), o1 70 (by omega)]; exact hS.1 q hq, fun q hq => by rw [o1 71 (by omega)]; exact hS.2.1 q hq, by rw [e1, zc_eq, upd, if_pos rfl]⟩ (fun j hj => o1 j (by omega))
theorem renew_l {X : Nat × (Nat → Int32)} {s : Nat} {n : Int32} (hs : s < 4) {P : Int32 → zS → zL → Prop} : ∀ (d i : Nat) (S : zS), i + d = 60 → (∀ S', (∀ j, 60 * s + i ≤ j → j < 60 * s + 60 → S' 71 j = 0) → (∀ j, j < 60 * s + i ∨ 60 * s + 60 ≤ j → S' 71 j = S 71 j) → zOut 71 71 S S' → P n S' L) → zU mX6_renew X S L 43 [some (.ref 68), some (.int (nI s)), none, some (.int n), some (.int (nI i))] [] (zpi P) := by
  intro d
  induction d with
  | zero =>
    intro i S hd h
    have : i = 60 := by omega
    subst this
    exact b_X6_renew_43 ⟨fun _ => h S (fun j a b => by omega) (fun _ _ => rfl) zOut.rf, fun z => absurd (by decide) z⟩
  | succ d ih =>
    intro i S hd h
    refine b_X6_renew_43 ⟨fun z => absurd z (nI_ge (b := 60) (by omega) (by omega)), fun _ => ?_⟩
    rw [mul60, cl_nI (by omega)]
    refine ⟨vp_in_nI (by omega) (by omega), fun S1 e1 x1 ex1 => ?_⟩
    rw [ex1, nI_1]
    refine ih (i + 1) S1 (by omega) (fun S' k1 k2 o => h S' (fun j a b => ?_) (fun j hj => ?_) (fun j hj => by rw [o j hj, e1, zc_ne _ _ (by omega)]))
    · by_cases hj : j = 60 * s + i
      · rw [k2 j (by omega), e1, zc_eq, upd, if_pos hj]
      · exact k1 j (by omega) b
    · rw [k2 j (by omega), e1, zc_eq, upd, if_neg (by omega)]
theorem renew_s {s n : Nat} {f : Int32} (hS : zSh fo le it la S) (hs : s < 4) (hn : n ≤ 60) {P : Int32 → zS → zL → Prop} (h : ∀ S', zSh (upd fo s f) (upd le s (nI n)) (sClr it s) la S' → zOut 69 71 S S' → P (nI n) S' L) : zCi mX6_renew S L [.ref 68, .int (nI s), .int f, .int (nI n)] P := by
  refine e_X6_renew (fun X => b_X6_renew_0 ⟨fun z => absurd z (nI_pos (by omega)), fun _ => ⟨fun z => absurd z (nI_ge (b := 4) (by omega) (by omega)), fun _ => ⟨fun z => absurd z (nI_pos (by omega)), fun _ => ⟨fun _ => ?_, fun z => absurd (nI_le (b := 60) hn (by omega)) z⟩⟩⟩⟩)
  rw [cl_nI (by omega)]
  refine ⟨vp_in_nI hs (by omega), fun S1 e1 => ⟨vp_in_nI hs (by omega), fun S2 e2 => ?_⟩⟩
  refine renew_l hs 60 0 S2 (by omega) (fun S' k1 k2 o => ?_)
  have n2 : ∀ j, j ≠ 69 → j ≠ 70 → S2 j = S j := fun j a b => by rw [e2, zc_ne _ _ b, e1, zc_ne _ _ a]
  have h69 : S' 69 = upd (S 69) s f := by rw [o 69 (by omega), e2, zc_ne _ _ (by omega), e1, zc_eq]
  have h70 : S' 70 = upd (S 70) s (nI n) := by rw [o 70 (by omega), e2, zc_eq, e1, zc_ne _ _ (by omega)]
  refine h S' ⟨fun q hq => ?_, fun q hq => ?_, by rw [o 68 (by omega), n2 68 (by omega) (by omega)]; exact hS.2.2⟩ (fun j hj => by rw [o j (by omega), n2 j (by omega) (by omega)])
  · rw [h69, h70]
    simp only [upd]
    constructor
    · split
      · rfl
      · exact (hS.1 q hq).1
    · split
      · rfl
      · exact (hS.1 q hq).2
  · unfold sClr
    split
    · exact k1 q (by omega) (by omega)
    · rw [k2 q (by omega), n2 71 (by omega) (by omega)]; exact hS.2.1 q hq
theorem drop_s {s : Nat} (hS : zSh fo le it la S) (hs : s < 4) (hl : ¬ fo s = -1) {P : Int32 → zS → zL → Prop} (h : ∀ S', zSh (upd fo s (-1)) le it la S' → zOut 69 69 S S' → P (le s) S' L) : zCi mX6_drop S L [.ref 68, .int (nI s)] P := by
  refine e_X6_drop (fun X => b_X6_drop_0 (isLost_s hS hs ⟨fun _ => ?_, fun z => absurd (if11 z) hl⟩))
  rw [cl_nI (by omega)]
  refine ⟨vp_in_nI hs (by omega), fun S1 e1 => ⟨vp_in_nI hs (by omega), ?_⟩⟩
  have o1 : ∀ j, j ≠ 69 → S1 j = S j := fun j hj => by rw [e1, zc_ne _ _ hj]
  rw [o1 70 (by omega), (hS.1 s hs).2]
  refine h S1 ⟨fun q hq => ?_, fun q hq => by rw [o1 71 (by omega)]; exact hS.2.1 q hq, by rw [o1 68 (by omega)]; exact hS.2.2⟩ (fun j hj => o1 j (by omega))
  rw [o1 70 (by omega), e1, zc_eq]
  refine ⟨?_, (hS.1 q hq).2⟩
  simp only [upd]
  split
  · rfl
  · exact (hS.1 q hq).1
theorem alike_s {s t : Nat} (hS : zSh fo le it la S) (hs : s < 4) (ht : t < 4) (h1 : ¬ fo s = -1) (h2 : ¬ fo t = -1) {P : Int32 → zS → zL → Prop} (h : P (if fo s = fo t then 1 else 0) S L) : zCi mX6_alike S L [.ref 68, .int (nI s), .int (nI t)] P := by
  refine e_X6_alike (fun X => b_X6_alike_0 (isLost_s hS hs ⟨fun z => absurd (if11 z) h1, fun _ => isLost_s hS ht ⟨fun z => absurd (if11 z) h2, fun _ => ?_⟩⟩))
  rw [cl_nI (by omega), cl_nI (by omega), (hS.1 s hs).1, (hS.1 t ht).1]
  refine ⟨vp_in_nI hs (by omega), vp_in_nI ht (by omega), fun z => ?_, fun z => ?_⟩
  · rw [if_neg z] at h; exact h
  · rw [if_pos z] at h; exact h
theorem move_s {s t : Nat} {i j n : Int32} (hS : zSh fo le it la S) (hw : wSh fo le) (hs : s < 4) (ht : t < 4) (h1 : sHo fo le s i n) (h2 : sHo fo le t j n) {P : zS → zL → Prop} (h : ∀ S', zSh fo le (va_cpy it it (60 * s + i.toNatClampNeg) (60 * t + j.toNatClampNeg) n.toNatClampNeg) la S' → zOut 71 71 S S' → P S' L) : zCv mX6_move S L [.ref 68, .int (nI s), .int i, .int (nI t), .int j, .int n] P := by
  refine e_X6_move (fun X => b_X6_move_0 (holds_s hS hs ⟨fun z => absurd h1 (if01 z), fun _ => holds_s hS ht ⟨fun z => absurd h2 (if01 z), fun _ => ?_⟩⟩))
  obtain ⟨k, m, rfl, rfl, hkm, h60⟩ := sHo_ix hs hw h1
  obtain ⟨k2, m2, rfl, hm2, hkm2, h602⟩ := sHo_ix ht hw h2
  have hmm : m2 = m := by
    have : (nI m).toNatClampNeg = m2 := by rw [hm2, nI_clamp (by omega)]
    rw [cl_nI (by omega)] at this; omega
  subst hmm
  rw [cl_nI (n := k) (by omega), cl_nI (n := k2) (by omega), cl_nI (n := m2) (by omega)] at h
  rw [mul60, mul60, cl_nI (n := 60 * s + k) (by omega), cl_nI (n := 60 * t + k2) (by omega), cl_nI (n := m2) (by omega)]
  refine ⟨⟨⟨nI_pos (by omega), nI_pos (by omega), nI_pos (by omega)⟩, by omega, by omega⟩, fun S1 e1 => ?_⟩
  have o1 : ∀ j, j ≠ 71 → S1 j = S j := fun j hj => by rw [e1, zc_ne _ _ hj]
  refine h S1 ⟨fun q hq => by rw [o1 69 (by omega), o1 70 (by omega)]; exact hS.1 q hq, fun q hq => ?_, by rw [o1 68 (by omega)]; exact hS.2.2⟩ (fun j hj => o1 j (by omega))
  rw [e1, zc_eq, cpy_at, cpy_at]
  split
  · exact hS.2.1 _ (by omega)
  · exact hS.2.1 _ hq
end SH
section SC
variable {t0 t1 : List Int32} {g c : Int32} {ro jo fr se : List T3} {fo le it : pF} {la : Int32} {S : zS} {L : zL} {P : Int32 → zS → zL → Prop}
theorem cI_sh {S' : zS} {fo' le' it' : pF} {la' : Int32} (hI : cI (t0, t1, g, c, ro, jo, fr, se, fo, le, it, la) S L) (ho : zOut 68 71 S S') (hS : zSh fo' le' it' la' S') (hw : wSh fo' le') : cI (t0, t1, g, c, ro, jo, fr, se, fo', le', it', la') S' L := by
  obtain ⟨h1, x0, x1, hQ, -, -⟩ := hI
  obtain ⟨q1, q2, q3, q4, q5, q6, q7, q8, q9⟩ := hQ
  have o : ∀ j, j < 68 → S' j = S j := fun j hj => ho j (by omega)
  exact ⟨h1, x0.keep (o _ (by omega)) (o _ (by omega)), x1.keep (o _ (by omega)) (o _ (by omega)), ⟨q1.out (fun j a b => o j (by omega)), q2, q3.keep (o _ (by omega)) (o _ (by omega)) (o _ (by omega)) (o _ (by omega)), q4.keep (o _ (by omega)) (o _ (by omega)) (o _ (by omega)) (o _ (by omega)), q5.keep (by rw [o 56 (by omega)]) (o _ (by omega)), q6.keep (fun i _ _ => by rw [o 56 (by omega)]), q7.keep (fun i _ => by rw [o 56 (by omega)]), q8.keep (o _ (by omega)) (o _ (by omega)), q9.keep (by rw [o 65 (by omega)]) (by rw [o 65 (by omega)]) rfl rfl⟩, hS, hw⟩
theorem fnd_c {k : Int32} (hI : cI (t0, t1, g, c, ro, jo, fr, se, fo, le, it, la) S L) (h : ∀ S' L', cI (t0, t1, g, c, ro, jo, fr, se, fo, le, it, k) S' L' → oM S S' → P (-10 - k) S' L') : zCi mX6_finding S L [.ref 68, .int k] P :=
  finding_s hI.2.2.2.2.1 (fun S' hS' o => h S' L (cI_sh hI (o.mono (by omega) (by omega)) hS' hI.2.2.2.2.2) (fun j hj => o j (by omega)))
theorem sheet_c {s f n : Int32} (hI : cI (t0, t1, g, c, ro, jo, fr, se, fo, le, it, la) S L) (h : ∀ S' L', cI (uSheet s f n (t0, t1, g, c, ro, jo, fr, se, fo, le, it, la)).2 S' L' → oM S S' → P (uSheet s f n (t0, t1, g, c, ro, jo, fr, se, fo, le, it, la)).1 S' L') : zCi mX10_sheet S L [.ref 0, .int s, .int f, .int n] P := by
  simp only [uSheet, uFnd] at h
  refine e_X10_sheet (fun X => b_X10_sheet_0 ⟨fun q1 => ⟨fun q2 => ⟨fun q3 => ⟨fun q4 => ?_, fun q4 => ?_⟩, fun z => ?_⟩, fun z => ?_⟩, fun z => ?_⟩)
  · rw [if_pos ⟨q1, q2, q3⟩, if_pos q4] at h
    obtain ⟨s, hs, rfl⟩ := rng_lit (n := 3) rfl (by omega) q1
    obtain ⟨n, hn, rfl⟩ := rng_lit (n := 60) rfl (by omega) ⟨q4, q3⟩
    rw [cl_nI (by omega)] at h
    refine renew_s hI.2.2.2.2.1 (by omega) hn (fun S' hS' o => h S' L (cI_sh hI (o.mono (by omega) (by omega)) hS' ?_) (fun j hj => o j (by omega)))
    intro q hq
    simp only [upd]
    by_cases hqs : q = s
    · rw [if_pos hqs, if_pos hqs]
      obtain ⟨f, hf, rfl⟩ := rng_lit (n := 2) rfl (by omega) q2
      refine ⟨?_, ⟨n, hn, rfl⟩⟩
      have : f = 0 ∨ f = 1 ∨ f = 2 := by omega
      rcases this with rfl | rfl | rfl
      · exact Or.inr (Or.inl rfl)
      · exact Or.inr (Or.inr (Or.inl rfl))
      · exact Or.inr (Or.inr (Or.inr rfl))
    · rw [if_neg hqs, if_neg hqs]; exact hI.2.2.2.2.2 q hq
  · rw [if_pos ⟨q1, q2, q3⟩, if_neg q4] at h; exact fnd_c hI h
  · rw [if_neg (fun y => z y.2.2)] at h; exact h S L hI oM.rf
  · rw [if_neg (fun y => z y.2.1)] at h; exact h S L hI oM.rf
  · rw [if_neg (fun y => z y.1)] at h; exact h S L hI oM.rf
theorem lose_c {s : Int32} (hI : cI (t0, t1, g, c, ro, jo, fr, se, fo, le, it, la) S L) (h : ∀ S' L', cI (uLose s (t0, t1, g, c, ro, jo, fr, se, fo, le, it, la)).2 S' L' → oM S S' → P (uLose s (t0, t1, g, c, ro, jo, fr, se, fo, le, it, la)).1 S' L') : zCi mX10_lose S L [.ref 0, .int s] P := by
  simp only [uLose, uFnd] at h
  refine e_X10_lose (fun X => b_X10_lose_0 ⟨fun q1 => ?_, fun z => ?_⟩)
  · rw [if_pos q1] at h
    obtain ⟨s, hs, rfl⟩ := rng_lit (n := 3) rfl (by omega) q1
    rw [cl_nI (by omega)] at h
    refine isLost_s hI.2.2.2.2.1 (by omega) ⟨fun z => ?_, fun z => ?_⟩
    · have hn := if01 z
      rw [if_neg hn] at h
      refine drop_s hI.2.2.2.2.1 (by omega) hn (fun S' hS' o => h S' L (cI_sh hI (o.mono (by omega) (by omega)) hS' ?_) (fun j hj => o j (by omega)))
      intro q hq
      simp only [upd]
      by_cases hqs : q = s
      · rw [if_pos hqs]; exact ⟨Or.inl rfl, (hI.2.2.2.2.2 q hq).2⟩
      · rw [if_neg hqs]; exact hI.2.2.2.2.2 q hq
    · rw [if_pos (if11 z)] at h; exact fnd_c hI h
  · rw [if_neg z] at h; exact h S L hI oM.rf
theorem sFa0 {s : Nat} {f i : Int32} (h : sFa fo le s f i = 0) : sHo fo le s i 1 := by
  unfold sFa at h
  split at h
  · exact absurd h (by decide)
  · split at h
    · split at h
      · assumption
      · exact absurd h (by decide)
    · exact absurd h (by decide)
theorem put_c {s f i v : Int32} (hI : cI (t0, t1, g, c, ro, jo, fr, se, fo, le, it, la) S L) (h : ∀ S' L', cI (uPut s f i v (t0, t1, g, c, ro, jo, fr, se, fo, le, it, la)).2 S' L' → oM S S' → P (uPut s f i v (t0, t1, g, c, ro, jo, fr, se, fo, le, it, la)).1 S' L') : zCi mX10_put S L [.ref 0, .int s, .int f, .int i, .int v] P := by
  simp only [uPut, uFnd] at h
  refine e_X10_put (fun X => b_X10_put_0 ⟨fun q1 => ⟨fun q2 => ?_, fun z => ?_⟩, fun z => ?_⟩)
  · rw [if_pos ⟨q1, q2⟩] at h
    obtain ⟨s, hs, rfl⟩ := rng_lit (n := 3) rfl (by omega) q1
    rw [cl_nI (by omega)] at h
    refine faultAt_s hI.2.2.2.2.1 (by omega) ⟨fun z => ?_, fun z => ?_⟩
    · rw [if_pos z] at h
      exact store_s hI.2.2.2.2.1 hI.2.2.2.2.2 (by omega) (sFa0 z) (fun S' hS' o => h S' L (cI_sh hI (o.mono (by omega) (by omega)) hS' hI.2.2.2.2.2) (fun j hj => o j (by omega)))
    · rw [if_neg z] at h; exact fnd_c hI h
  · rw [if_neg (fun y => z y.2)] at h; exact h S L hI oM.rf
  · rw [if_neg (fun y => z y.1)] at h; exact h S L hI oM.rf
theorem get_c {s f i : Int32} (hI : cI (t0, t1, g, c, ro, jo, fr, se, fo, le, it, la) S L) (h : ∀ S' L', cI (uGet s f i (t0, t1, g, c, ro, jo, fr, se, fo, le, it, la)).2 S' L' → oM S S' → P (uGet s f i (t0, t1, g, c, ro, jo, fr, se, fo, le, it, la)).1 S' L') : zCi mX10_get S L [.ref 0, .int s, .int f, .int i] P := by
  simp only [uGet] at h
  refine e_X10_get (fun X => b_X10_get_0 ⟨fun q1 => ⟨fun q2 => ?_, fun z => ?_⟩, fun z => ?_⟩)
  · rw [if_pos ⟨q1, q2⟩] at h
    obtain ⟨s, hs, rfl⟩ := rng_lit (n := 3) rfl (by omega) q1
    rw [cl_nI (by omega)] at h
    refine faultAt_s hI.2.2.2.2.1 (by omega) ⟨fun z => ?_, fun z => ?_⟩
    · rw [if_pos z] at h
      refine item_s hI.2.2.2.2.1 hI.2.2.2.2.2 (by omega) ?_
      rw [if_pos (sFa0 z)]; exact h S L hI oM.rf
    · rw [if_neg z] at h
      exact finding_s hI.2.2.2.2.1 (fun S' hS' o => h S' L (cI_sh hI (o.mono (by omega) (by omega)) hS' hI.2.2.2.2.2) (fun j hj => o j (by omega)))
  · rw [if_neg (fun y => z y.2)] at h; exact h S L hI oM.rf
  · rw [if_neg (fun y => z y.1)] at h; exact h S L hI oM.rf
theorem copy_c {s i t j n : Int32} (hI : cI (t0, t1, g, c, ro, jo, fr, se, fo, le, it, la) S L) (h : ∀ S' L', cI (uCopy s i t j n (t0, t1, g, c, ro, jo, fr, se, fo, le, it, la)).2 S' L' → oM S S' → P (uCopy s i t j n (t0, t1, g, c, ro, jo, fr, se, fo, le, it, la)).1 S' L') : zCi mX10_copy S L [.ref 0, .int s, .int i, .int t, .int j, .int n] P := by
  simp only [uCopy, uFnd] at h
  have hS := hI.2.2.2.2.1
  refine e_X10_copy (fun X => b_X10_copy_0 ⟨fun q1 => ⟨fun q2 => ?_, fun z => ?_⟩, fun z => ?_⟩)
  · rw [if_pos ⟨q1, q2⟩] at h
    obtain ⟨s, hs, rfl⟩ := rng_lit (n := 3) rfl (by omega) q1
    obtain ⟨t, ht, rfl⟩ := rng_lit (n := 3) rfl (by omega) q2
    rw [cl_nI (n := s) (by omega), cl_nI (n := t) (by omega)] at h
    refine isLost_s hS (by omega) ⟨fun z => ?_, fun z => isLost_s hS (by omega) ⟨fun z2 => ?_, fun z2 => ?_⟩⟩
    · rw [if_pos (Or.inl (if11 z))] at h; exact fnd_c hI h
    · have n1 := if01 z
      have n2 := if01 z2
      rw [if_neg (fun y => y.elim n1 n2)] at h
      refine alike_s hS (by omega) (by omega) n1 n2 ⟨fun z3 => ?_, fun z3 => ?_⟩
      · rw [if_pos (if11 z3)] at h
        refine holds_s hS (by omega) ⟨fun z4 => ?_, fun z4 => holds_s hS (by omega) ⟨fun z5 => ?_, fun z5 => ?_⟩⟩
        · rw [if_neg (fun y => if01 z4 y.1)] at h; exact fnd_c hI h
        · rw [if_pos ⟨if11 z4, if11 z5⟩] at h
          exact move_s hS hI.2.2.2.2.2 (by omega) (by omega) (if11 z4) (if11 z5) (fun S' hS' o => h S' L (cI_sh hI (o.mono (by omega) (by omega)) hS' hI.2.2.2.2.2) (fun j hj => o j (by omega)))
        · rw [if_neg (fun y => if01 z5 y.2)] at h; exact fnd_c hI h
      · rw [if_neg (if01 z3)] at h; exact fnd_c hI h
    · rw [if_pos (Or.inr (if11 z2))] at h; exact fnd_c hI h
  · rw [if_neg (fun y => z y.2)] at h; exact h S L hI oM.rf
  · rw [if_neg (fun y => z y.1)] at h; exact h S L hI oM.rf
end SC
