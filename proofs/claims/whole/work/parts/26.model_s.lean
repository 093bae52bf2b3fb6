def mNx1 (np : Nat) (H Pl D : pF) (cty : Int32) (b : Int32) (p : Nat) : Int32 := if pLv np D (nI p) ∧ Pl p = cty ∧ ¬ H p ≤ 0 ∧ (b = -1 ∨ ¬ H p ≤ H b.toNatClampNeg) then nI p else b
def mNx (np : Nat) (H Pl D : pF) (cty : Int32) : Int32 := (List.range np).foldl (mNx1 np H Pl D cty) (-1)
def mHv1 (np : Nat) (H D : pF) (b : Int32) (p : Nat) : Int32 := if pLv np D (nI p) ∧ (b = -1 ∨ ¬ H p ≤ H b.toNatClampNeg) then nI p else b
def mHv (np : Nat) (H D : pF) : Int32 := (List.range np).foldl (mHv1 np H D) (-1)
theorem nextIn_l {np : Nat} {cty : Int32} {S : zS} {L : zL} (hp : S 72 2 = nI np) (hn : np ≤ 8) {X : Nat × (Nat → Int32)} {P : Int32 → zS → zL → Prop} : ∀ (d i : Nat) (b : Int32), i + d = np → (b = -1 ∨ ∃ q, q < 8 ∧ b = nI q) → P ((List.range' i d).foldl (mNx1 np (S 88) (S 89) (S 92) cty) b) S L → zU mX11_nextIn X S L 4 [some (.ref 72), some (.int cty), some (.int b), some (.int (nI i)), none] [] (zpi P) := by
  intro d
  induction d with
  | zero =>
    intro i b hd hb h
    refine b_X11_nextIn_4 (np := np) ⟨fun _ => h, fun q => absurd ?_ q⟩
    rw [hp]; exact nI_le (by omega) (by omega)
  | succ d ih =>
    intro i b hd hb h
    rw [List.range'_succ, List.foldl_cons] at h
    have go : ∀ b', mNx1 np (S 88) (S 89) (S 92) cty b i = b' → (b' = -1 ∨ ∃ q, q < 8 ∧ b' = nI q) → ∀ x1, x1 = nI i + 1 → zU mX11_nextIn X S L 4 [some (.ref 72), some (.int cty), some (.int b'), some (.int x1), none] [] (zpi P) := by
      intro b' hb' hb2 x1 e1
      rw [e1, nI_1]
      exact ih (i + 1) b' (by omega) hb2 (by rw [← hb']; exact h)
    have no : ¬ (pLv np (S 92) (nI i) ∧ S 89 i = cty ∧ ¬ S 88 i ≤ 0) → zU mX11_nextIn X S L 43 [some (.ref 72), some (.int cty), some (.int b), some (.int (nI i)), none] [] (zpi P) := by
      intro hno
      refine b_X11_nextIn_43 (np := np) (b_X11_nextIn_44 (np := np) ⟨fun _ => go b ?_ hb, fun z => absurd rfl z⟩)
      rw [mNx1, if_neg (fun z => hno ⟨z.1, z.2.1, z.2.2.1⟩)]
    refine b_X11_nextIn_4 (np := np) ⟨fun q => absurd q ?_, fun _ => ⟨⟨hp, hn⟩, fun q1 => ?_, fun q => no (fun z => q z.1)⟩⟩
    · rw [hp]; exact nI_ge (by omega) (by omega)
    rw [cl_nI (n := i) (by omega)]
    refine ⟨vp_in_nI (by omega) (by omega), fun q => no (fun z => q z.2.1), fun q2 => ⟨vp_in_nI (by omega) (by omega), fun q => no (fun z => z.2.2 q), fun q3 => ?_⟩⟩
    refine b_X11_nextIn_44 (np := np) ⟨fun z => absurd z (by decide), fun _ => ⟨fun q4 => go (nI i) ?_ (Or.inr ⟨i, by omega, rfl⟩), fun q4 => ?_⟩⟩
    · rw [mNx1, if_pos ⟨q1, q2, q3, Or.inl q4⟩]
    · rcases hb with hb | ⟨w, hw, rfl⟩
      · exact absurd hb q4
      · rw [cl_nI (n := i) (by omega), cl_nI (n := w) (by omega)]
        refine ⟨vp_in_nI (by omega) (by omega), vp_in_nI (by omega) (by omega), fun q5 => go (nI w) ?_ (Or.inr ⟨w, hw, rfl⟩), fun q5 => go (nI i) ?_ (Or.inr ⟨i, by omega, rfl⟩)⟩
        · rw [mNx1, cl_nI (n := w) (by omega), if_neg]
          rintro ⟨-, -, -, z | z⟩
          · exact q4 z
          · exact z q5
        · rw [mNx1, cl_nI (n := w) (by omega), if_pos ⟨q1, q2, q3, Or.inr q5⟩]
theorem nextIn_s {np : Nat} {cty : Int32} {S : zS} {L : zL} (hp : S 72 2 = nI np) (hn : np ≤ 8) {P : Int32 → zS → zL → Prop} (h : P (mNx np (S 88) (S 89) (S 92) cty) S L) : zCi mX11_nextIn S L [.ref 72, .int cty] P := by
  refine e_X11_nextIn (fun X => b_X11_nextIn_0 (np := np) (nextIn_l hp hn np 0 (-1) (by omega) (Or.inl rfl) ?_))
  rw [← List.range_eq_range']; exact h
theorem heavy_l {np : Nat} {S : zS} {L : zL} (hp : S 72 2 = nI np) (hn : np ≤ 8) {X : Nat × (Nat → Int32)} {P : Int32 → zS → zL → Prop} : ∀ (d i : Nat) (b : Int32), i + d = np → (b = -1 ∨ ∃ q, q < 8 ∧ b = nI q) → P ((List.range' i d).foldl (mHv1 np (S 88) (S 92)) b) S L → zU mX11_heaviestNow X S L 4 [some (.ref 72), some (.int b), some (.int (nI i))] [] (zpi P) := by
  intro d
  induction d with
  | zero =>
    intro i b hd hb h
    refine b_X11_heaviestNow_4 (np := np) ⟨fun _ => h, fun q => absurd ?_ q⟩
    rw [hp]; exact nI_le (by omega) (by omega)
  | succ d ih =>
    intro i b hd hb h
    rw [List.range'_succ, List.foldl_cons] at h
    have go : ∀ b', mHv1 np (S 88) (S 92) b i = b' → (b' = -1 ∨ ∃ q, q < 8 ∧ b' = nI q) → ∀ x1, x1 = nI i + 1 → zU mX11_heaviestNow X S L 4 [some (.ref 72), some (.int b'), some (.int x1)] [] (zpi P) := by
      intro b' hb' hb2 x1 e1
      rw [e1, nI_1]
      exact ih (i + 1) b' (by omega) hb2 (by rw [← hb']; exact h)
    refine b_X11_heaviestNow_4 (np := np) ⟨fun q => absurd q ?_, fun _ => ⟨⟨hp, hn⟩, fun q1 => ⟨fun q4 => go (nI i) ?_ (Or.inr ⟨i, by omega, rfl⟩), fun q4 => ?_⟩, fun q => go b ?_ hb⟩⟩
    · rw [hp]; exact nI_ge (by omega) (by omega)
    · rw [mHv1, if_pos ⟨q1, Or.inl q4⟩]
    · rcases hb with hb | ⟨w, hw, rfl⟩
      · exact absurd hb q4
      · rw [cl_nI (n := i) (by omega), cl_nI (n := w) (by omega)]
        refine ⟨vp_in_nI (by omega) (by omega), vp_in_nI (by omega) (by omega), fun q5 => go (nI w) ?_ (Or.inr ⟨w, hw, rfl⟩), fun q5 => go (nI i) ?_ (Or.inr ⟨i, by omega, rfl⟩)⟩
        · rw [mHv1, cl_nI (n := w) (by omega), if_neg]
          rintro ⟨-, z | z⟩
          · exact q4 z
          · exact z q5
        · rw [mHv1, cl_nI (n := w) (by omega), if_pos ⟨q1, Or.inr q5⟩]
    · rw [mHv1, if_neg (fun z => q z.1)]
theorem heavy_s {np : Nat} {S : zS} {L : zL} (hp : S 72 2 = nI np) (hn : np ≤ 8) {P : Int32 → zS → zL → Prop} (h : P (mHv np (S 88) (S 92)) S L) : zCi mX11_heaviestNow S L [.ref 72] P := by
  refine e_X11_heaviestNow (fun X => b_X11_heaviestNow_0 (np := np) (heavy_l hp hn np 0 (-1) (by omega) (Or.inl rfl) ?_))
  rw [← List.range_eq_range']; exact h
/-- the reference's choice is the months' -/
theorem mNx_pWo {np : Nat} {H Pl D N D' : pF} {cty : Int32} (hn : np ≤ 8) (hH : ∀ p, p < np → H p = N p) (hPl : ∀ p, p < np → Pl p = N (8 + p)) (hD : ∀ p, p < np → D p = D' p) : mNx np H Pl D cty = pWo np N D' cty := by
  have key : ∀ d i (b : Int32) (c : Int32 × Int32), i + d = np → b = c.1 → (c.1 = -1 ∧ c.2 = 0 ∨ ∃ q, q < np ∧ c.1 = nI q ∧ c.2 = N q ∧ ¬ N q ≤ 0) → (List.range' i d).foldl (mNx1 np H Pl D cty) b = ((List.range' i d).foldl (pWo1 N D' cty) c).1 := by
    intro d
    induction d with
    | zero => intro i b c _ hb _; exact hb
    | succ d ih =>
      intro i b c hd hb hc
      rw [List.range'_succ, List.foldl_cons, List.foldl_cons]
      have hi : i < np := by omega
      have hlv : pLv np D (nI i) ↔ D' i = -1 := by
        simp only [pLv, cl_nI (show i < 2000 by omega), hD i hi]
        constructor
        · intro z; exact z.2.2
        · intro z; exact ⟨nI_pos (by omega), nI_lt hi (by omega), z⟩
      have hcond : (pLv np D (nI i) ∧ Pl i = cty ∧ ¬ H i ≤ 0 ∧ (b = -1 ∨ ¬ H i ≤ H b.toNatClampNeg)) ↔ (c.2 < N i ∧ N (8 + i) = cty ∧ D' i = -1) := by
        rw [hlv, hPl i hi, hH i hi, hb]
        rcases hc with ⟨h1, h2⟩ | ⟨q, hq, h1, h2, h3⟩
        · rw [h1, h2]
          constructor
          · rintro ⟨a, b, c, -⟩; exact ⟨i32_lt c, b, a⟩
          · rintro ⟨a, b, c⟩; exact ⟨c, b, i32_nle a, Or.inl rfl⟩
        · rw [h1, h2, cl_nI (by omega), hH q hq]
          have n1 : ¬ nI q = -1 := by
            intro e
            have := nI_pos (n := q) (by omega)
            rw [e] at this
            exact absurd (by decide) this
          constructor
          · rintro ⟨a, b, c, d | d⟩
            · exact absurd d n1
            · exact ⟨i32_lt d, b, a⟩
          · rintro ⟨a, b, c⟩
            exact ⟨c, b, fun z => h3 (Int32.le_trans (Int32.le_of_lt a) z), Or.inr (i32_nle a)⟩
      by_cases hz : c.2 < N i ∧ N (8 + i) = cty ∧ D' i = -1
      · have e1 : mNx1 np H Pl D cty b i = nI i := by rw [mNx1, if_pos (hcond.mpr hz)]
        have e2 : pWo1 N D' cty c i = (nI i, N i) := by rw [pWo1, if_pos hz]
        rw [e1, e2]
        refine ih (i + 1) _ _ (by omega) rfl (Or.inr ⟨i, hi, rfl, rfl, ?_⟩)
        have := (hcond.mpr hz).2.2.1
        rwa [hH i hi] at this
      · have e1 : mNx1 np H Pl D cty b i = b := by rw [mNx1, if_neg (fun z => hz (hcond.mp z))]
        have e2 : pWo1 N D' cty c i = c := by rw [pWo1, if_neg hz]
        rw [e1, e2]
        exact ih (i + 1) _ _ (by omega) hb hc
  rw [mNx, pWo, List.range_eq_range']
  exact key np 0 (-1) (-1, 0) (by omega) rfl (Or.inl ⟨rfl, rfl⟩)
