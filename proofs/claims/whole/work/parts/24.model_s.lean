theorem isText_s {x : Int32} {S : zS} {L : zL} {P : Int32 → zS → zL → Prop} (h : P (if (0 : Int32) ≤ x ∧ x ≤ (1 : Int32) then 1 else 0) S L) : zCi mX11_isText S L [.int x] P := e_X11_isText (fun X => b_X11_isText_0 (fun y e => by subst e; exact ⟨nar_if, h⟩))
theorem isMonth_s {x : Int32} {S : zS} {L : zL} {P : Int32 → zS → zL → Prop} (h : P (if (0 : Int32) ≤ x ∧ x ≤ (23 : Int32) then 1 else 0) S L) : zCi mX11_isMonth S L [.int x] P := e_X11_isMonth (fun X => b_X11_isMonth_0 (fun y e => by subst e; exact ⟨nar_if, h⟩))
theorem isCounty_s {x : Int32} {S : zS} {L : zL} {P : Int32 → zS → zL → Prop} (h : P (if (0 : Int32) ≤ x ∧ x ≤ (3 : Int32) then 1 else 0) S L) : zCi mX11_isCounty S L [.int x] P := e_X11_isCounty (fun X => b_X11_isCounty_0 (fun y e => by subst e; exact ⟨nar_if, h⟩))
theorem isSheet_s {x : Int32} {S : zS} {L : zL} {P : Int32 → zS → zL → Prop} (h : P (if (0 : Int32) ≤ x ∧ x ≤ (3 : Int32) then 1 else 0) S L) : zCi mX11_isSheet S L [.int x] P := e_X11_isSheet (fun X => b_X11_isSheet_0 (fun y e => by subst e; exact ⟨nar_if, h⟩))
/-- a place by its number -/
theorem rng_ix {x : Int32} {np : Nat} (hb : np < 2 ^ 30) (h : (0 : Int32) ≤ x ∧ x ≤ nI np - 1) : ∃ j, j < np ∧ x = nI j := by
  rcases Nat.eq_zero_or_pos np with h0 | h0
  · subst h0
    exfalso
    have h1 := Int32.le_trans h.1 h.2
    exact absurd h1 (by decide)
  · obtain ⟨m, rfl⟩ : ∃ m, np = m + 1 := ⟨np - 1, by omega⟩
    rw [nI_pred] at h
    refine ix_of (i32_nlt h.1) (fun z => ?_) (by omega)
    have := Int32.le_trans z h.2
    exact absurd this (nI_ge (by omega) (by omega))
theorem rng_iff {x : Int32} {np : Nat} (hb : np < 2 ^ 30) : ((0 : Int32) ≤ x ∧ x ≤ nI np - 1) ↔ (¬ x < 0 ∧ x < nI np) := by
  constructor
  · intro h
    obtain ⟨j, hj, rfl⟩ := rng_ix hb h
    exact ⟨nI_pos (by omega), nI_lt hj (by omega)⟩
  · intro h
    obtain ⟨j, hj, rfl⟩ := ix_of h.1 (i32_nle h.2) (by omega)
    obtain ⟨m, rfl⟩ : ∃ m, np = m + 1 := ⟨np - 1, by omega⟩
    rw [nI_pred]
    exact ⟨nI_pos' (by omega), nI_le (by omega) (by omega)⟩
theorem mlives_s {np : Nat} {who : Int32} {S : zS} {L : zL} (hp : S 72 2 = nI np) (hn : np ≤ 8) {P : Int32 → zS → zL → Prop} (h : P (if pLv np (S 92) who then 1 else 0) S L) : zCi mX11_lives S L [.ref 72, .int who] P := by
  refine e_X11_lives (fun X => b_X11_lives_0 ?_)
  rw [hp]
  refine ⟨fun q => ?_, fun q => ?_⟩
  · obtain ⟨j, hj, rfl⟩ := rng_ix (by omega) q
    have q' := (rng_iff (by omega)).mp q
    refine ⟨vp_in_nI (by omega) (by omega), fun z => ?_, fun z => ?_⟩
    · rw [if_neg (fun w => z w.2.2)] at h; exact h
    · rw [if_pos ⟨q'.1, q'.2, z⟩] at h; exact h
  · rw [if_neg (fun w => q ((rng_iff (by omega)).mpr ⟨w.1, w.2.1⟩))] at h; exact h
