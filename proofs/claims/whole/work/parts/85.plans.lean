/-! WHAT HAD BETTER BE: the class -/
def peE (e : T3) : Prop := (∃ q, q < 4 ∧ e.2.1 = nI q) ∧ (∃ q, q < 10 ∧ e.2.2 = nI q)
def deE (e : T3) : Prop := ∃ q, q < 24 ∧ e.1 = nI q
def roE (e : T3) : Prop := (∃ q, q < 24 ∧ e.1 = nI q) ∧ (∃ q, q ≤ 4 ∧ e.2.2 = nI q)
section XW
variable {pe de ro jo fr pe' de' ro' fr' : List T3}
theorem xW.to_pe (h : xW pe de ro jo fr) (hl : pe'.length ≤ 8) (he : ∀ e ∈ pe', peE e) : xW pe' de ro jo fr := by
  obtain ⟨⟨⟨a1, a2, a3, a4, a5⟩, b1, b2, b3, b4, b5, b6, b7⟩, c1, c2⟩ := h
  exact ⟨⟨⟨hl, a2, a3, a4, a5⟩, fun e z => (he e z).1, b2, b3, b4, b5, b6, b7⟩, fun e z => (he e z).2, c2⟩
theorem xW.to_de (h : xW pe de ro jo fr) (hl : de'.length ≤ 10) (he : ∀ e ∈ de', deE e) : xW pe de' ro jo fr := by
  obtain ⟨⟨⟨a1, a2, a3, a4, a5⟩, b1, b2, b3, b4, b5, b6, b7⟩, c1, c2⟩ := h
  exact ⟨⟨⟨a1, hl, a3, a4, a5⟩, b1, b2, he, b4, b5, b6, b7⟩, c1, c2⟩
theorem xW.to_ro (h : xW pe de ro jo fr) (hl : ro'.length ≤ 9) (he : ∀ e ∈ ro', roE e) : xW pe de ro' jo fr := by
  obtain ⟨⟨⟨a1, a2, a3, a4, a5⟩, b1, b2, b3, b4, b5, b6, b7⟩, c1, c2⟩ := h
  exact ⟨⟨⟨a1, a2, hl, a4, a5⟩, b1, b2, b3, b4, fun e z => (he e z).1, b6, fun e z => by obtain ⟨q, h1, h2⟩ := (he e z).2; exact ⟨q, by omega, h2⟩⟩, c1, fun e z => (he e z).2⟩
theorem xW.to_fr (h : xW pe de ro jo fr) (hl : fr'.length ≤ 8) (he : ∀ e ∈ fr', deE e) : xW pe de ro jo fr' := by
  obtain ⟨⟨⟨a1, a2, a3, a4, a5⟩, b1, b2, b3, b4, b5, b6, b7⟩, c1, c2⟩ := h
  exact ⟨⟨⟨a1, a2, a3, a4, hl⟩, b1, b2, b3, b4, b5, he, b7⟩, c1, c2⟩
theorem xW.peE (h : xW pe de ro jo fr) : ∀ e ∈ pe, peE e := fun e z => ⟨h.1.2.1 e z, h.2.1 e z⟩
theorem xW.deE (h : xW pe de ro jo fr) : ∀ e ∈ de, deE e := h.1.2.2.2.1
theorem xW.roE (h : xW pe de ro jo fr) : ∀ e ∈ ro, roE e := fun e z => ⟨h.1.2.2.2.2.2.1 e z, h.2.2 e z⟩
theorem rmI_len {l : List T3} {x : Int32} : (rmI l x).length ≤ l.length := by
  unfold rmI; split
  · exact Nat.le_refl _
  · exact List.length_eraseIdx_le _ _
theorem rmI_mem {l : List T3} {x : Int32} {e : T3} (h : e ∈ rmI l x) : e ∈ l := by
  unfold rmI at h; split at h
  · exact h
  · exact List.mem_of_mem_eraseIdx h
theorem chO_len {l : List T3} {ch : Int32 × Int32} : (chO l ch).length ≤ l.length := Nat.le_trans rmI_len rmI_len
theorem chO_mem {l : List T3} {ch : Int32 × Int32} {e : T3} (h : e ∈ chO l ch) : e ∈ l := rmI_mem (rmI_mem h)
end XW
theorem chs_mem {n : Nat} {ch : Int32 × Int32} (h : ch ∈ chs n) : ch = (-1, -1) ∨ (∃ a, a < n ∧ ch = (nI a, -1)) ∨ ∃ a b, a < b ∧ b < n ∧ ch = (nI a, nI b) := by
  unfold chs at h
  rcases List.mem_cons.mp h with h | h
  · exact Or.inl h
  · rcases List.mem_append.mp h with h | h
    · obtain ⟨a, ha, rfl⟩ := List.mem_map.mp h
      exact Or.inr (Or.inl ⟨a, List.mem_range.mp ha, rfl⟩)
    · obtain ⟨a, ha, h⟩ := List.mem_flatMap.mp h
      obtain ⟨b, hb, rfl⟩ := List.mem_map.mp h
      have := List.mem_range'_1.mp hb
      have := List.mem_range.mp ha
      exact Or.inr (Or.inr ⟨a, b, by omega, by omega, rfl⟩)
/-- on to the next -/
def goC (ch : Int32 × Int32) (n : Int32) : Int32 × Int32 × Int32 :=
  if ch.2 = -1 ∧ ¬ n ≤ ch.1 + 1 then (1, ch.1 + 1, ch.2)
  else if ch.2 = -1 then (if n ≤ 1 then 0 else 1, 0, 1)
  else if n ≤ ch.2 + 1 then (if n ≤ ch.1 + 1 + 1 then 0 else 1, ch.1 + 1, ch.1 + 1 + 1)
  else (if n ≤ ch.2 + 1 then 0 else 1, ch.1, ch.2 + 1)
theorem goC_chs : ∀ n, n ≤ 10 → ∀ r, r < (chs n).length → (if r + 1 < (chs n).length then goC ((chs n).getD r (0, 0)) (nI n) = (1, (chs n).getD (r + 1) (0, 0)) else (goC ((chs n).getD r (0, 0)) (nI n)).1 = 0) := by decide +kernel
theorem chs_len : ∀ n, n ≤ 10 → (chs n).length ≤ 56 := by decide +kernel
def pTl (ch : Int32 × Int32) (i : Int32) : Int32 := if i = -1 then (if ch.1 = -1 then 0 else if ch.2 = -1 then 1 else 2) else if i = 0 then ch.1 else ch.2
def pTell (o : Option (Int32 × Int32)) (i : Int32) : Int32 := match o with
  | none => -1
  | some ch => pTl ch i
section CHS
variable {S : zS} {L : zL} {ch : Int32 × Int32}
theorem goOn_s {n : Int32} (h0 : S 57 0 = ch.1) (h1 : S 57 1 = ch.2) {P : Int32 → zS → zL → Prop} (h : ∀ S', S' 57 0 = (goC ch n).2.1 → S' 57 1 = (goC ch n).2.2 → zOut 57 57 S S' → P (goC ch n).1 S' L) : zCi mX1_goOn S L [.ref 57, .int n] P := by
  have u : ∀ {f : pF} {x y : Int32}, upd (upd f 0 x) 1 y 0 = x ∧ upd (upd f 0 x) 1 y 1 = y := by intro f x y; simp [upd]
  have fin : ∀ X S1, ∀ x y, goC ch n = (if n ≤ y then 0 else 1, x, y) → S1 57 0 = x → S1 57 1 = y → zOut 57 57 S S1 → zU mX1_goOn X S1 L 94 [some (.ref 57), some (.int n)] [] (zpi P) := by
    intro X S1 x y hg hx hy ho
    have hP := h S1 (by rw [hx, hg]) (by rw [hy, hg]) ho
    rw [hg] at hP
    refine b_X1_goOn_94 ⟨fun z => ?_, fun z => ?_⟩
    · rw [hy] at z; simp only [if_pos z] at hP; exact hP
    · rw [hy] at z; simp only [if_neg z] at hP; exact hP
  have mid : ∀ X, ¬ (ch.2 = -1 ∧ ¬ n ≤ ch.1 + 1) → zU mX1_goOn X S L 30 [some (.ref 57), some (.int n)] [] (zpi P) := by
    intro X hno
    refine b_X1_goOn_30 ?_
    rw [h0, h1]
    refine ⟨fun z => ⟨fun z2 S1 e1 S2 e2 => ?_, fun z2 S1 e1 => ?_⟩, fun z S1 e1 S2 e2 => ?_⟩
    · have a : S1 57 0 = ch.1 + 1 := by rw [e1, zc_eq]; simp [upd]
      refine fin X S2 (ch.1 + 1) (ch.1 + 1 + 1) ?_ ?_ ?_ ?_
      · rw [goC, if_neg hno, if_neg z, if_pos z2]
      · rw [e2, zc_eq, upd, if_neg (by omega), a]
      · rw [e2, zc_eq, upd, if_pos rfl, a]
      · intro j hj; rw [e2, zc_ne _ _ (by omega), e1, zc_ne _ _ (by omega)]
    · refine fin X S1 ch.1 (ch.2 + 1) ?_ ?_ ?_ ?_
      · rw [goC, if_neg hno, if_neg z, if_neg z2, if_neg z2]
      · rw [e1, zc_eq, upd, if_neg (by omega), h0]
      · rw [e1, zc_eq, upd, if_pos rfl]
      · intro j hj; rw [e1, zc_ne _ _ (by omega)]
    · refine fin X S2 0 1 ?_ ?_ ?_ ?_
      · rw [goC, if_neg hno, if_pos z]
      · rw [e2, zc_eq, upd, if_neg (by omega), e1, zc_eq, upd, if_pos rfl]
      · rw [e2, zc_eq, upd, if_pos rfl]
      · intro j hj; rw [e2, zc_ne _ _ (by omega), e1, zc_ne _ _ (by omega)]
  refine e_X1_goOn (fun X => b_X1_goOn_0 ?_)
  rw [h0, h1]
  refine ⟨fun z => mid X (fun y => z y.1), fun z => ⟨fun z2 => mid X (fun y => y.2 z2), fun z2 S1 e1 => ?_⟩⟩
  have hg : goC ch n = (1, ch.1 + 1, ch.2) := by rw [goC, if_pos ⟨z, z2⟩]
  rw [hg] at h
  refine h S1 ?_ ?_ (fun j hj => by rw [e1, zc_ne _ _ (by omega)])
  · rw [e1, zc_eq, upd, if_pos rfl]
  · rw [e1, zc_eq, upd, if_neg (by omega), h1]
theorem tell_s {i : Int32} (h0 : S 57 0 = ch.1) (h1 : S 57 1 = ch.2) {P : Int32 → zS → zL → Prop} (h : P (pTl ch i) S L) : zCi mX1_tell S L [.ref 57, .int i] P := by
  unfold pTl at h
  refine e_X1_tell (fun X => b_X1_tell_0 ?_)
  rw [h0, h1]
  refine ⟨fun z => ⟨fun z1 => ?_, fun z1 => ?_⟩, fun z => ⟨fun z1 => ⟨fun z2 => ?_, fun z2 => ?_⟩, fun z1 => ?_⟩⟩
  · rw [if_neg z, if_neg z1] at h; exact h
  · rw [if_neg z, if_pos z1] at h; exact h
  · rw [if_pos z, if_neg z1, if_neg z2] at h; exact h
  · rw [if_pos z, if_neg z1, if_pos z2] at h; exact h
  · rw [if_pos z, if_pos z1] at h; exact h
theorem takeOut_g {k n : Nat} {x : Int32} (hk : zRo k n) {l : List T3} (hR : zR S k l) (hn : l.length ≤ n ∧ n < 2000) (hx : x = -1 ∨ ∃ a, a < l.length ∧ x = nI a) {P : zS → zL → Prop} (h : ∀ S', zR S' k (rmI l x) → zOut k (k + 3) S S' → P S' L) : zCv mX5_takeOut S L [.ref k, .int x] P := by
  rcases hx with rfl | ⟨a, ha, rfl⟩
  · exact rows_noOut hk (by decide) (h S (by rw [rmI, if_pos (by decide)]; exact hR) zOut.rf)
  · refine rows_takeOut hk hR ⟨hn.1, by omega⟩ ha (fun S' hR' ho => h S' ?_ ho)
    rw [rmI, if_neg (nI_pos (by omega)), cl_nI (by omega)]; exact hR'
theorem chs_ix {l : List T3} (hc : ch ∈ chs l.length) (hl : l.length ≤ 10) : (ch.2 = -1 ∨ ∃ a, a < l.length ∧ ch.2 = nI a) ∧ (ch.1 = -1 ∨ ∃ a, a < (rmI l ch.2).length ∧ ch.1 = nI a) := by
  rcases chs_mem hc with rfl | ⟨a, ha, rfl⟩ | ⟨a, b, hab, hb, rfl⟩
  · exact ⟨Or.inl rfl, Or.inl rfl⟩
  · refine ⟨Or.inl rfl, Or.inr ⟨a, ?_, rfl⟩⟩
    rw [rmI, if_pos (show (-1 : Int32) < 0 by decide)]; exact ha
  · refine ⟨Or.inr ⟨b, hb, rfl⟩, Or.inr ⟨a, ?_, rfl⟩⟩
    rw [rmI, if_neg (nI_pos (by omega)), cl_nI (by omega), List.length_eraseIdx_of_lt hb]; omega
theorem outOf36_s {l : List T3} (h0 : S 57 0 = ch.1) (h1 : S 57 1 = ch.2) (hR : zR S 36 l) (hl : l.length ≤ 10) (hc : ch ∈ chs l.length) {P : zS → zL → Prop} (h : ∀ S', zR S' 36 (chO l ch) → zOut 36 39 S S' → P S' L) : zCv mX1_takeOutOf S L [.ref 57, .ref 36] P := by
  obtain ⟨i1, i2⟩ := chs_ix hc hl
  refine e_X1_takeOutOf_36 (fun X => b_X1_takeOutOf_36_0 ?_)
  rw [h1]
  refine takeOut_g (n := 10) ⟨rfl, rfl, rfl, rfl⟩ hR ⟨by omega, by omega⟩ i1 (fun S1 hR1 o1 => ?_)
  rw [o1 57 (by omega), h0]
  exact takeOut_g (n := 10) ⟨rfl, rfl, rfl, rfl⟩ hR1 ⟨Nat.le_trans rmI_len (by omega), by omega⟩ i2 (fun S2 hR2 o2 => h S2 hR2 (o1.trans o2))
theorem outOf40_s {l : List T3} (h0 : S 57 0 = ch.1) (h1 : S 57 1 = ch.2) (hR : zR S 40 l) (hl : l.length ≤ 9) (hc : ch ∈ chs l.length) {P : zS → zL → Prop} (h : ∀ S', zR S' 40 (chO l ch) → zOut 40 43 S S' → P S' L) : zCv mX1_takeOutOf S L [.ref 57, .ref 40] P := by
  obtain ⟨i1, i2⟩ := chs_ix hc (by omega)
  refine e_X1_takeOutOf_40 (fun X => b_X1_takeOutOf_40_0 ?_)
  rw [h1]
  refine takeOut_g (n := 9) ⟨rfl, rfl, rfl, rfl⟩ hR ⟨by omega, by omega⟩ i1 (fun S1 hR1 o1 => ?_)
  rw [o1 57 (by omega), h0]
  exact takeOut_g (n := 9) ⟨rfl, rfl, rfl, rfl⟩ hR1 ⟨Nat.le_trans rmI_len (by omega), by omega⟩ i2 (fun S2 hR2 o2 => h S2 hR2 (o1.trans o2))
end CHS
section PLN
variable {pe de ro jo fr se : List T3} {g c : Int32} {L : zL} {X : Nat × (Nat → Int32)}
/-- a run of the other course, whatever it is told -/
theorem run52_s {pe' de' ro' jo' fr' : List T3} {g' c' : Int32} {S : zS} (hW : xW pe' de' ro' jo' fr') (hT : zT S 31 pe' de' ro' jo' fr' g' c') {P : zS → zL → Prop} (h : ∀ S', cRun S' 52 pe' de' ro' jo' fr' g' c' 24 → zOut 52 55 S S' → P S' L) : zCv mX2_run S L [.ref 52, .int (23 : Int32)] P :=
  run_s zCo2 hW.1 hT (n := 24) (by omega) (last_nI (q := 23) (by omega)) (h _ cRun_of zRun_out)
theorem zT_ro {S S' : zS} {t : Nat} {ro' : List T3} (h : zT S t pe de ro jo fr g c) (hR : zR S' (t + 9) ro') (ho : zOut (t + 9) (t + 12) S S') : zT S' t pe de ro' jo fr g c := by
  obtain ⟨h1, h2, h3, h4, h5, h6, h7⟩ := h
  exact ⟨h1.out ho (by omega), h2.out ho (by omega), hR, h4.out ho (by omega), h5.out ho (by omega), by rw [ho _ (by omega)]; exact h6, by rw [ho _ (by omega)]; exact h7⟩
theorem zT_de {S S' : zS} {t : Nat} {de' : List T3} (h : zT S t pe de ro jo fr g c) (hR : zR S' (t + 5) de') (ho : zOut (t + 5) (t + 8) S S') : zT S' t pe de' ro jo fr g c := by
  obtain ⟨h1, h2, h3, h4, h5, h6, h7⟩ := h
  exact ⟨h1.out ho (by omega), hR, h3.out ho (by omega), h4.out ho (by omega), h5.out ho (by omega), by rw [ho _ (by omega)]; exact h6, by rw [ho _ (by omega)]; exact h7⟩
theorem zT_pe {S S' : zS} {t : Nat} {pe' : List T3} (h : zT S t pe de ro jo fr g c) (hR : zR S' (t + 1) pe') (ho : zOut (t + 1) (t + 4) S S') : zT S' t pe' de ro jo fr g c := by
  obtain ⟨h1, h2, h3, h4, h5, h6, h7⟩ := h
  exact ⟨hR, h2.out ho (by omega), h3.out ho (by omega), h4.out ho (by omega), h5.out ho (by omega), by rw [ho _ (by omega)]; exact h6, by rw [ho _ (by omega)]; exact h7⟩
theorem zT_fr {S S' : zS} {t : Nat} {fr' : List T3} (h : zT S t pe de ro jo fr g c) (hR : zR S' (t + 17) fr') (ho : zOut (t + 17) (t + 20) S S') : zT S' t pe de ro jo fr' g c := by
  obtain ⟨h1, h2, h3, h4, h5, h6, h7⟩ := h
  exact ⟨h1.out ho (by omega), h2.out ho (by omega), h3.out ho (by omega), h4.out ho (by omega), hR, by rw [ho _ (by omega)]; exact h6, by rw [ho _ (by omega)]; exact h7⟩
theorem pWr_b {fb : Int32} (hW : xW pe de ro jo fr) : 0 ≤ (pWr (pC pe de ro jo fb g c 24).1).toInt := by
  have hb := pBd_C (fb := fb) (g := g) (c := c) hW 24 (by omega)
  have e : pWr (pC pe de ro jo fb g c 24).1 = 0 + (pC pe de ro jo fb g c 24).1 28 + (pC pe de ro jo fb g c 24).1 29 + (pC pe de ro jo fb g c 24).1 30 + (pC pe de ro jo fb g c 24).1 31 := rfl
  have b0 := hb.2.2 28 (by omega) (by omega) (by omega)
  have b1 := hb.2.2 29 (by omega) (by omega) (by omega)
  have b2 := hb.2.2 30 (by omega) (by omega) (by omega)
  have b3 := hb.2.2 31 (by omega) (by omega) (by omega)
  rw [e, Int32.zero_add]
  have c1 := i_add (a := (pC pe de ro jo fb g c 24).1 28) (b := (pC pe de ro jo fb g c 24).1 29) (by omega) (by omega)
  have c2 := i_add (a := (pC pe de ro jo fb g c 24).1 28 + (pC pe de ro jo fb g c 24).1 29) (b := (pC pe de ro jo fb g c 24).1 30) (by omega) (by omega)
  rw [i_add (by omega) (by omega)]
  omega
/-! the round that brings most -/
theorem xW_more (hW : xW pe de ro jo fr) (hl : ro.length ≤ 8) {m q pc : Nat} (hm : m < 24) (hp : pc ≤ 4) : xW pe de (ro ++ [(nI m, nI q, nI pc)]) jo fr := by
  refine hW.to_ro (by simp; omega) (fun e he => ?_)
  rcases List.mem_append.mp he with z | z
  · exact hW.roE e z
  · rw [List.mem_singleton.mp z]; exact ⟨⟨m, hm, rfl⟩, ⟨pc, hp, rfl⟩⟩
abbrev fK (pe de ro jo fr : List T3) (g c pace : Int32) (k : Nat) : Nat × Int32 := (List.range k).foldl (pPk1 pe de ro jo fr g c pace) (0, -1)
theorem fK_succ {pace : Int32} {k : Nat} : fK pe de ro jo fr g c pace (k + 1) = pPk1 pe de ro jo fr g c pace (fK pe de ro jo fr g c pace k) k := by
  unfold fK; rw [List.range_succ, List.foldl_append]; rfl
def FI (S0 S : zS) (b : Nat × Int32) (pace : Int32) (k : Nat) : Prop := (∀ j, j < 31 ∨ 55 < j → j ≠ 56 → S j = S0 j) ∧ (∀ i, i < 4 ∨ 7 < i → S 56 i = S0 56 i) ∧ S 56 4 = pace ∧ S 56 7 = b.2 ∧ (0 < k → S 56 5 = nI (b.1 / 4) ∧ S 56 6 = nI (b.1 % 4))
theorem fr_in {S0 : zS} {P : zS → zL → Prop} (hT : zT S0 5 pe de ro jo fr g c) (hW : xW pe de ro jo fr) (hl : ro.length ≤ 8) {pc m : Nat} (hp : pc ≤ 4) (hm : m < 24) : ∀ (d q : Nat) (S : zS), q + d = 4 → FI S0 S (fK pe de ro jo fr g c (nI pc) (4 * m + q)) (nI pc) (4 * m + q) → (∀ S', FI S0 S' (fK pe de ro jo fr g c (nI pc) (4 * (m + 1))) (nI pc) (4 * (m + 1)) → zU mX4_findRound X S' L 21 [some (.ref 56), some (.int (nI pc)), some (.int (nI (m + 1))), none, none] [] (zpv P)) → zU mX4_findRound X S L 29 [some (.ref 56), some (.int (nI pc)), some (.int (nI m)), some (.int (nI q)), none] [] (zpv P) := by
  intro d
  induction d with
  | zero =>
    intro q S hd hI K
    have : q = 4 := by omega
    subst this
    refine b_X4_findRound_29 ⟨fun _ x1 e1 => ?_, fun z => absurd (by decide) z⟩
    rw [e1, nI_1]
    exact K S hI
  | succ d ih =>
    intro q S hd hI K
    have hlen := hW.1.1
    obtain ⟨f1, f2, f3, f4, f5⟩ := hI
    refine b_X4_findRound_29 ⟨fun z => absurd z (nI_ge (b := 4) (by omega) (by omega)), fun _ => ?_⟩
    have hTS : zT S 5 pe de ro jo fr g c := hT.out (fun j a b => f1 j (by omega) (by omega))
    refine afresh_s hlen hTS (fun S1 hT1 o1 => ?_)
    refine rows_append (n := 9) zTo31.2.2.2.1 hT1.2.2.1 (by omega) (by omega) (fun S2 hR2 o2 => ?_)
    have hT2 := zT_ro hT1 hR2 o2
    have hW2 := xW_more (q := q) hW hl hm hp
    refine run52_s hW2 hT2 (fun S3 hC3 o3 => ?_)
    refine worthAll_s zCo2 hC3 ?_
    have o : zOut 31 55 S S3 := ((o1.mono (by omega) (by omega)).trans (o2.mono (by omega) (by omega))).trans (o3.mono (by omega) (by omega))
    have h56 : S3 56 = S 56 := o 56 (by omega)
    rw [h56, f4]
    have hk4 : (4 * m + q) / 4 = m := by omega
    have hk5 : (4 * m + q) % 4 = q := by omega
    have hs := fK_succ (pe := pe) (de := de) (ro := ro) (jo := jo) (fr := fr) (g := g) (c := c) (pace := nI pc) (k := 4 * m + q)
    rw [pPk1, hk4, hk5] at hs
    have hpos := pWr_b (fb := pMk fr 0) (g := g) (c := c) hW2
    refine ⟨fun z x1 e1 => ?_, fun z S4 e4 S5 e5 S6 e6 x1 e1 => ?_⟩
    · rw [if_neg (i32_nlt z)] at hs
      have h0 : 0 < 4 * m + q := by
        rcases Nat.eq_zero_or_pos (4 * m + q) with y | y
        · exfalso
          have : (fK pe de ro jo fr g c (nI pc) (4 * m + q)).2 = -1 := by rw [y]; rfl
          rw [this] at z
          exact i32_nle (n1_lt hpos) z
        · exact y
      rw [e1, nI_1]
      refine ih (q + 1) S3 (by omega) ⟨fun j a b => (o j (by omega)).trans (f1 j a b), fun i hi => by rw [h56]; exact f2 i hi, by rw [h56]; exact f3, ?_, fun _ => ?_⟩ K
      · rw [show 4 * m + (q + 1) = 4 * m + q + 1 by omega, hs, h56, f4]
      · rw [show 4 * m + (q + 1) = 4 * m + q + 1 by omega, hs, h56]; exact f5 h0
    · rw [if_pos (i32_lt z)] at hs
      rw [e1, nI_1]
      have g6 : S6 56 = upd (upd (upd (S 56) 7 (pWr (pCf pe de (ro ++ [(nI m, nI q, nI pc)]) jo fr g c 24).1)) 5 (nI m)) 6 (nI q) := by rw [e6, zc_eq, e5, zc_eq, e4, zc_eq]
      have n6 : ∀ j, j ≠ 56 → S6 j = S3 j := fun j hj => by rw [e6, zc_ne _ _ hj, e5, zc_ne _ _ hj, e4, zc_ne _ _ hj]
      refine ih (q + 1) S6 (by omega) ⟨fun j a b => (n6 j b).trans ((o j (by omega)).trans (f1 j a b)), fun i hi => ?_, ?_, ?_, fun _ => ?_⟩ K
      · rw [g6, upd, if_neg (by omega), upd, if_neg (by omega), upd, if_neg (by omega)]; exact f2 i hi
      · rw [g6, upd, if_neg (by omega), upd, if_neg (by omega), upd, if_neg (by omega)]; exact f3
      · rw [show 4 * m + (q + 1) = 4 * m + q + 1 by omega, hs, g6, upd, if_neg (by omega), upd, if_neg (by omega), upd, if_pos rfl]
      · rw [show 4 * m + (q + 1) = 4 * m + q + 1 by omega, hs, hk4, hk5, g6]; simp [upd]
theorem fr_out {S0 : zS} {P : zS → zL → Prop} (hT : zT S0 5 pe de ro jo fr g c) (hW : xW pe de ro jo fr) (hl : ro.length ≤ 8) {pc : Nat} (hp : pc ≤ 4) (h : ∀ S', FI S0 S' (fK pe de ro jo fr g c (nI pc) 96) (nI pc) 96 → P S' L) : ∀ (d m : Nat) (S : zS), m + d = 24 → FI S0 S (fK pe de ro jo fr g c (nI pc) (4 * m)) (nI pc) (4 * m) → zU mX4_findRound X S L 21 [some (.ref 56), some (.int (nI pc)), some (.int (nI m)), none, none] [] (zpv P) := by
  intro d
  induction d with
  | zero =>
    intro m S hd hI
    have : m = 24 := by omega
    subst this
    exact b_X4_findRound_21 ⟨fun _ => h S hI, fun z => absurd (by decide) z⟩
  | succ d ih =>
    intro m S hd hI
    refine b_X4_findRound_21 ⟨fun z => absurd z (nI_ge (b := 24) (by omega) (by omega)), fun _ => ?_⟩
    exact fr_in hT hW hl hp (by omega) 4 0 S (by omega) hI (fun S' hI' => ih (m + 1) S' (by omega) hI')
theorem findRound_s {S : zS} {P : zS → zL → Prop} (hQ : cQ pe de ro jo fr se g c S L) {pc : Nat} (hp : pc ≤ 4) (h : ∀ S', cQ pe de ro jo fr se g c S' L → qF S S' → S' 56 5 = nI ((pPk pe de ro jo fr g c (nI pc)).1 / 4) → S' 56 6 = nI ((pPk pe de ro jo fr g c (nI pc)).1 % 4) → S' 56 7 = (pPk pe de ro jo fr g c (nI pc)).2 → P S' L) : zCv mX4_findRound S L [.ref 56, .int (nI pc)] P := by
  have hlen := hQ.len
  have hQ0 := hQ
  obtain ⟨hT, hW, hR, hA, hM, hB, hH, hWi, hV⟩ := hQ
  refine e_X4_findRound (fun X => b_X4_findRound_0 ⟨fun z S1 e1 S2 e2 => ?_, fun z => ?_⟩)
  · have g2 : S2 56 = upd (upd (S 56) 4 (nI pc)) 7 (-1) := by rw [e2, zc_eq, e1, zc_eq]
    have n2 : ∀ j, j ≠ 56 → S2 j = S j := fun j hj => by rw [e2, zc_ne _ _ hj, e1, zc_ne _ _ hj]
    refine fr_out hT hW.1 (by omega) hp (fun S' hI => ?_) 24 0 S2 (by omega) ⟨fun j _ b => n2 j b, fun i hi => ?_, ?_, ?_, fun z => absurd z (by omega)⟩
    · obtain ⟨f1, f2, f3, f4, f5⟩ := hI
      obtain ⟨f5, f6⟩ := f5 (by omega)
      have o : ∀ j, j < 31 ∨ 55 < j → j ≠ 56 → S' j = S j := f1
      have hq : qF S S' := fun j hj => o j (by omega) (by omega)
      refine h S' (hQ0.keep hq (hA.keep (o _ (by omega) (by omega)) (o _ (by omega) (by omega)) (o _ (by omega) (by omega)) (o _ (by omega) (by omega))) (hM.keep (f2 3 (by omega)) (o _ (by omega) (by omega))) (Or.inr ?_) (hH.keep (fun i hi => f2 i (by omega))) (hWi.keep (o _ (by omega) (by omega)) (o _ (by omega) (by omega))) (hV.keep (by rw [o 65 (by omega) (by omega)]) (by rw [o 65 (by omega) (by omega)]) rfl rfl)) hq f5 f6 f4
      rw [f3]; exact ⟨f5, f6, f4⟩
    · rw [g2, upd, if_neg (by omega), upd, if_neg (by omega)]
    · rw [g2]; simp [upd]
    · rw [g2]; simp [upd]; rfl
  · rcases hB with hB | ⟨b1, b2, b3⟩
    · rw [hB] at z; exact absurd z.symm (nI_n1 (by omega))
    · rw [z] at b1 b2 b3
      exact h S hQ0 qF.rf b1 b2 b3
/-! where one had better be -/
theorem xW_home (hW : xW pe de ro jo fr) {p q : Nat} (hp : p < pe.length) (hq : q < 4) : xW (pe.set p (t3s (pe.getD p (0, 0, 0)) 1 (nI q))) de ro jo fr := by
  refine hW.to_pe (by simp; exact hW.1.1.1) (fun e he => ?_)
  rcases List.mem_or_eq_of_mem_set he with z | z
  · exact hW.peE e z
  · rw [z]
    exact ⟨⟨q, hq, rfl⟩, (hW.peE _ (List.mem_of_getElem? (getD_at hp))).2⟩
abbrev fH (pe de ro jo fr : List T3) (g c : Int32) (p k : Nat) : Nat × Int32 := (List.range k).foldl (pHm1 pe de ro jo fr g c p) (0, -1)
theorem fH_succ {p k : Nat} : fH pe de ro jo fr g c p (k + 1) = pHm1 pe de ro jo fr g c p (fH pe de ro jo fr g c p k) k := by
  unfold fH; rw [List.range_succ, List.foldl_append]; rfl
def HI (S0 S : zS) (b : Nat × Int32) (p : Int32) (k : Nat) : Prop := (∀ j, j < 31 ∨ 55 < j → j ≠ 56 → S j = S0 j) ∧ (∀ i, i < 8 → S 56 i = S0 56 i) ∧ S 56 8 = p ∧ S 56 10 = b.2 ∧ (0 < k → S 56 9 = nI b.1)
theorem fh_l {S0 : zS} {P : zS → zL → Prop} (hT : zT S0 5 pe de ro jo fr g c) (hW : xW pe de ro jo fr) {p : Nat} (hp : p < pe.length) (h : ∀ S', HI S0 S' (fH pe de ro jo fr g c p 4) (nI p) 4 → P S' L) : ∀ (d q : Nat) (S : zS), q + d = 4 → HI S0 S (fH pe de ro jo fr g c p q) (nI p) q → zU mX4_findHome X S L 21 [some (.ref 56), some (.int (nI p)), some (.int (nI q)), none] [] (zpv P) := by
  have hlen := hW.1.1
  intro d
  induction d with
  | zero =>
    intro q S hd hI
    have : q = 4 := by omega
    subst this
    exact b_X4_findHome_21 ⟨fun _ => h S hI, fun z => absurd (by decide) z⟩
  | succ d ih =>
    intro q S hd hI
    obtain ⟨f1, f2, f3, f4, f5⟩ := hI
    refine b_X4_findHome_21 ⟨fun z => absurd z (nI_ge (b := 4) (by omega) (by omega)), fun _ => ?_⟩
    have hTS : zT S 5 pe de ro jo fr g c := hT.out (fun j a b => f1 j (by omega) (by omega))
    refine afresh_s hlen hTS (fun S1 hT1 o1 => ?_)
    refine rows_setCell (n := 8) zTo31.2.1 hT1.1 ⟨by omega, by omega⟩ (getD_at hp) (fun S2 hR2 o2 => ?_)
    have hT2 := zT_pe hT1 hR2 o2
    have hW2 := xW_home (q := q) hW hp (by omega)
    refine run52_s hW2 hT2 (fun S3 hC3 o3 => ?_)
    rw [of33]
    refine behind_s (m := 23) zCo2 hC3 (Nat.le_refl _) (by omega) (by omega) ?_
    have o : zOut 31 55 S S3 := ((o1.mono (by omega) (by omega)).trans (o2.mono (by omega) (by omega))).trans (o3.mono (by omega) (by omega))
    have h56 : S3 56 = S 56 := o 56 (by omega)
    rw [h56, f4]
    have hs := fH_succ (pe := pe) (de := de) (ro := ro) (jo := jo) (fr := fr) (g := g) (c := c) (p := p) (k := q)
    rw [pHm1] at hs
    have hpos := ((pBd_C (fb := pMk fr 0) (g := g) (c := c) hW2 24 (by omega)).2.2 (33 + p) (by omega) (by omega) (by omega)).1
    refine ⟨fun z x1 e1 => ?_, fun z S4 e4 S5 e5 x1 e1 => ?_⟩
    · rw [if_neg (i32_nlt z)] at hs
      have h0 : 0 < q := by
        rcases Nat.eq_zero_or_pos q with y | y
        · exfalso
          have : (fH pe de ro jo fr g c p q).2 = -1 := by rw [y]; rfl
          rw [this] at z
          exact i32_nle (n1_lt hpos) z
        · exact y
      rw [e1, nI_1]
      refine ih (q + 1) S3 (by omega) ⟨fun j a b => (o j (by omega)).trans (f1 j a b), fun i hi => by rw [h56]; exact f2 i hi, by rw [h56]; exact f3, ?_, fun _ => ?_⟩
      · rw [hs, h56, f4]
      · rw [hs, h56]; exact f5 h0
    · rw [if_pos (i32_lt z)] at hs
      rw [e1, nI_1]
      have g6 : S5 56 = upd (upd (S 56) 10 ((pCf (pe.set p (t3s (pe.getD p (0, 0, 0)) 1 (nI q))) de ro jo fr g c 24).1 (33 + p))) 9 (nI q) := by rw [e5, zc_eq, e4, zc_eq]
      have n6 : ∀ j, j ≠ 56 → S5 j = S3 j := fun j hj => by rw [e5, zc_ne _ _ hj, e4, zc_ne _ _ hj]
      refine ih (q + 1) S5 (by omega) ⟨fun j a b => (n6 j b).trans ((o j (by omega)).trans (f1 j a b)), fun i hi => ?_, ?_, ?_, fun _ => ?_⟩
      · rw [g6, upd, if_neg (by omega), upd, if_neg (by omega)]; exact f2 i hi
      · rw [g6, upd, if_neg (by omega), upd, if_neg (by omega)]; exact f3
      · rw [hs, g6, upd, if_neg (by omega), upd, if_pos rfl]
      · rw [hs, g6]; simp [upd]
theorem findHome_s {S : zS} {P : zS → zL → Prop} (hQ : cQ pe de ro jo fr se g c S L) {p : Nat} (hp : p < pe.length) (h : ∀ S', cQ pe de ro jo fr se g c S' L → qF S S' → S' 56 9 = nI (pHm pe de ro jo fr g c p).1 → S' 56 10 = (pHm pe de ro jo fr g c p).2 → P S' L) : zCv mX4_findHome S L [.ref 56, .int (nI p)] P := by
  have hlen := hQ.len
  have hQ0 := hQ
  obtain ⟨hT, hW, hR, hA, hM, hB, hH, hWi, hV⟩ := hQ
  refine e_X4_findHome (fun X => b_X4_findHome_0 ⟨fun z S1 e1 S2 e2 => ?_, fun z => ?_⟩)
  · have g2 : S2 56 = upd (upd (S 56) 8 (nI p)) 10 (-1) := by rw [e2, zc_eq, e1, zc_eq]
    have n2 : ∀ j, j ≠ 56 → S2 j = S j := fun j hj => by rw [e2, zc_ne _ _ hj, e1, zc_ne _ _ hj]
    refine fh_l hT hW.1 hp (fun S' hI => ?_) 4 0 S2 (by omega) ⟨fun j _ b => n2 j b, fun i hi => ?_, ?_, ?_, fun z => absurd z (by omega)⟩
    · obtain ⟨f1, f2, f3, f4, f5⟩ := hI
      have f5 := f5 (by omega)
      have o : ∀ j, j < 31 ∨ 55 < j → j ≠ 56 → S' j = S j := f1
      have hq : qF S S' := fun j hj => o j (by omega) (by omega)
      exact h S' (hQ0.keep hq (hA.keep (o _ (by omega) (by omega)) (o _ (by omega) (by omega)) (o _ (by omega) (by omega)) (o _ (by omega) (by omega))) (hM.keep (f2 3 (by omega)) (o _ (by omega) (by omega))) (hB.keep (fun i _ hi => f2 i (by omega))) (Or.inr ⟨p, hp, f3, f5, f4⟩) (hWi.keep (o _ (by omega) (by omega)) (o _ (by omega) (by omega))) (hV.keep (by rw [o 65 (by omega) (by omega)]) (by rw [o 65 (by omega) (by omega)]) rfl rfl)) hq f5 f4
    · rw [g2, upd, if_neg (by omega), upd, if_neg (by omega)]
    · rw [g2]; simp [upd]
    · rw [g2]; simp [upd]; rfl
  · rcases hH with hH | ⟨p', hp', b1, b2, b3⟩
    · rw [hH] at z; exact absurd z.symm (nI_n1 (by omega))
    · rw [b1] at z
      have : p' = p := (nI_eq (by omega) (by omega)).mp z
      subst this
      exact h S hQ0 qF.rf b2 b3
end PLN
