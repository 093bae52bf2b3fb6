/-! WHAT THE CLASS KEEPS, and its plain answers -/
def rmI (l : List T3) (x : Int32) : List T3 := if x < 0 then l else l.eraseIdx x.toNatClampNeg
/-- without one or two of them -/
def chO (l : List T3) (ch : Int32 × Int32) : List T3 := rmI (rmI l ch.2) ch.1
/-- none, each one, each pair -/
def chs (n : Nat) : List (Int32 × Int32) := (-1, -1) :: ((List.range n).map (fun a => (nI a, (-1 : Int32))) ++ (List.range n).flatMap (fun a => (List.range' (a + 1) (n - (a + 1))).map (fun b => (nI a, nI b))))
def pHi1 (Z : Nat → pZ) (p : Nat) (a : Int32) (m : Nat) : Int32 := if a < (Z (m + 1)).1 p then (Z (m + 1)).1 p else a
def pHi (Z : Nat → pZ) (p : Nat) : Int32 := (List.range 24).foldl (pHi1 Z p) 0
def seOk (np : Nat) (Z : Nat → pZ) (se : List T3) : Bool := se.all (fun e => decide (e.2.1 < nI np) && decide ((Z (e.1.toNatClampNeg + 1)).1 e.2.1.toNatClampNeg = e.2.2))
def pWg (q : Nat) : Nat → Nat → Nat
  | 0, _ => 1
  | n + 1, s => pWg q n s * (if s.testBit n = true then q else 16 - q)
section DF
variable (pe de ro jo fr se : List T3) (g c : Int32)
def pPk1 (pace : Int32) (b : Nat × Int32) (k : Nat) : Nat × Int32 := if b.2 < pWr (pCf pe de (ro ++ [(nI (k / 4), nI (k % 4), pace)]) jo fr g c 24).1 then (k, pWr (pCf pe de (ro ++ [(nI (k / 4), nI (k % 4), pace)]) jo fr g c 24).1) else b
def pPk (pace : Int32) : Nat × Int32 := (List.range 96).foldl (pPk1 pe de ro jo fr g c pace) (0, -1)
def pHm1 (p : Nat) (b : Nat × Int32) (q : Nat) : Nat × Int32 := if b.2 < (pCf (pe.set p (t3s (pe.getD p (0, 0, 0)) 1 (nI q))) de ro jo fr g c 24).1 (33 + p) then (q, (pCf (pe.set p (t3s (pe.getD p (0, 0, 0)) 1 (nI q))) de ro jo fr g c 24).1 (33 + p)) else b
def pHm (p : Nat) : Nat × Int32 := (List.range 4).foldl (pHm1 pe de ro jo fr g c p) (0, -1)
def pNv1 (b : Int32) (d : Nat) : Int32 := b ||| (if seOk pe.length (pCf pe (de.eraseIdx d) ro jo fr g c) se = true then (1 : Int32) <<< (nI d &&& 31) else 0)
def pNv : Int32 := (List.range de.length).foldl (pNv1 pe de ro jo fr se g c) 0
def pVs1 (q n p : Nat) (a s : Nat) : Nat := a + (if (pC pe de ro jo (nI s) g c 24).2.1 p = -1 then pWg q n s else 0)
def pVs (q n p : Nat) : Nat := (List.range (2 ^ n)).foldl (pVs1 pe de ro jo g c q n p) 0
def pVi (q la p : Nat) : Int64 × Int64 := (lN (pVs pe de ro jo g c q (la + 1) p / Nat.gcd (pVs pe de ro jo g c q (la + 1) p) (2 ^ (4 * (la + 1)))), lN (2 ^ (4 * (la + 1)) / Nat.gcd (pVs pe de ro jo g c q (la + 1) p) (2 ^ (4 * (la + 1)))))
/-- the caches -/
def cA (S : zS) : Prop := S 0 9 = 0 ∨ (¬ S 0 9 = 0 ∧ cRun S 26 pe de ro jo fr g c 24)
def cM (S : zS) : Prop := ∃ n, n ≤ (chs de.length).length ∧ S 56 3 = nI n ∧ ∀ (r : Nat) (ch : Int32 × Int32) (p : Nat), r < n → (chs de.length)[r]? = some ch → p < pe.length → S 58 (8 * r + p) = pHi (pCf pe (chO de ch) ro jo fr g c) p
def cB (S : zS) : Prop := S 56 4 = -1 ∨ (S 56 5 = nI ((pPk pe de ro jo fr g c (S 56 4)).1 / 4) ∧ S 56 6 = nI ((pPk pe de ro jo fr g c (S 56 4)).1 % 4) ∧ S 56 7 = (pPk pe de ro jo fr g c (S 56 4)).2)
def cH (S : zS) : Prop := S 56 8 = -1 ∨ ∃ p, p < pe.length ∧ S 56 8 = nI p ∧ S 56 9 = nI (pHm pe de ro jo fr g c p).1 ∧ S 56 10 = (pHm pe de ro jo fr g c p).2
def cW (S : zS) : Prop := S 59 4 = 0 ∨ (¬ S 59 4 = 0 ∧ S 59 1 = pNv pe de ro jo fr se g c ∧ ∀ d m p, d < de.length → m < 24 → p < pe.length → S 64 (8 * (24 * d + m) + p) = (pCf pe (de.eraseIdx d) ro jo fr g c (m + 1)).1 p)
def cV (S : zS) (L : zL) : Prop := S 65 3 = -1 ∨ ∃ q la, q ≤ 16 ∧ la ≤ 9 ∧ S 65 3 = nI q ∧ S 65 4 = nI la ∧ ∀ p, p < pe.length → L 66 p = (pVi pe de ro jo g c q la p).1 ∧ L 67 p = (pVi pe de ro jo g c q la p).2
/-- what is told is such as may be told -/
def sW : Prop := xW pe de ro jo fr ∧ ro.length ≤ 8 ∧ fr.length ≤ 6 ∧ se.length ≤ 8 ∧ (∀ e ∈ se, (∃ q, q < 24 ∧ e.1 = nI q) ∧ (∃ q, q < 8 ∧ e.2.1 = nI q))
def cQ (S : zS) (L : zL) : Prop := zT S 5 pe de ro jo fr g c ∧ sW pe de ro jo fr se ∧ zR S 60 se ∧ cA pe de ro jo fr g c S ∧ cM pe de ro jo fr g c S ∧ cB pe de ro jo fr g c S ∧ cH pe de ro jo fr g c S ∧ cW pe de ro jo fr se g c S ∧ cV pe de ro jo g c S L
end DF
/-- what a question leaves -/
def qF (S S' : zS) : Prop := ∀ j, (1 ≤ j ∧ j ≤ 25) ∨ (60 ≤ j ∧ j ≤ 63) ∨ 68 ≤ j → S' j = S j
theorem qF.rf {S : zS} : qF S S := fun _ _ => rfl
theorem qF.trans {S S' S'' : zS} (h1 : qF S S') (h2 : qF S' S'') : qF S S'' := fun j hj => (h2 j hj).trans (h1 j hj)
theorem zT.out {S S' : zS} {t : Nat} {pe de ro jo fr : List T3} {g c : Int32} (h : zT S t pe de ro jo fr g c) (ho : ∀ j, t ≤ j → j ≤ t + 20 → S' j = S j) : zT S' t pe de ro jo fr g c := by
  obtain ⟨h1, h2, h3, h4, h5, h6, h7⟩ := h
  have k : ∀ {i : Nat} {l : List T3}, zR S i l → t ≤ i → i + 3 ≤ t + 20 → zR S' i l := fun hr a b => hr.keep (ho _ (by omega) (by omega)) (ho _ (by omega) (by omega)) (ho _ (by omega) (by omega)) (ho _ (by omega) (by omega))
  exact ⟨k h1 (by omega) (by omega), k h2 (by omega) (by omega), k h3 (by omega) (by omega), k h4 (by omega) (by omega), k h5 (by omega) (by omega), by rw [ho t (by omega) (by omega)]; exact h6, by rw [ho t (by omega) (by omega)]; exact h7⟩
section KP
variable {pe de ro jo fr se : List T3} {g c : Int32} {S S' : zS} {L L' : zL}
theorem cA.keep (h : cA pe de ro jo fr g c S) (h0 : S' 0 = S 0) (h1 : S' 26 = S 26) (h2 : S' 28 = S 28) (h3 : S' 29 = S 29) : cA pe de ro jo fr g c S' := by
  unfold cA
  rw [h0]
  exact h.imp id (fun z => ⟨z.1, z.2.keep h1 h2 h3⟩)
theorem cM.keep (h : cM pe de ro jo fr g c S) (h0 : S' 56 3 = S 56 3) (h1 : S' 58 = S 58) : cM pe de ro jo fr g c S' := by
  unfold cM; rw [h0, h1]; exact h
theorem cB.keep (h : cB pe de ro jo fr g c S) (h0 : ∀ i, 4 ≤ i → i ≤ 7 → S' 56 i = S 56 i) : cB pe de ro jo fr g c S' := by
  unfold cB; rw [h0 4 (by omega) (by omega), h0 5 (by omega) (by omega), h0 6 (by omega) (by omega), h0 7 (by omega) (by omega)]; exact h
theorem cH.keep (h : cH pe de ro jo fr g c S) (h0 : ∀ i, 8 ≤ i → S' 56 i = S 56 i) : cH pe de ro jo fr g c S' := by
  unfold cH; rw [h0 8 (by omega), h0 9 (by omega), h0 10 (by omega)]; exact h
theorem cW.keep (h : cW pe de ro jo fr se g c S) (h0 : S' 59 = S 59) (h1 : S' 64 = S 64) : cW pe de ro jo fr se g c S' := by
  unfold cW; rw [h0, h1]; exact h
theorem cV.keep (h : cV pe de ro jo g c S L) (h0 : S' 65 3 = S 65 3) (h1 : S' 65 4 = S 65 4) (h2 : L' 66 = L 66) (h3 : L' 67 = L 67) : cV pe de ro jo g c S' L' := by
  unfold cV; rw [h0, h1, h2, h3]; exact h
theorem cQ_clear (hT : zT S 5 pe de ro jo fr g c) (hW : sW pe de ro jo fr se) (hR : zR S 60 se) (hZ : cZ S) : cQ pe de ro jo fr se g c S L := by
  obtain ⟨z1, z2, z3, z4, z5, z6⟩ := hZ
  exact ⟨hT, hW, hR, Or.inl z1, ⟨0, Nat.zero_le _, z2, fun r _ _ hr => absurd hr (Nat.not_lt_zero _)⟩, Or.inl z3, Or.inl z4, Or.inl z5, Or.inl z6⟩
theorem cQ.len (h : cQ pe de ro jo fr se g c S L) : pe.length ≤ 8 ∧ de.length ≤ 10 ∧ ro.length ≤ 8 ∧ jo.length ≤ 8 ∧ fr.length ≤ 6 ∧ se.length ≤ 8 := by
  obtain ⟨-, ⟨⟨⟨⟨a, b, -, d, -⟩, -⟩, -⟩, e, f, i, -⟩, -⟩ := h
  exact ⟨a, b, e, d, f, i⟩
/-- all but some cells stay -/
theorem cQ.keep (h : cQ pe de ro jo fr se g c S L) (hq : qF S S') (hA : cA pe de ro jo fr g c S') (hM : cM pe de ro jo fr g c S') (hB : cB pe de ro jo fr g c S') (hH : cH pe de ro jo fr g c S') (hW : cW pe de ro jo fr se g c S') (hV : cV pe de ro jo g c S' L') : cQ pe de ro jo fr se g c S' L' := by
  obtain ⟨h1, h2, h3, -⟩ := h
  exact ⟨h1.out (fun j a b => hq j (by omega)), h2, h3.keep (hq _ (by omega)) (hq _ (by omega)) (hq _ (by omega)) (hq _ (by omega)), hA, hM, hB, hH, hW, hV⟩
theorem settle_s (hQ : cQ pe de ro jo fr se g c S L) {P : zS → zL → Prop} (h : ∀ S', cQ pe de ro jo fr se g c S' L → cRun S' 26 pe de ro jo fr g c 24 → qF S S' → P S' L) : zCv mX10_settle S L [.ref 0] P := by
  have hQ0 := hQ
  obtain ⟨hT, hW, hR, hA, hM, hB, hH, hWi, hV⟩ := hQ
  refine e_X10_settle (fun X => b_X10_settle_0 ⟨fun z => ?_, fun z => ?_⟩)
  · rcases hA with a | ⟨a, b⟩
    · exact absurd a z
    · exact h S hQ0 b qF.rf
  · refine run_s zCo1 hW.1.1 hT (n := 24) (by omega) (last_nI (q := 23) (by omega)) (fun S2 e2 => ?_)
    have o : ∀ j, j ≠ 0 → j < 26 ∨ 29 < j → S2 j = S j := fun j a b => by rw [e2, zc_ne _ _ a, zRun_out j b]
    have o2 : ∀ j, j ≠ 0 → S2 j = zRun S 26 pe de ro jo fr g c 24 j := fun j a => by rw [e2, zc_ne _ _ a]
    have hq : qF S S2 := fun j hj => o j (by omega) (by omega)
    have hr : cRun S2 26 pe de ro jo fr g c 24 := (cRun_of (S := S) (k := 26)).keep (o2 _ (by omega)) (o2 _ (by omega)) (o2 _ (by omega))
    have h09 : ¬ S2 0 9 = 0 := by rw [e2, zc_eq, upd, if_pos rfl]; decide
    refine h S2 (hQ0.keep hq (Or.inr ⟨h09, hr⟩) (hM.keep (by rw [o 56 (by omega) (by omega)]) (o 58 (by omega) (by omega))) (hB.keep (fun i _ _ => by rw [o 56 (by omega) (by omega)])) (hH.keep (fun i _ => by rw [o 56 (by omega) (by omega)])) (hWi.keep (o 59 (by omega) (by omega)) (o 64 (by omega) (by omega))) (hV.keep (by rw [o 65 (by omega) (by omega)]) (by rw [o 65 (by omega) (by omega)]) rfl rfl)) hr hq
end KP
/-! plain answers -/
abbrev okM (x : Int32) : Prop := (0 : Int32) ≤ x ∧ x ≤ (23 : Int32)
abbrev okN (n : Nat) (x : Int32) : Prop := (0 : Int32) ≤ x ∧ x ≤ nI n - (1 : Int32)
theorem rng_lit {x M : Int32} {n : Nat} (hM : M = nI n) (hn : n < 2000) (h : (0 : Int32) ≤ x ∧ x ≤ M) : ∃ j, j ≤ n ∧ x = nI j := by
  rw [hM] at h
  obtain ⟨j, hj, rfl⟩ := ix_of (np := n + 1) (i32_nlt h.1) (fun z => absurd (Int32.le_trans z h.2) (nI_ge (by omega) (by omega))) (by omega)
  exact ⟨j, by omega, rfl⟩
section AN
variable (pe de ro jo fr se : List T3) (g c : Int32)
abbrev aZ (m : Nat) : pZ := pCf pe de ro jo fr g c m
def aWool (m p w : Int32) : Int32 := if okM m ∧ okN pe.length p ∧ ((0 : Int32) ≤ w ∧ w ≤ (2 : Int32)) then (aZ pe de ro jo fr g c (m.toNatClampNeg + 1)).1 ((if w = 0 then 0 else if w = 1 then 8 else 16) + p.toNatClampNeg) else -2
def aDies (p : Int32) : Int32 := if okN pe.length p then (aZ pe de ro jo fr g c 24).2.1 p.toNatClampNeg else -2
def aCloth (m q w : Int32) : Int32 := if okM m ∧ ((0 : Int32) ≤ q ∧ q ≤ (3 : Int32)) ∧ ((0 : Int32) ≤ w ∧ w ≤ (1 : Int32)) then (aZ pe de ro jo fr g c (m.toNatClampNeg + 1)).1 ((if w = 0 then 24 else 28) + q.toNatClampNeg) else -2
def aThorn (m : Int32) : Int32 := if okM m then (aZ pe de ro jo fr g c (m.toNatClampNeg + 1)).1 32 else -2
def aTax (w : Int32) : Int32 := if ((0 : Int32) ≤ w ∧ w ≤ (1 : Int32)) then (if w = 0 then pTx pe.length (aZ pe de ro jo fr g c 12) else pTx pe.length (aZ pe de ro jo fr g c 24)) else -2
def aHeavy (m : Int32) : Int32 := if okM m then pHv pe.length (aZ pe de ro jo fr g c (m.toNatClampNeg + 1)) else -2
def aFirst (w : Int32) : Int32 := if ((0 : Int32) ≤ w ∧ w ≤ (1 : Int32)) then (if w = 0 then (aZ pe de ro jo fr g c 24).2.2.1 else (aZ pe de ro jo fr g c 24).2.2.2) else -2
end AN
section QA
variable {pe de ro jo fr se : List T3} {g c : Int32} {S : zS} {L : zL} {P : Int32 → zS → zL → Prop}
theorem wool_c {m p w : Int32} (hQ : cQ pe de ro jo fr se g c S L) (h : ∀ S', cQ pe de ro jo fr se g c S' L → qF S S' → P (aWool pe de ro jo fr g c m p w) S' L) : zCi mX10_wool S L [.ref 0, .int m, .int p, .int w] P := by
  have hl := hQ.len
  refine e_X10_wool (fun X => b_X10_wool_0 ?_)
  rw [hQ.1.1.1]
  refine ⟨fun q1 => ⟨fun q2 => ⟨fun q3 => ?_, fun q => ?_⟩, fun q => ?_⟩, fun q => ?_⟩
  · rw [aWool, if_pos ⟨q1, q2, q3⟩] at h
    obtain ⟨m, hm, rfl⟩ := rng_lit (n := 23) rfl (by omega) q1
    obtain ⟨p, hp, rfl⟩ := rng_ix (by omega) q2
    rw [cl_nI (by omega), cl_nI (by omega)] at h
    refine settle_s hQ (fun S1 hQ1 hR hq => ⟨fun z0 => ⟨fun z1 => ?_, fun z1 => ?_⟩, fun z0 => ?_⟩)
    · rw [of16]
      refine behind_s zCo1 hR (Nat.le_refl _) (by omega) (by omega) ?_
      rw [if_neg z0, if_neg z1] at h; exact h S1 hQ1 hq
    · rw [of8]
      refine behind_s zCo1 hR (Nat.le_refl _) (by omega) (by omega) ?_
      rw [if_neg z0, if_pos z1] at h; exact h S1 hQ1 hq
    · rw [of0]
      refine behind_s zCo1 hR (Nat.le_refl _) (by omega) (by omega) ?_
      rw [if_pos z0, Nat.zero_add] at h; exact h S1 hQ1 hq
  · rw [aWool, if_neg (fun z => q z.2.2)] at h; exact h S hQ qF.rf
  · rw [aWool, if_neg (fun z => q z.2.1)] at h; exact h S hQ qF.rf
  · rw [aWool, if_neg (fun z => q z.1)] at h; exact h S hQ qF.rf
theorem dies_c {p : Int32} (hQ : cQ pe de ro jo fr se g c S L) (h : ∀ S', cQ pe de ro jo fr se g c S' L → qF S S' → P (aDies pe de ro jo fr g c p) S' L) : zCi mX10_dies S L [.ref 0, .int p] P := by
  have hl := hQ.len
  refine e_X10_dies (fun X => b_X10_dies_0 ?_)
  rw [hQ.1.1.1]
  refine ⟨fun q2 => ?_, fun q => ?_⟩
  · rw [aDies, if_pos q2] at h
    obtain ⟨p, hp, rfl⟩ := rng_ix (by omega) q2
    rw [cl_nI (by omega)] at h
    exact settle_s hQ (fun S1 hQ1 hR hq => deathOf_s zCo1 hR (by omega) (h S1 hQ1 hq))
  · rw [aDies, if_neg q] at h; exact h S hQ qF.rf
theorem cloth_c {m q w : Int32} (hQ : cQ pe de ro jo fr se g c S L) (h : ∀ S', cQ pe de ro jo fr se g c S' L → qF S S' → P (aCloth pe de ro jo fr g c m q w) S' L) : zCi mX10_cloth S L [.ref 0, .int m, .int q, .int w] P := by
  refine e_X10_cloth (fun X => b_X10_cloth_0 ⟨fun q1 => ⟨fun q2 => ⟨fun q3 => ?_, fun z => ?_⟩, fun z => ?_⟩, fun z => ?_⟩)
  · rw [aCloth, if_pos ⟨q1, q2, q3⟩] at h
    obtain ⟨m, hm, rfl⟩ := rng_lit (n := 23) rfl (by omega) q1
    obtain ⟨q, hp, rfl⟩ := rng_lit (n := 3) rfl (by omega) q2
    rw [cl_nI (by omega), cl_nI (by omega)] at h
    refine settle_s hQ (fun S1 hQ1 hR hq => ⟨fun z0 => ?_, fun z0 => ?_⟩)
    · rw [of28]
      refine behind_s zCo1 hR (Nat.le_refl _) (by omega) (by omega) ?_
      rw [if_neg z0] at h; exact h S1 hQ1 hq
    · rw [of24]
      refine behind_s zCo1 hR (Nat.le_refl _) (by omega) (by omega) ?_
      rw [if_pos z0] at h; exact h S1 hQ1 hq
  · rw [aCloth, if_neg (fun y => z y.2.2)] at h; exact h S hQ qF.rf
  · rw [aCloth, if_neg (fun y => z y.2.1)] at h; exact h S hQ qF.rf
  · rw [aCloth, if_neg (fun y => z y.1)] at h; exact h S hQ qF.rf
theorem thorn_c {m : Int32} (hQ : cQ pe de ro jo fr se g c S L) (h : ∀ S', cQ pe de ro jo fr se g c S' L → qF S S' → P (aThorn pe de ro jo fr g c m) S' L) : zCi mX10_thorn S L [.ref 0, .int m] P := by
  refine e_X10_thorn (fun X => b_X10_thorn_0 ⟨fun q1 => ?_, fun z => ?_⟩)
  · rw [aThorn, if_pos q1] at h
    obtain ⟨m, hm, rfl⟩ := rng_lit (n := 23) rfl (by omega) q1
    rw [cl_nI (by omega)] at h
    exact settle_s hQ (fun S1 hQ1 hR hq => behind_s (j := 32) zCo1 hR (Nat.le_refl _) (by omega) (by omega) (h S1 hQ1 hq))
  · rw [aThorn, if_neg z] at h; exact h S hQ qF.rf
theorem tax_c {w : Int32} (hQ : cQ pe de ro jo fr se g c S L) (h : ∀ S', cQ pe de ro jo fr se g c S' L → qF S S' → P (aTax pe de ro jo fr g c w) S' L) : zCi mX10_tax S L [.ref 0, .int w] P := by
  have hl := hQ.len
  refine e_X10_tax (fun X => b_X10_tax_0 ⟨fun q1 => ?_, fun z => ?_⟩)
  · rw [aTax, if_pos q1] at h
    refine settle_s hQ (fun S1 hQ1 hR hq => ⟨fun z0 => ?_, fun z0 => ?_⟩)
    · rw [if_neg z0] at h
      exact tax_s (m := 23) zCo1 hl.1 hQ1.1.1.1 hR (by omega) (h S1 hQ1 hq)
    · rw [if_pos z0] at h
      exact tax_s (m := 11) zCo1 hl.1 hQ1.1.1.1 hR (by omega) (h S1 hQ1 hq)
  · rw [aTax, if_neg z] at h; exact h S hQ qF.rf
theorem heavy_c {m : Int32} (hQ : cQ pe de ro jo fr se g c S L) (h : ∀ S', cQ pe de ro jo fr se g c S' L → qF S S' → P (aHeavy pe de ro jo fr g c m) S' L) : zCi mX10_heaviest S L [.ref 0, .int m] P := by
  refine e_X10_heaviest (fun X => b_X10_heaviest_0 ⟨fun q1 => ?_, fun z => ?_⟩)
  · rw [aHeavy, if_pos q1] at h
    obtain ⟨m, hm, rfl⟩ := rng_lit (n := 23) rfl (by omega) q1
    rw [cl_nI (by omega)] at h
    exact settle_s hQ (fun S1 hQ1 hR hq => heavyB_s zCo1 hQ.2.1.1 hQ1.1.1.1 hR (by omega) (h S1 hQ1 hq))
  · rw [aHeavy, if_neg z] at h; exact h S hQ qF.rf
theorem first_c {w : Int32} (hQ : cQ pe de ro jo fr se g c S L) (h : ∀ S', cQ pe de ro jo fr se g c S' L → qF S S' → P (aFirst pe de ro jo fr g c w) S' L) : zCi mX10_first S L [.ref 0, .int w] P := by
  refine e_X10_first (fun X => b_X10_first_0 ⟨fun q1 => ?_, fun z => ?_⟩)
  · rw [aFirst, if_pos q1] at h
    refine settle_s hQ (fun S1 hQ1 hR hq => ⟨fun z0 => ?_, fun z0 => ?_⟩)
    · rw [if_neg z0] at h; rw [hR.2.2.1]; exact h S1 hQ1 hq
    · rw [if_pos z0] at h; rw [hR.2.1]; exact h S1 hQ1 hq
  · rw [aFirst, if_neg z] at h; exact h S hQ qF.rf
end QA
