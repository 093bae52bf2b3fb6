/-! THE WHOLE STATE: texts, grace, cold, rounds, journeys, frosts, seen, sheets (forms, lengths, items), finding -/
abbrev sg : Type := List Int32 × List Int32 × Int32 × Int32 × List T3 × List T3 × List T3 × List T3 × pF × pF × pF × Int32
def zSh (fo le it : pF) (la : Int32) (S : zS) : Prop := (∀ s, s < 4 → S 69 s = fo s ∧ S 70 s = le s) ∧ (∀ i, i < 240 → S 71 i = it i) ∧ S 68 3 = la
def wSh (fo le : pF) : Prop := ∀ s, s < 4 → (fo s = -1 ∨ fo s = 0 ∨ fo s = 1 ∨ fo s = 2) ∧ ∃ n, n ≤ 60 ∧ le s = nI n
theorem zSh.keep {fo le it : pF} {la : Int32} {S S' : zS} (h : zSh fo le it la S) (h0 : S' 68 = S 68) (h1 : S' 69 = S 69) (h2 : S' 70 = S 70) (h3 : S' 71 = S 71) : zSh fo le it la S' := by
  unfold zSh; rw [h0, h1, h2, h3]; exact h
def joE (e : T3) : Prop := (∃ q, q < 24 ∧ e.1 = nI q) ∧ (∃ q, q < 4 ∧ e.2.2 = nI q)
def seE (e : T3) : Prop := (∃ q, q < 24 ∧ e.1 = nI q) ∧ (∃ q, q < 8 ∧ e.2.1 = nI q)
def rW (ro jo fr se : List T3) : Prop := (ro.length ≤ 8 ∧ jo.length ≤ 8 ∧ fr.length ≤ 6 ∧ se.length ≤ 8) ∧ (∀ e ∈ ro, roE e) ∧ (∀ e ∈ jo, joE e) ∧ (∀ e ∈ fr, deE e) ∧ (∀ e ∈ se, seE e)
theorem sW_of {t0 t1 : List Int32} {ro jo fr se : List T3} (h0 : t0.length ≤ 31) (h1 : t1.length ≤ 39) (h : rW ro jo fr se) : sW (tL 0 t0) (tL 3 t1) ro jo fr se := by
  obtain ⟨⟨a1, a2, a3, a4⟩, b1, b2, b3, b4⟩ := h
  have p := tL_0 h0
  have d := tL_1 h1
  refine ⟨⟨⟨⟨p.1, d.1, by omega, a2, by omega⟩, fun e he => (p.2 e he).2.1, fun e he => (b2 e he).2, fun e he => (d.2 e he).1, fun e he => (b2 e he).1, fun e he => (b1 e he).1, b3, fun e he => ?_⟩, fun e he => (p.2 e he).2.2, fun e he => (b1 e he).2⟩, a1, a3, a4, b4⟩
  obtain ⟨q, hq, hqe⟩ := (b1 e he).2
  exact ⟨q, by omega, hqe⟩
theorem sW.r {pe de ro jo fr se : List T3} (h : sW pe de ro jo fr se) : rW ro jo fr se := by
  obtain ⟨⟨⟨⟨a1, a2, a3, a4, a5⟩, b1, b2, b3, b4, b5, b6, b7⟩, c1, c2⟩, d1, d2, d3, d4⟩ := h
  exact ⟨⟨d1, a4, d2, d3⟩, fun e he => ⟨b5 e he, c2 e he⟩, fun e he => ⟨b4 e he, b2 e he⟩, b6, d4⟩
def cI : sg → zS → zL → Prop
  | (t0, t1, g, c, ro, jo, fr, se, fo, le, it, la), S, L => (t0.length ≤ 31 ∧ t1.length ≤ 39 ∧ tB t0 ∧ tB t1) ∧ zTx S 1 t0 ∧ zTx S 3 t1 ∧ cQ (tL 0 t0) (tL 3 t1) ro jo fr se g c S L ∧ zSh fo le it la S ∧ wSh fo le
/-- the class leaves the reference's cells -/
def oM (S S' : zS) : Prop := ∀ j, 72 ≤ j → S' j = S j
theorem oM.rf {S : zS} : oM S S := fun _ _ => rfl
theorem oM.trans {S S' S'' : zS} (h1 : oM S S') (h2 : oM S' S'') : oM S S'' := fun j hj => (h2 j hj).trans (h1 j hj)
theorem qF.m {S S' : zS} (h : qF S S') : oM S S' := fun j hj => h j (by omega)
section UP
variable {t0 t1 : List Int32} {g c : Int32} {ro jo fr se : List T3} {fo le it : pF} {la : Int32} {S : zS} {L : zL}
theorem cI_q {S' : zS} {L' : zL} (h : cI (t0, t1, g, c, ro, jo, fr, se, fo, le, it, la) S L) (hQ : cQ (tL 0 t0) (tL 3 t1) ro jo fr se g c S' L') (hq : qF S S') : cI (t0, t1, g, c, ro, jo, fr, se, fo, le, it, la) S' L' := by
  obtain ⟨h1, h2, h3, -, h5, h6⟩ := h
  exact ⟨h1, h2.keep (hq _ (by omega)) (hq _ (by omega)), h3.keep (hq _ (by omega)) (hq _ (by omega)), hQ, h5.keep (hq _ (by omega)) (hq _ (by omega)) (hq _ (by omega)) (hq _ (by omega)), h6⟩
/-- reading the texts anew -/
theorem readTexts_s {pe de : List T3} {t0' t1' : List Int32} {P : zS → zL → Prop} (h0 : t0'.length ≤ 31) (h1 : t1'.length ≤ 39) (hB0 : tB t0') (hB1 : tB t1') (hT0 : zTx S 1 t0') (hT1 : zTx S 3 t1') (hT : zT S 5 pe de ro jo fr g c) (hR : zR S 60 se) (hW : rW ro jo fr se) (hS : zSh fo le it la S) (hw : wSh fo le) (h : ∀ S', cI (t0', t1', g, c, ro, jo, fr, se, fo, le, it, la) S' L → oM S S' → P S' L) : zCv mX10_readTexts S L [.ref 0] P := by
  refine e_X10_readTexts (fun X => b_X10_readTexts_0 (read1_s h0 hB0 hT0 (fun S1 r1 o1 => ?_)))
  refine read3_s h1 hB1 (hT1.keep (o1 _ (by omega)) (o1 _ (by omega))) (fun S2 r2 o2 => ?_)
  refine unsettle_s (fun S3 hZ o3 => ?_)
  have o : ∀ j, j < 6 ∨ 13 < j → j ≠ 0 → j ≠ 56 → j ≠ 59 → j ≠ 65 → S3 j = S j := fun j a b d e f => (o3 j b d e f).trans ((o2 j (by omega)).trans (o1 j (by omega)))
  have hT2 : zT S2 5 (tL 0 t0') (tL 3 t1') ro jo fr g c := zT_de (zT_pe hT r1 (o1.mono (by omega) (by omega))) r2 (o2.mono (by omega) (by omega))
  have hT3 : zT S3 5 (tL 0 t0') (tL 3 t1') ro jo fr g c := hT2.out (fun j a b => o3 j (by omega) (by omega) (by omega) (by omega))
  have hR3 : zR S3 60 se := hR.keep (o _ (by omega) (by omega) (by omega) (by omega) (by omega)) (o _ (by omega) (by omega) (by omega) (by omega) (by omega)) (o _ (by omega) (by omega) (by omega) (by omega) (by omega)) (o _ (by omega) (by omega) (by omega) (by omega) (by omega))
  refine h S3 ⟨⟨h0, h1, hB0, hB1⟩, hT0.keep (o _ (by omega) (by omega) (by omega) (by omega) (by omega)) (o _ (by omega) (by omega) (by omega) (by omega) (by omega)), hT1.keep (o _ (by omega) (by omega) (by omega) (by omega) (by omega)) (o _ (by omega) (by omega) (by omega) (by omega) (by omega)), cQ_clear hT3 (sW_of h0 h1 hW) hR3 hZ, hS.keep (o _ (by omega) (by omega) (by omega) (by omega) (by omega)) (o _ (by omega) (by omega) (by omega) (by omega) (by omega)) (o _ (by omega) (by omega) (by omega) (by omega) (by omega)) (o _ (by omega) (by omega) (by omega) (by omega) (by omega)), hw⟩ (fun j hj => o j (by omega) (by omega) (by omega) (by omega) (by omega))
end UP
/-! steps: the answer and the state behind it -/
abbrev ok1 (x : Int32) : Prop := (0 : Int32) ≤ x ∧ x ≤ (1 : Int32)
abbrev ok3 (x : Int32) : Prop := (0 : Int32) ≤ x ∧ x ≤ (3 : Int32)
def uType (t b : Int32) : sg → Int32 × sg
  | (t0, t1, r) => if ok1 t ∧ ((0 : Int32) ≤ b ∧ b ≤ (255 : Int32)) then (if t = 0 then (if t0.length = 31 then (-4, (t0, t1, r)) else (nI (t0.length + 1), (t0 ++ [b], t1, r))) else (if t1.length = 39 then (-4, (t0, t1, r)) else (nI (t1.length + 1), (t0, t1 ++ [b], r)))) else (-2, (t0, t1, r))
def uWipe (t : Int32) : sg → Int32 × sg
  | (t0, t1, r) => if ok1 t then (if t = 0 then (nI t0.length, ([], t1, r)) else (nI t1.length, (t0, [], r))) else (-2, (t0, t1, r))
def uUndo (t : Int32) : sg → Int32 × sg
  | (t0, t1, r) => if ok1 t then (if t = 0 then (if t0 = [] then (-3, (t0, t1, r)) else (nI (t0.length - 1), (t0.dropLast, t1, r))) else (if t1 = [] then (-3, (t0, t1, r)) else (nI (t1.length - 1), (t0, t1.dropLast, r)))) else (-2, (t0, t1, r))
def uSet (w v : Int32) : sg → Int32 × sg
  | (t0, t1, g, c, r) => if ok1 w ∧ ((0 : Int32) ≤ v ∧ v ≤ (if w = 0 then 9 else 30)) then (if w = 0 then (g, (t0, t1, v, c, r)) else (c, (t0, t1, g, v, r))) else (-2, (t0, t1, g, c, r))
def uRound (m q p : Int32) : sg → Int32 × sg
  | (t0, t1, g, c, ro, r) => if okM m ∧ ok3 q ∧ ((1 : Int32) ≤ p ∧ p ≤ (4 : Int32)) then (if ro.length = 8 then (-4, (t0, t1, g, c, ro, r)) else (nI (ro.length + 1), (t0, t1, g, c, ro ++ [(m, q, p)], r))) else (-2, (t0, t1, g, c, ro, r))
def uJourney (m p q : Int32) : sg → Int32 × sg
  | (t0, t1, g, c, ro, jo, r) => if okM m ∧ ((0 : Int32) ≤ p ∧ p ≤ (7 : Int32)) ∧ ok3 q then (if jo.length = 8 then (-4, (t0, t1, g, c, ro, jo, r)) else (nI (jo.length + 1), (t0, t1, g, c, ro, jo ++ [(m, p, q)], r))) else (-2, (t0, t1, g, c, ro, jo, r))
def uFrost (m : Int32) : sg → Int32 × sg
  | (t0, t1, g, c, ro, jo, fr, r) => if okM m then (if fr.length = 6 then (-4, (t0, t1, g, c, ro, jo, fr, r)) else (nI (fr.length + 1), (t0, t1, g, c, ro, jo, fr ++ [(m, 0, 0)], r))) else (-2, (t0, t1, g, c, ro, jo, fr, r))
def uBack (w : Int32) : sg → Int32 × sg
  | (t0, t1, g, c, ro, jo, fr, r) => if ((0 : Int32) ≤ w ∧ w ≤ (2 : Int32)) then
      (if w = 0 then (if ro = [] then (-3, (t0, t1, g, c, ro, jo, fr, r)) else (nI (ro.length - 1), (t0, t1, g, c, ro.dropLast, jo, fr, r)))
       else if w = 1 then (if jo = [] then (-3, (t0, t1, g, c, ro, jo, fr, r)) else (nI (jo.length - 1), (t0, t1, g, c, ro, jo.dropLast, fr, r)))
       else (if fr = [] then (-3, (t0, t1, g, c, ro, jo, fr, r)) else (nI (fr.length - 1), (t0, t1, g, c, ro, jo, fr.dropLast, r)))) else (-2, (t0, t1, g, c, ro, jo, fr, r))
def uSeen (m p x : Int32) : sg → Int32 × sg
  | (t0, t1, g, c, ro, jo, fr, se, r) => if okM m ∧ ((0 : Int32) ≤ p ∧ p ≤ (7 : Int32)) ∧ ((0 : Int32) ≤ x ∧ x ≤ (99 : Int32)) then (if se.length = 8 then (-4, (t0, t1, g, c, ro, jo, fr, se, r)) else (nI (se.length + 1), (t0, t1, g, c, ro, jo, fr, se ++ [(m, p, x)], r))) else (-2, (t0, t1, g, c, ro, jo, fr, se, r))
def uForget : sg → Int32 × sg
  | (t0, t1, g, c, ro, jo, fr, se, r) => (nI se.length, (t0, t1, g, c, ro, jo, fr, [], r))
theorem tB_app {l : List Int32} {b : Int32} (h : tB l) (hb : (0 : Int32) ≤ b ∧ b ≤ (255 : Int32)) : tB (l ++ [b]) := by
  intro x hx
  rcases List.mem_append.mp hx with z | z
  · exact h x z
  · rw [List.mem_singleton.mp z]
    obtain ⟨j, hj, rfl⟩ := rng_lit (n := 255) rfl (by omega) hb
    exact ⟨j, by omega, rfl⟩
theorem dl_mem {α : Type} {l : List α} {a : α} (h : a ∈ l.dropLast) : a ∈ l := List.dropLast_subset l h
theorem tB_last {l : List Int32} (h : tB l) : tB l.dropLast := fun b hb => h b (dl_mem hb)
theorem tB_nil : tB [] := fun b hb => by cases hb
theorem zTx_nil {S S' : zS} {k : Nat} (h : S' k 4 = 0) : zTx S' k [] := ⟨h, fun i b hb => by simp at hb⟩
theorem zTx_last {S S' : zS} {k : Nat} {l : List Int32} (hT : zTx S k l) (h0 : S' k 4 = nI (l.length - 1)) (h1 : S' (k + 1) = S (k + 1)) : zTx S' k l.dropLast := by
  refine ⟨by rw [h0, List.length_dropLast], fun i b hb => ?_⟩
  rw [h1]
  have hi : i < l.dropLast.length := (List.getElem?_eq_some_iff.mp hb).1
  rw [List.length_dropLast] at hi
  refine hT.2 i b ?_
  rw [List.getElem?_dropLast, if_pos hi] at hb
  exact hb
theorem zR_last {S S' : zS} {k : Nat} {l : List T3} (hR : zR S k l) (h0 : S' k 3 = nI (l.length - 1)) (h1 : S' (k + 1) = S (k + 1)) (h2 : S' (k + 2) = S (k + 2)) (h3 : S' (k + 3) = S (k + 3)) : zR S' k l.dropLast := by
  refine ⟨by rw [h0, List.length_dropLast], fun i e he => ?_⟩
  rw [h1, h2, h3]
  have hi : i < l.dropLast.length := (List.getElem?_eq_some_iff.mp he).1
  rw [List.length_dropLast] at hi
  refine hR.2 i e ?_
  rw [List.getElem?_dropLast, if_pos hi] at he
  exact he
section UC
variable {t0 t1 : List Int32} {g c : Int32} {ro jo fr se : List T3} {fo le it : pF} {la : Int32} {S : zS} {L : zL} {P : Int32 → zS → zL → Prop}
theorem type_c {t b : Int32} (hI : cI (t0, t1, g, c, ro, jo, fr, se, fo, le, it, la) S L) (h : ∀ S' L', cI (uType t b (t0, t1, g, c, ro, jo, fr, se, fo, le, it, la)).2 S' L' → oM S S' → P (uType t b (t0, t1, g, c, ro, jo, fr, se, fo, le, it, la)).1 S' L') : zCi mX10_type S L [.ref 0, .int t, .int b] P := by
  have hI0 := hI
  obtain ⟨⟨l0, l1, b0, b1⟩, x0, x1, hQ, hS, hw⟩ := hI
  have n4 : ∀ j, j < 2000 → ¬ nI j = -4 := fun j hj z => absurd (by rw [z]; decide) (nI_pos (n := j) (by omega))
  simp only [uType] at h
  refine e_X10_type (fun X => b_X10_type_0 ⟨fun q1 => ⟨fun q2 => ⟨fun z => ?_, fun z => ?_⟩, fun q2 => ?_⟩, fun q1 => ?_⟩)
  · rw [if_pos ⟨q1, q2⟩, if_pos z] at h
    by_cases hf : t0.length = 31
    · rw [if_pos hf] at h
      exact appfull1_s x0 hf ⟨fun _ => h S L hI0 oM.rf, fun y => absurd rfl y⟩
    · rw [if_neg hf] at h
      refine append1_s x0 (by omega) (fun S1 hT1 o1 => ⟨fun y => absurd y (n4 _ (by omega)), fun _ => ?_⟩)
      refine readTexts_s (by simp; omega) l1 (tB_app b0 q2) b1 hT1 (x1.keep (o1 _ (by omega)) (o1 _ (by omega))) (hQ.1.out (fun j a b => o1 j (by omega))) (hQ.2.2.1.out o1 (by omega)) hQ.2.1.r (hS.keep (o1 _ (by omega)) (o1 _ (by omega)) (o1 _ (by omega)) (o1 _ (by omega))) hw (fun S2 hI2 o2 => h S2 L hI2 (oM.trans (fun j hj => o1 j (by omega)) o2))
  · rw [if_pos ⟨q1, q2⟩, if_neg z] at h
    by_cases hf : t1.length = 39
    · rw [if_pos hf] at h
      exact appfull3_s x1 hf ⟨fun _ => h S L hI0 oM.rf, fun y => absurd rfl y⟩
    · rw [if_neg hf] at h
      refine append3_s x1 (by omega) (fun S1 hT1 o1 => ⟨fun y => absurd y (n4 _ (by omega)), fun _ => ?_⟩)
      refine readTexts_s l0 (by simp; omega) b0 (tB_app b1 q2) (x0.keep (o1 _ (by omega)) (o1 _ (by omega))) hT1 (hQ.1.out (fun j a b => o1 j (by omega))) (hQ.2.2.1.out o1 (by omega)) hQ.2.1.r (hS.keep (o1 _ (by omega)) (o1 _ (by omega)) (o1 _ (by omega)) (o1 _ (by omega))) hw (fun S2 hI2 o2 => h S2 L hI2 (oM.trans (fun j hj => o1 j (by omega)) o2))
  · rw [if_neg (fun y => q2 y.2)] at h; exact h S L hI0 oM.rf
  · rw [if_neg (fun y => q1 y.1)] at h; exact h S L hI0 oM.rf
theorem wipe_c {t : Int32} (hI : cI (t0, t1, g, c, ro, jo, fr, se, fo, le, it, la) S L) (h : ∀ S' L', cI (uWipe t (t0, t1, g, c, ro, jo, fr, se, fo, le, it, la)).2 S' L' → oM S S' → P (uWipe t (t0, t1, g, c, ro, jo, fr, se, fo, le, it, la)).1 S' L') : zCi mX10_wipe S L [.ref 0, .int t] P := by
  have hI0 := hI
  obtain ⟨⟨l0, l1, b0, b1⟩, x0, x1, hQ, hS, hw⟩ := hI
  simp only [uWipe] at h
  refine e_X10_wipe (fun X => b_X10_wipe_0 ⟨fun q1 => ⟨fun z y1 ey1 => ⟨fun _ S1 e1 => ?_, fun z2 => absurd z z2⟩, fun z y1 ey1 => ⟨fun z2 => absurd z2 z, fun _ S1 e1 => ?_⟩⟩, fun q1 => ?_⟩)
  · rw [if_pos q1, if_pos z] at h
    have o1 : ∀ j, j ≠ 1 → S1 j = S j := fun j hj => by rw [e1, zc_ne _ _ hj]
    rw [ey1, x0.1]
    refine readTexts_s (by simp) l1 tB_nil b1 (zTx_nil (S := S) (by rw [e1, zc_eq, upd, if_pos rfl])) (x1.keep (o1 _ (by omega)) (o1 _ (by omega))) (hQ.1.out (fun j a b => o1 j (by omega))) (hQ.2.2.1.keep (o1 _ (by omega)) (o1 _ (by omega)) (o1 _ (by omega)) (o1 _ (by omega))) hQ.2.1.r (hS.keep (o1 _ (by omega)) (o1 _ (by omega)) (o1 _ (by omega)) (o1 _ (by omega))) hw (fun S2 hI2 o2 => h S2 L hI2 (oM.trans (fun j hj => o1 j (by omega)) o2))
  · rw [if_pos q1, if_neg z] at h
    have o1 : ∀ j, j ≠ 3 → S1 j = S j := fun j hj => by rw [e1, zc_ne _ _ hj]
    rw [ey1, x1.1]
    refine readTexts_s l0 (by simp) b0 tB_nil (x0.keep (o1 _ (by omega)) (o1 _ (by omega))) (zTx_nil (S := S) (by rw [e1, zc_eq, upd, if_pos rfl])) (hQ.1.out (fun j a b => o1 j (by omega))) (hQ.2.2.1.keep (o1 _ (by omega)) (o1 _ (by omega)) (o1 _ (by omega)) (o1 _ (by omega))) hQ.2.1.r (hS.keep (o1 _ (by omega)) (o1 _ (by omega)) (o1 _ (by omega)) (o1 _ (by omega))) hw (fun S2 hI2 o2 => h S2 L hI2 (oM.trans (fun j hj => o1 j (by omega)) o2))
  · rw [if_neg q1] at h; exact h S L hI0 oM.rf
theorem pos_nil {α : Type} {l : List α} (hl : l.length < 2000) : (0 : Int32) < nI l.length ↔ ¬ l = [] := by
  constructor
  · intro z y; rw [y] at z; exact absurd z (show ¬ (0 : Int32) < nI 0 by decide)
  · intro z
    have : 0 < l.length := List.length_pos_iff.mpr z
    exact nI_lt (a := 0) this (by omega)
theorem sub1 {α : Type} {l : List α} (h : ¬ l = []) : nI l.length - 1 = nI (l.length - 1) := by
  have : 0 < l.length := List.length_pos_iff.mpr h
  obtain ⟨d, hd⟩ : ∃ d, l.length = d + 1 := ⟨l.length - 1, by omega⟩
  rw [hd, nI_pred]; rfl
theorem undo_c {t : Int32} (hI : cI (t0, t1, g, c, ro, jo, fr, se, fo, le, it, la) S L) (h : ∀ S' L', cI (uUndo t (t0, t1, g, c, ro, jo, fr, se, fo, le, it, la)).2 S' L' → oM S S' → P (uUndo t (t0, t1, g, c, ro, jo, fr, se, fo, le, it, la)).1 S' L') : zCi mX10_undo S L [.ref 0, .int t] P := by
  have hI0 := hI
  obtain ⟨⟨l0, l1, b0, b1⟩, x0, x1, hQ, hS, hw⟩ := hI
  simp only [uUndo] at h
  refine e_X10_undo (fun X => b_X10_undo_0 ?_)
  rw [x0.1, x1.1]
  refine ⟨fun q1 => ⟨fun z => ⟨fun y => ⟨fun _ S1 e1 => ?_, fun z2 => absurd z z2⟩, fun y => ?_⟩, fun z => ⟨fun y => ⟨fun z2 => absurd z2 z, fun _ S1 e1 => ?_⟩, fun y => ?_⟩⟩, fun q1 => ?_⟩
  · have hne : ¬ t0 = [] := (pos_nil (by omega)).mp y
    rw [if_pos q1, if_pos z, if_neg hne] at h
    have o1 : ∀ j, j ≠ 1 → S1 j = S j := fun j hj => by rw [e1, zc_ne _ _ hj]
    refine readTexts_s (by simp; omega) l1 (tB_last b0) b1 (zTx_last x0 (by rw [e1, zc_eq, upd, if_pos rfl, sub1 hne]) (o1 _ (by omega))) (x1.keep (o1 _ (by omega)) (o1 _ (by omega))) (hQ.1.out (fun j a b => o1 j (by omega))) (hQ.2.2.1.keep (o1 _ (by omega)) (o1 _ (by omega)) (o1 _ (by omega)) (o1 _ (by omega))) hQ.2.1.r (hS.keep (o1 _ (by omega)) (o1 _ (by omega)) (o1 _ (by omega)) (o1 _ (by omega))) hw (fun S2 hI2 o2 => ⟨fun _ => ?_, fun z2 => absurd z z2⟩)
    rw [hI2.2.1.1, List.length_dropLast]
    exact h S2 L hI2 (oM.trans (fun j hj => o1 j (by omega)) o2)
  · have he : t0 = [] := by
      rcases Decidable.em (t0 = []) with w | w
      · exact w
      · exact absurd ((pos_nil (by omega)).mpr w) y
    rw [if_pos q1, if_pos z, if_pos he] at h; exact h S L hI0 oM.rf
  · have hne : ¬ t1 = [] := (pos_nil (by omega)).mp y
    rw [if_pos q1, if_neg z, if_neg hne] at h
    have o1 : ∀ j, j ≠ 3 → S1 j = S j := fun j hj => by rw [e1, zc_ne _ _ hj]
    refine readTexts_s l0 (by simp; omega) b0 (tB_last b1) (x0.keep (o1 _ (by omega)) (o1 _ (by omega))) (zTx_last x1 (by rw [e1, zc_eq, upd, if_pos rfl, sub1 hne]) (o1 _ (by omega))) (hQ.1.out (fun j a b => o1 j (by omega))) (hQ.2.2.1.keep (o1 _ (by omega)) (o1 _ (by omega)) (o1 _ (by omega)) (o1 _ (by omega))) hQ.2.1.r (hS.keep (o1 _ (by omega)) (o1 _ (by omega)) (o1 _ (by omega)) (o1 _ (by omega))) hw (fun S2 hI2 o2 => ⟨fun z2 => absurd z2 z, fun _ => ?_⟩)
    rw [hI2.2.2.1.1, List.length_dropLast]
    exact h S2 L hI2 (oM.trans (fun j hj => o1 j (by omega)) o2)
  · have he : t1 = [] := by
      rcases Decidable.em (t1 = []) with w | w
      · exact w
      · exact absurd ((pos_nil (by omega)).mpr w) y
    rw [if_pos q1, if_neg z, if_pos he] at h; exact h S L hI0 oM.rf
  · rw [if_neg q1] at h; exact h S L hI0 oM.rf
/-- behind a change of what is told -/
theorem cI_told {S' : zS} {g' c' : Int32} {ro' jo' fr' : List T3} (hI : cI (t0, t1, g, c, ro, jo, fr, se, fo, le, it, la) S L) (hZ : cZ S') (ho : ∀ j, j < 5 ∨ 25 < j → j ≠ 0 → j ≠ 56 → j ≠ 59 → j ≠ 65 → S' j = S j) (hT : zT S' 5 (tL 0 t0) (tL 3 t1) ro' jo' fr' g' c') (hW : rW ro' jo' fr' se) : cI (t0, t1, g', c', ro', jo', fr', se, fo, le, it, la) S' L := by
  obtain ⟨⟨l0, l1, b0, b1⟩, x0, x1, hQ, hS, hw⟩ := hI
  have o : ∀ j, j < 5 ∨ 25 < j → j ≠ 0 → j ≠ 56 → j ≠ 59 → j ≠ 65 → S' j = S j := ho
  exact ⟨⟨l0, l1, b0, b1⟩, x0.keep (o _ (by omega) (by omega) (by omega) (by omega) (by omega)) (o _ (by omega) (by omega) (by omega) (by omega) (by omega)), x1.keep (o _ (by omega) (by omega) (by omega) (by omega) (by omega)) (o _ (by omega) (by omega) (by omega) (by omega) (by omega)), cQ_clear hT (sW_of l0 l1 hW) (hQ.2.2.1.keep (o _ (by omega) (by omega) (by omega) (by omega) (by omega)) (o _ (by omega) (by omega) (by omega) (by omega) (by omega)) (o _ (by omega) (by omega) (by omega) (by omega) (by omega)) (o _ (by omega) (by omega) (by omega) (by omega) (by omega))) hZ, hS.keep (o _ (by omega) (by omega) (by omega) (by omega) (by omega)) (o _ (by omega) (by omega) (by omega) (by omega) (by omega)) (o _ (by omega) (by omega) (by omega) (by omega) (by omega)) (o _ (by omega) (by omega) (by omega) (by omega) (by omega)), hw⟩
theorem set_c {w v : Int32} (hI : cI (t0, t1, g, c, ro, jo, fr, se, fo, le, it, la) S L) (h : ∀ S' L', cI (uSet w v (t0, t1, g, c, ro, jo, fr, se, fo, le, it, la)).2 S' L' → oM S S' → P (uSet w v (t0, t1, g, c, ro, jo, fr, se, fo, le, it, la)).1 S' L') : zCi mX10_set S L [.ref 0, .int w, .int v] P := by
  have hI0 := hI
  obtain ⟨⟨l0, l1, b0, b1⟩, x0, x1, hQ, hS, hw⟩ := hI
  have hT := hQ.1
  simp only [uSet] at h
  have go : ∀ X w1, ok1 w → w1 = (if w = 0 then (9 : Int32) else 30) → zU mX10_set X S L 22 [some (.ref 0), some (.int w), some (.int v), none] [.int w1, .int (0 : Int32), .int v] (zpi P) := by
    intro X w1 q1 hw1
    refine b_X10_set_22 ?_
    rw [hT.2.2.2.2.2.1, hT.2.2.2.2.2.2]
    rw [← hw1] at h
    refine ⟨fun q2 => ⟨fun z => ?_, fun z => ?_⟩, fun q2 => ?_⟩
    · rw [if_pos ⟨q1, q2⟩, if_neg z] at h
      refine b_X10_set_52 ⟨fun _ S1 e1 => unsettle_s (fun S2 hZ o2 => ?_), fun y => absurd y z⟩
      have o1 : ∀ j, j ≠ 5 → S1 j = S j := fun j hj => by rw [e1, zc_ne _ _ hj]
      refine h S2 L (cI_told hI0 hZ (fun j a b d e f => (o2 j b d e f).trans (o1 j (by omega))) ?_ hQ.2.1.r) (fun j hj => (o2 j (by omega) (by omega) (by omega) (by omega)).trans (o1 j (by omega)))
      obtain ⟨a1, a2, a3, a4, a5, a6, a7⟩ := hT
      have oo : ∀ j, 6 ≤ j → j ≤ 25 → S2 j = S j := fun j a b => (o2 j (by omega) (by omega) (by omega) (by omega)).trans (o1 j (by omega))
      have h5 : S2 5 = upd (S 5) 6 v := by rw [o2 5 (by omega) (by omega) (by omega) (by omega), e1, zc_eq]
      exact ⟨a1.keep (oo _ (by omega) (by omega)) (oo _ (by omega) (by omega)) (oo _ (by omega) (by omega)) (oo _ (by omega) (by omega)), a2.keep (oo _ (by omega) (by omega)) (oo _ (by omega) (by omega)) (oo _ (by omega) (by omega)) (oo _ (by omega) (by omega)), a3.keep (oo _ (by omega) (by omega)) (oo _ (by omega) (by omega)) (oo _ (by omega) (by omega)) (oo _ (by omega) (by omega)), a4.keep (oo _ (by omega) (by omega)) (oo _ (by omega) (by omega)) (oo _ (by omega) (by omega)) (oo _ (by omega) (by omega)), a5.keep (oo _ (by omega) (by omega)) (oo _ (by omega) (by omega)) (oo _ (by omega) (by omega)) (oo _ (by omega) (by omega)), by rw [h5, upd, if_neg (by omega)]; exact a6, by rw [h5, upd, if_pos rfl]⟩
    · rw [if_pos ⟨q1, q2⟩, if_pos z] at h
      refine b_X10_set_52 ⟨fun y => absurd z y, fun _ S1 e1 => unsettle_s (fun S2 hZ o2 => ?_)⟩
      have o1 : ∀ j, j ≠ 5 → S1 j = S j := fun j hj => by rw [e1, zc_ne _ _ hj]
      refine h S2 L (cI_told hI0 hZ (fun j a b d e f => (o2 j b d e f).trans (o1 j (by omega))) ?_ hQ.2.1.r) (fun j hj => (o2 j (by omega) (by omega) (by omega) (by omega)).trans (o1 j (by omega)))
      obtain ⟨a1, a2, a3, a4, a5, a6, a7⟩ := hT
      have oo : ∀ j, 6 ≤ j → j ≤ 25 → S2 j = S j := fun j a b => (o2 j (by omega) (by omega) (by omega) (by omega)).trans (o1 j (by omega))
      have h5 : S2 5 = upd (S 5) 5 v := by rw [o2 5 (by omega) (by omega) (by omega) (by omega), e1, zc_eq]
      exact ⟨a1.keep (oo _ (by omega) (by omega)) (oo _ (by omega) (by omega)) (oo _ (by omega) (by omega)) (oo _ (by omega) (by omega)), a2.keep (oo _ (by omega) (by omega)) (oo _ (by omega) (by omega)) (oo _ (by omega) (by omega)) (oo _ (by omega) (by omega)), a3.keep (oo _ (by omega) (by omega)) (oo _ (by omega) (by omega)) (oo _ (by omega) (by omega)) (oo _ (by omega) (by omega)), a4.keep (oo _ (by omega) (by omega)) (oo _ (by omega) (by omega)) (oo _ (by omega) (by omega)) (oo _ (by omega) (by omega)), a5.keep (oo _ (by omega) (by omega)) (oo _ (by omega) (by omega)) (oo _ (by omega) (by omega)) (oo _ (by omega) (by omega)), by rw [h5, upd, if_pos rfl], by rw [h5, upd, if_neg (by omega)]; exact a7⟩
    · rw [if_neg (fun y => q2 y.2)] at h; exact h S L hI0 oM.rf
  refine e_X10_set (fun X => b_X10_set_0 ⟨fun q1 => ⟨fun z => go X _ q1 (by rw [if_neg z]), fun z => go X _ q1 (by rw [if_pos z])⟩, fun q1 => ?_⟩)
  rw [if_neg (fun y => q1 y.1)] at h; exact h S L hI0 oM.rf
theorem zT_jo {pe de : List T3} {S S' : zS} {t : Nat} {jo' : List T3} (h : zT S t pe de ro jo fr g c) (hR : zR S' (t + 13) jo') (ho : zOut (t + 13) (t + 16) S S') : zT S' t pe de ro jo' fr g c := by
  obtain ⟨h1, h2, h3, h4, h5, h6, h7⟩ := h
  exact ⟨h1.out ho (by omega), h2.out ho (by omega), h3.out ho (by omega), hR, h5.out ho (by omega), by rw [ho _ (by omega)]; exact h6, by rw [ho _ (by omega)]; exact h7⟩
theorem lt8 {α : Type} {l : List α} {n : Nat} {M : Int32} (hM : M = nI n) (hn : n < 2000) (hl : l.length ≤ n) : nI l.length < M ↔ ¬ l.length = n := by
  rw [hM, nI_ltI (by omega) (by omega)]; omega
theorem mem_snoc {α : Type} {l : List α} {a : α} {Q : α → Prop} (h : ∀ e ∈ l, Q e) (ha : Q a) : ∀ e ∈ l ++ [a], Q e := by
  intro e he
  rcases List.mem_append.mp he with z | z
  · exact h e z
  · rw [List.mem_singleton.mp z]; exact ha
theorem round_c {m q p : Int32} (hI : cI (t0, t1, g, c, ro, jo, fr, se, fo, le, it, la) S L) (h : ∀ S' L', cI (uRound m q p (t0, t1, g, c, ro, jo, fr, se, fo, le, it, la)).2 S' L' → oM S S' → P (uRound m q p (t0, t1, g, c, ro, jo, fr, se, fo, le, it, la)).1 S' L') : zCi mX10_round S L [.ref 0, .int m, .int q, .int p] P := by
  have hI0 := hI
  obtain ⟨⟨l0, l1, b0, b1⟩, x0, x1, hQ, hS, hw⟩ := hI
  have hl := hQ.len
  have hT := hQ.1
  obtain ⟨⟨w1, w2, w3, w4⟩, e1, e2, e3, e4⟩ := hQ.2.1.r
  simp only [uRound] at h
  refine e_X10_round (fun X => b_X10_round_0 ?_)
  rw [hT.2.2.1.1]
  refine ⟨fun q1 => ⟨fun q2 => ⟨fun q3 => ⟨fun z => ?_, fun z => ?_⟩, fun z => ?_⟩, fun z => ?_⟩, fun z => ?_⟩
  · have hne := (lt8 rfl (by omega) w1).mp z
    rw [if_pos ⟨q1, q2, q3⟩, if_neg hne] at h
    refine unsettle_s (fun S1 hZ o1 => ?_)
    have hT1 : zT S1 5 (tL 0 t0) (tL 3 t1) ro jo fr g c := hT.out (fun j a b => o1 j (by omega) (by omega) (by omega) (by omega))
    refine rows_append (n := 9) zTo5.2.2.2.1 hT1.2.2.1 (by omega) (by omega) (fun S2 hR2 o2 => ?_)
    have hT2 := zT_ro hT1 hR2 (o2.mono (by omega) (by omega))
    obtain ⟨mm, hm, hme⟩ := rng_lit (n := 23) rfl (by omega) q1
    obtain ⟨pp, hp1, hp2, hpe⟩ := rng_1 q3
    have hZ2 : cZ S2 := by
      obtain ⟨z1, z2, z3, z4, z5, z6⟩ := hZ
      exact ⟨by rw [o2 0 (by omega)]; exact z1, by rw [o2 56 (by omega)]; exact z2, by rw [o2 56 (by omega)]; exact z3, by rw [o2 56 (by omega)]; exact z4, by rw [o2 59 (by omega)]; exact z5, by rw [o2 65 (by omega)]; exact z6⟩
    refine h S2 L (cI_told hI0 hZ2 (fun j a b d e f => (o2 j (by omega)).trans (o1 j b d e f)) hT2 ⟨⟨by simp; omega, w2, w3, w4⟩, mem_snoc e1 ⟨⟨mm, by omega, hme⟩, ⟨pp, hp2, hpe⟩⟩, e2, e3, e4⟩) (fun j hj => (o2 j (by omega)).trans (o1 j (by omega) (by omega) (by omega) (by omega)))
  · have he : ro.length = 8 := by
      rcases Decidable.em (ro.length = 8) with y | y
      · exact y
      · exact absurd ((lt8 rfl (by omega) w1).mpr y) z
    rw [if_pos ⟨q1, q2, q3⟩, if_pos he] at h; exact h S L hI0 oM.rf
  · rw [if_neg (fun y => z y.2.2)] at h; exact h S L hI0 oM.rf
  · rw [if_neg (fun y => z y.2.1)] at h; exact h S L hI0 oM.rf
  · rw [if_neg (fun y => z y.1)] at h; exact h S L hI0 oM.rf
theorem cZ.out {S S' : zS} {a b : Nat} (hZ : cZ S) (ho : zOut a b S S') (h0 : 0 < a) (hb : b < 56) : cZ S' := by
  obtain ⟨z1, z2, z3, z4, z5, z6⟩ := hZ
  exact ⟨by rw [ho 0 (by omega)]; exact z1, by rw [ho 56 (by omega)]; exact z2, by rw [ho 56 (by omega)]; exact z3, by rw [ho 56 (by omega)]; exact z4, by rw [ho 59 (by omega)]; exact z5, by rw [ho 65 (by omega)]; exact z6⟩
theorem journey_c {m p q : Int32} (hI : cI (t0, t1, g, c, ro, jo, fr, se, fo, le, it, la) S L) (h : ∀ S' L', cI (uJourney m p q (t0, t1, g, c, ro, jo, fr, se, fo, le, it, la)).2 S' L' → oM S S' → P (uJourney m p q (t0, t1, g, c, ro, jo, fr, se, fo, le, it, la)).1 S' L') : zCi mX10_journey S L [.ref 0, .int m, .int p, .int q] P := by
  have hI0 := hI
  obtain ⟨⟨l0, l1, b0, b1⟩, x0, x1, hQ, hS, hw⟩ := hI
  have hl := hQ.len
  have hT := hQ.1
  obtain ⟨⟨w1, w2, w3, w4⟩, e1, e2, e3, e4⟩ := hQ.2.1.r
  simp only [uJourney] at h
  refine e_X10_journey (fun X => b_X10_journey_0 ?_)
  rw [hT.2.2.2.1.1]
  refine ⟨fun q1 => ⟨fun q2 => ⟨fun q3 => ⟨fun z => ?_, fun z => ?_⟩, fun z => ?_⟩, fun z => ?_⟩, fun z => ?_⟩
  · have hne := (lt8 rfl (by omega) w2).mp z
    rw [if_pos ⟨q1, q2, q3⟩, if_neg hne] at h
    refine unsettle_s (fun S1 hZ o1 => ?_)
    have hT1 : zT S1 5 (tL 0 t0) (tL 3 t1) ro jo fr g c := hT.out (fun j a b => o1 j (by omega) (by omega) (by omega) (by omega))
    refine rows_append (n := 8) zTo5.2.2.2.2.1 hT1.2.2.2.1 (by omega) (by omega) (fun S2 hR2 o2 => ?_)
    have hT2 := zT_jo hT1 hR2 (o2.mono (by omega) (by omega))
    obtain ⟨mm, hm, hme⟩ := rng_lit (n := 23) rfl (by omega) q1
    obtain ⟨qq, hq, hqe⟩ := rng_lit (n := 3) rfl (by omega) q3
    refine h S2 L (cI_told hI0 (hZ.out o2 (by omega) (by omega)) (fun j a b d e f => (o2 j (by omega)).trans (o1 j b d e f)) hT2 ⟨⟨w1, by simp; omega, w3, w4⟩, e1, mem_snoc e2 ⟨⟨mm, by omega, hme⟩, ⟨qq, by omega, hqe⟩⟩, e3, e4⟩) (fun j hj => (o2 j (by omega)).trans (o1 j (by omega) (by omega) (by omega) (by omega)))
  · have he : jo.length = 8 := by
      rcases Decidable.em (jo.length = 8) with y | y
      · exact y
      · exact absurd ((lt8 rfl (by omega) w2).mpr y) z
    rw [if_pos ⟨q1, q2, q3⟩, if_pos he] at h; exact h S L hI0 oM.rf
  · rw [if_neg (fun y => z y.2.2)] at h; exact h S L hI0 oM.rf
  · rw [if_neg (fun y => z y.2.1)] at h; exact h S L hI0 oM.rf
  · rw [if_neg (fun y => z y.1)] at h; exact h S L hI0 oM.rf
theorem frost_c {m : Int32} (hI : cI (t0, t1, g, c, ro, jo, fr, se, fo, le, it, la) S L) (h : ∀ S' L', cI (uFrost m (t0, t1, g, c, ro, jo, fr, se, fo, le, it, la)).2 S' L' → oM S S' → P (uFrost m (t0, t1, g, c, ro, jo, fr, se, fo, le, it, la)).1 S' L') : zCi mX10_frost S L [.ref 0, .int m] P := by
  have hI0 := hI
  obtain ⟨⟨l0, l1, b0, b1⟩, x0, x1, hQ, hS, hw⟩ := hI
  have hl := hQ.len
  have hT := hQ.1
  obtain ⟨⟨w1, w2, w3, w4⟩, e1, e2, e3, e4⟩ := hQ.2.1.r
  simp only [uFrost] at h
  refine e_X10_frost (fun X => b_X10_frost_0 ?_)
  rw [hT.2.2.2.2.1.1]
  refine ⟨fun q1 => ⟨fun z => ?_, fun z => ?_⟩, fun z => ?_⟩
  · have hne := (lt8 rfl (by omega) w3).mp z
    rw [if_pos q1, if_neg hne] at h
    refine unsettle_s (fun S1 hZ o1 => ?_)
    have hT1 : zT S1 5 (tL 0 t0) (tL 3 t1) ro jo fr g c := hT.out (fun j a b => o1 j (by omega) (by omega) (by omega) (by omega))
    refine rows_append (n := 8) zTo5.2.2.2.2.2 hT1.2.2.2.2.1 (by omega) (by omega) (fun S2 hR2 o2 => ?_)
    have hT2 := zT_fr hT1 hR2 (o2.mono (by omega) (by omega))
    obtain ⟨mm, hm, hme⟩ := rng_lit (n := 23) rfl (by omega) q1
    refine h S2 L (cI_told hI0 (hZ.out o2 (by omega) (by omega)) (fun j a b d e f => (o2 j (by omega)).trans (o1 j b d e f)) hT2 ⟨⟨w1, w2, by simp; omega, w4⟩, e1, e2, mem_snoc e3 ⟨mm, by omega, hme⟩, e4⟩) (fun j hj => (o2 j (by omega)).trans (o1 j (by omega) (by omega) (by omega) (by omega)))
  · have he : fr.length = 6 := by
      rcases Decidable.em (fr.length = 6) with y | y
      · exact y
      · exact absurd ((lt8 rfl (by omega) w3).mpr y) z
    rw [if_pos q1, if_pos he] at h; exact h S L hI0 oM.rf
  · rw [if_neg z] at h; exact h S L hI0 oM.rf
theorem mem_last {α : Type} {l : List α} {Q : α → Prop} (h : ∀ e ∈ l, Q e) : ∀ e ∈ l.dropLast, Q e := fun e he => h e (dl_mem he)
theorem back_c {w : Int32} (hI : cI (t0, t1, g, c, ro, jo, fr, se, fo, le, it, la) S L) (h : ∀ S' L', cI (uBack w (t0, t1, g, c, ro, jo, fr, se, fo, le, it, la)).2 S' L' → oM S S' → P (uBack w (t0, t1, g, c, ro, jo, fr, se, fo, le, it, la)).1 S' L') : zCi mX10_back S L [.ref 0, .int w] P := by
  have hI0 := hI
  obtain ⟨⟨l0, l1, b0, b1⟩, x0, x1, hQ, hS, hw⟩ := hI
  have hl := hQ.len
  have hT := hQ.1
  obtain ⟨⟨w1, w2, w3, w4⟩, e1, e2, e3, e4⟩ := hQ.2.1.r
  simp only [uBack] at h
  have nilOf : ∀ {l : List T3}, l.length < 2000 → ¬ (0 : Int32) < nI l.length → l = [] := by
    intro l hl2 y
    rcases Decidable.em (l = []) with w | w
    · exact w
    · exact absurd ((pos_nil hl2).mpr w) y
  refine e_X10_back (fun X => b_X10_back_0 ?_)
  rw [hT.2.2.1.1, hT.2.2.2.1.1, hT.2.2.2.2.1.1]
  refine ⟨fun q1 => ⟨fun z0 => ⟨fun z1 => ⟨fun y => ?_, fun y => ?_⟩, fun z1 => ⟨fun y => ?_, fun y => ?_⟩⟩, fun z0 => ⟨fun y => ?_, fun y => ?_⟩⟩, fun q1 => ?_⟩
  · have hne := (pos_nil (by omega)).mp y
    rw [if_pos q1, if_neg z0, if_neg z1, if_neg hne] at h
    refine unsettle_s (fun S1 hZ o1 S2 f2 => ?_)
    have hT1 : zT S1 5 (tL 0 t0) (tL 3 t1) ro jo fr g c := hT.out (fun j a b => o1 j (by omega) (by omega) (by omega) (by omega))
    have h22 : S2 22 3 = nI (fr.length - 1) := by rw [f2, zc_eq, upd, if_pos rfl, hT1.2.2.2.2.1.1, sub1 hne]
    have o2 : zOut 22 25 S1 S2 := by rw [f2]; exact zOut.zc (by omega) (by omega)
    rw [h22]
    refine h S2 L (cI_told hI0 (hZ.out o2 (by omega) (by omega)) (fun j a b d e f => (o2 j (by omega)).trans (o1 j b d e f)) (zT_fr hT1 (zR_last hT1.2.2.2.2.1 h22 (by rw [f2, zc_ne _ _ (by omega)]) (by rw [f2, zc_ne _ _ (by omega)]) (by rw [f2, zc_ne _ _ (by omega)])) o2) ⟨⟨w1, w2, by simp; omega, w4⟩, e1, e2, mem_last e3, e4⟩) (fun j hj => (o2 j (by omega)).trans (o1 j (by omega) (by omega) (by omega) (by omega)))
  · rw [if_pos q1, if_neg z0, if_neg z1, if_pos (nilOf (by omega) y)] at h; exact h S L hI0 oM.rf
  · have hne := (pos_nil (by omega)).mp y
    rw [if_pos q1, if_neg z0, if_pos z1, if_neg hne] at h
    refine unsettle_s (fun S1 hZ o1 S2 f2 => ?_)
    have hT1 : zT S1 5 (tL 0 t0) (tL 3 t1) ro jo fr g c := hT.out (fun j a b => o1 j (by omega) (by omega) (by omega) (by omega))
    have h18 : S2 18 3 = nI (jo.length - 1) := by rw [f2, zc_eq, upd, if_pos rfl, hT1.2.2.2.1.1, sub1 hne]
    have o2 : zOut 18 21 S1 S2 := by rw [f2]; exact zOut.zc (by omega) (by omega)
    rw [h18]
    refine h S2 L (cI_told hI0 (hZ.out o2 (by omega) (by omega)) (fun j a b d e f => (o2 j (by omega)).trans (o1 j b d e f)) (zT_jo hT1 (zR_last hT1.2.2.2.1 h18 (by rw [f2, zc_ne _ _ (by omega)]) (by rw [f2, zc_ne _ _ (by omega)]) (by rw [f2, zc_ne _ _ (by omega)])) o2) ⟨⟨w1, by simp; omega, w3, w4⟩, e1, mem_last e2, e3, e4⟩) (fun j hj => (o2 j (by omega)).trans (o1 j (by omega) (by omega) (by omega) (by omega)))
  · rw [if_pos q1, if_neg z0, if_pos z1, if_pos (nilOf (by omega) y)] at h; exact h S L hI0 oM.rf
  · have hne := (pos_nil (by omega)).mp y
    rw [if_pos q1, if_pos z0, if_neg hne] at h
    refine unsettle_s (fun S1 hZ o1 S2 f2 => ?_)
    have hT1 : zT S1 5 (tL 0 t0) (tL 3 t1) ro jo fr g c := hT.out (fun j a b => o1 j (by omega) (by omega) (by omega) (by omega))
    have h14 : S2 14 3 = nI (ro.length - 1) := by rw [f2, zc_eq, upd, if_pos rfl, hT1.2.2.1.1, sub1 hne]
    have o2 : zOut 14 17 S1 S2 := by rw [f2]; exact zOut.zc (by omega) (by omega)
    rw [h14]
    refine h S2 L (cI_told hI0 (hZ.out o2 (by omega) (by omega)) (fun j a b d e f => (o2 j (by omega)).trans (o1 j b d e f)) (zT_ro hT1 (zR_last hT1.2.2.1 h14 (by rw [f2, zc_ne _ _ (by omega)]) (by rw [f2, zc_ne _ _ (by omega)]) (by rw [f2, zc_ne _ _ (by omega)])) o2) ⟨⟨by simp; omega, w2, w3, w4⟩, mem_last e1, e2, e3, e4⟩) (fun j hj => (o2 j (by omega)).trans (o1 j (by omega) (by omega) (by omega) (by omega)))
  · rw [if_pos q1, if_pos z0, if_pos (nilOf (by omega) y)] at h; exact h S L hI0 oM.rf
  · rw [if_neg q1] at h; exact h S L hI0 oM.rf
/-- behind a change of what is seen -/
theorem cI_seen {S' : zS} {se' : List T3} (hI : cI (t0, t1, g, c, ro, jo, fr, se, fo, le, it, la) S L) (h59 : S' 59 4 = 0) (ho : ∀ j, j < 59 ∨ 63 < j → S' j = S j) (hR : zR S' 60 se') (hW : rW ro jo fr se') : cI (t0, t1, g, c, ro, jo, fr, se', fo, le, it, la) S' L := by
  obtain ⟨⟨l0, l1, b0, b1⟩, x0, x1, hQ, hS, hw⟩ := hI
  obtain ⟨q1, q2, q3, q4, q5, q6, q7, q8, q9⟩ := hQ
  exact ⟨⟨l0, l1, b0, b1⟩, x0.keep (ho _ (by omega)) (ho _ (by omega)), x1.keep (ho _ (by omega)) (ho _ (by omega)), ⟨q1.out (fun j a b => ho j (by omega)), sW_of l0 l1 hW, hR, q4.keep (ho _ (by omega)) (ho _ (by omega)) (ho _ (by omega)) (ho _ (by omega)), q5.keep (by rw [ho 56 (by omega)]) (ho _ (by omega)), q6.keep (fun i _ _ => by rw [ho 56 (by omega)]), q7.keep (fun i _ => by rw [ho 56 (by omega)]), Or.inl h59, q9.keep (by rw [ho 65 (by omega)]) (by rw [ho 65 (by omega)]) rfl rfl⟩, hS.keep (ho _ (by omega)) (ho _ (by omega)) (ho _ (by omega)) (ho _ (by omega)), hw⟩
theorem seen_c {m p x : Int32} (hI : cI (t0, t1, g, c, ro, jo, fr, se, fo, le, it, la) S L) (h : ∀ S' L', cI (uSeen m p x (t0, t1, g, c, ro, jo, fr, se, fo, le, it, la)).2 S' L' → oM S S' → P (uSeen m p x (t0, t1, g, c, ro, jo, fr, se, fo, le, it, la)).1 S' L') : zCi mX10_seen S L [.ref 0, .int m, .int p, .int x] P := by
  have hI0 := hI
  obtain ⟨⟨l0, l1, b0, b1⟩, x0, x1, hQ, hS, hw⟩ := hI
  obtain ⟨⟨w1, w2, w3, w4⟩, e1, e2, e3, e4⟩ := hQ.2.1.r
  simp only [uSeen] at h
  refine e_X10_seen (fun X => b_X10_seen_0 ?_)
  rw [hQ.2.2.1.1]
  refine ⟨fun q1 => ⟨fun q2 => ⟨fun q3 => ⟨fun z => ?_, fun z => ?_⟩, fun z => ?_⟩, fun z => ?_⟩, fun z => ?_⟩
  · have hne := (lt8 rfl (by omega) w4).mp z
    rw [if_pos ⟨q1, q2, q3⟩, if_neg hne] at h
    refine wunsettle_s (fun S1 f1 o1 => ?_)
    refine rows_append (n := 8) (k := 60) ⟨rfl, rfl, rfl, rfl⟩ (hQ.2.2.1.keep (o1 _ (by omega)) (o1 _ (by omega)) (o1 _ (by omega)) (o1 _ (by omega))) (by omega) (by omega) (fun S2 hR2 o2 => ?_)
    obtain ⟨mm, hm, hme⟩ := rng_lit (n := 23) rfl (by omega) q1
    obtain ⟨pp, hp, hpe⟩ := rng_lit (n := 7) rfl (by omega) q2
    refine h S2 L (cI_seen hI0 (by rw [o2 59 (by omega), f1, upd, if_pos rfl]) (fun j hj => (o2 j (by omega)).trans (o1 j (by omega))) hR2 ⟨⟨w1, w2, w3, by simp; omega⟩, e1, e2, e3, mem_snoc e4 ⟨⟨mm, by omega, hme⟩, ⟨pp, by omega, hpe⟩⟩⟩) (fun j hj => (o2 j (by omega)).trans (o1 j (by omega)))
  · have he : se.length = 8 := by
      rcases Decidable.em (se.length = 8) with y | y
      · exact y
      · exact absurd ((lt8 rfl (by omega) w4).mpr y) z
    rw [if_pos ⟨q1, q2, q3⟩, if_pos he] at h; exact h S L hI0 oM.rf
  · rw [if_neg (fun y => z y.2.2)] at h; exact h S L hI0 oM.rf
  · rw [if_neg (fun y => z y.2.1)] at h; exact h S L hI0 oM.rf
  · rw [if_neg (fun y => z y.1)] at h; exact h S L hI0 oM.rf
theorem forget_c (hI : cI (t0, t1, g, c, ro, jo, fr, se, fo, le, it, la) S L) (h : ∀ S' L', cI (uForget (t0, t1, g, c, ro, jo, fr, se, fo, le, it, la)).2 S' L' → oM S S' → P (uForget (t0, t1, g, c, ro, jo, fr, se, fo, le, it, la)).1 S' L') : zCi mX10_forget S L [.ref 0] P := by
  have hI0 := hI
  obtain ⟨⟨l0, l1, b0, b1⟩, x0, x1, hQ, hS, hw⟩ := hI
  obtain ⟨⟨w1, w2, w3, w4⟩, e1, e2, e3, e4⟩ := hQ.2.1.r
  simp only [uForget] at h
  refine e_X10_forget (fun X => b_X10_forget_0 (fun y1 ey1 S1 f1 => wunsettle_s (fun S2 f2 o2 => ?_)))
  rw [ey1, hQ.2.2.1.1]
  have o1 : ∀ j, j ≠ 60 → S1 j = S j := fun j hj => by rw [f1, zc_ne _ _ hj]
  refine h S2 L (cI_seen hI0 (by rw [f2, upd, if_pos rfl]) (fun j hj => (o2 j (by omega)).trans (o1 j (by omega))) ⟨by rw [o2 60 (by omega), f1, zc_eq, upd, if_pos rfl]; rfl, fun i e he => by simp at he⟩ ⟨⟨w1, w2, w3, by simp⟩, e1, e2, e3, fun e he => by cases he⟩) (fun j hj => (o2 j (by omega)).trans (o1 j (by omega)))
end UC
