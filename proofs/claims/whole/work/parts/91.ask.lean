/-! QUESTIONS over the whole state; write and read -/
def qFault (t : Int32) : sg → Int32
  | (t0, t1, _) => if ok1 t then (if t = 0 then tFs 0 0 t0 else tFs 3 0 t1) else -2
def qPerson (p w : Int32) : sg → Int32
  | (t0, _) => if okN (tL 0 t0).length p ∧ okF w then t3c ((tL 0 t0).getD p.toNatClampNeg (0, 0, 0)) w else -2
def qDeed (d w : Int32) : sg → Int32
  | (_, t1, _) => if okN (tL 3 t1).length d ∧ okF w then t3c ((tL 3 t1).getD d.toNatClampNeg (0, 0, 0)) w else -2
def qCount (w : Int32) : sg → Int32
  | (t0, t1, g, c, ro, jo, fr, se, _, _, _, la) => if w = 0 then nI (tL 0 t0).length else if w = 1 then nI (tL 3 t1).length else if w = 2 then nI t0.length else if w = 3 then nI t1.length else if w = 4 then nI ro.length else if w = 5 then nI jo.length + nI fr.length else if w = 6 then pLg (tL 0 t0).length (pCf (tL 0 t0) (tL 3 t1) ro jo fr g c 24).2.1 else if w = 7 then nI se.length else if w = 8 then la else -2
def qWool (m p w : Int32) : sg → Int32
  | (t0, t1, g, c, ro, jo, fr, se, _, _, _, _) => aWool (tL 0 t0) (tL 3 t1) ro jo fr g c m p w
def qDies (p : Int32) : sg → Int32
  | (t0, t1, g, c, ro, jo, fr, se, _, _, _, _) => aDies (tL 0 t0) (tL 3 t1) ro jo fr g c p
def qCloth (m q w : Int32) : sg → Int32
  | (t0, t1, g, c, ro, jo, fr, se, _, _, _, _) => aCloth (tL 0 t0) (tL 3 t1) ro jo fr g c m q w
def qThorn (m : Int32) : sg → Int32
  | (t0, t1, g, c, ro, jo, fr, se, _, _, _, _) => aThorn (tL 0 t0) (tL 3 t1) ro jo fr g c m
def qTax (w : Int32) : sg → Int32
  | (t0, t1, g, c, ro, jo, fr, se, _, _, _, _) => aTax (tL 0 t0) (tL 3 t1) ro jo fr g c w
def qHeavy (m : Int32) : sg → Int32
  | (t0, t1, g, c, ro, jo, fr, se, _, _, _, _) => aHeavy (tL 0 t0) (tL 3 t1) ro jo fr g c m
def qFirst (w : Int32) : sg → Int32
  | (t0, t1, g, c, ro, jo, fr, se, _, _, _, _) => aFirst (tL 0 t0) (tL 3 t1) ro jo fr g c w
def qPlan (pace w : Int32) : sg → Int32
  | (t0, t1, g, c, ro, jo, fr, se, _, _, _, _) => aPlan (tL 0 t0) (tL 3 t1) ro jo fr g c pace w
def qLight (p most i : Int32) : sg → Int32
  | (t0, t1, g, c, ro, jo, fr, se, _, _, _, _) => aLight (tL 0 t0) (tL 3 t1) ro jo fr g c p most i
def qSpare (i : Int32) : sg → Int32
  | (t0, t1, g, c, ro, jo, fr, se, _, _, _, _) => aSpare (tL 0 t0) (tL 3 t1) ro jo fr g c i
def qHome (p w : Int32) : sg → Int32
  | (t0, t1, g, c, ro, jo, fr, se, _, _, _, _) => aHome (tL 0 t0) (tL 3 t1) ro jo fr g c p w
def qNever : sg → Int32
  | (t0, t1, g, c, ro, jo, fr, se, _, _, _, _) => pNv (tL 0 t0) (tL 3 t1) ro jo fr se g c
def qWas (d w : Int32) : sg → Int32
  | (t0, t1, g, c, ro, jo, fr, se, _, _, _, _) => aWas (tL 0 t0) (tL 3 t1) ro jo fr se g c d w
def qAsk (p : Int32) : sg → Int32
  | (t0, t1, g, c, ro, jo, fr, se, _, _, _, _) => aAsk (tL 0 t0) (tL 3 t1) ro jo fr se g c p
def qYears (seed n w : Int32) : sg → Int32
  | (t0, t1, g, c, ro, jo, fr, se, _, _, _, _) => aYears (tL 0 t0) ro jo fr g c seed n w
section QL
variable {t0 t1 : List Int32} {g c : Int32} {ro jo fr se : List T3} {fo le it : pF} {la : Int32} {S : zS} {L : zL} {P : Int32 → zS → zL → Prop}
theorem wool_q {m p w : Int32} (hI : cI (t0, t1, g, c, ro, jo, fr, se, fo, le, it, la) S L) (h : ∀ S' L', cI (t0, t1, g, c, ro, jo, fr, se, fo, le, it, la) S' L' → oM S S' → P (qWool m p w (t0, t1, g, c, ro, jo, fr, se, fo, le, it, la)) S' L') : zCi mX10_wool S L [.ref 0, .int m, .int p, .int w] P :=
  wool_c hI.2.2.2.1 (fun S' hQ hq => h S' L (cI_q hI hQ hq) hq.m)
theorem dies_q {p : Int32} (hI : cI (t0, t1, g, c, ro, jo, fr, se, fo, le, it, la) S L) (h : ∀ S' L', cI (t0, t1, g, c, ro, jo, fr, se, fo, le, it, la) S' L' → oM S S' → P (qDies p (t0, t1, g, c, ro, jo, fr, se, fo, le, it, la)) S' L') : zCi mX10_dies S L [.ref 0, .int p] P :=
  dies_c hI.2.2.2.1 (fun S' hQ hq => h S' L (cI_q hI hQ hq) hq.m)
theorem cloth_q {m q w : Int32} (hI : cI (t0, t1, g, c, ro, jo, fr, se, fo, le, it, la) S L) (h : ∀ S' L', cI (t0, t1, g, c, ro, jo, fr, se, fo, le, it, la) S' L' → oM S S' → P (qCloth m q w (t0, t1, g, c, ro, jo, fr, se, fo, le, it, la)) S' L') : zCi mX10_cloth S L [.ref 0, .int m, .int q, .int w] P :=
  cloth_c hI.2.2.2.1 (fun S' hQ hq => h S' L (cI_q hI hQ hq) hq.m)
theorem thorn_q {m : Int32} (hI : cI (t0, t1, g, c, ro, jo, fr, se, fo, le, it, la) S L) (h : ∀ S' L', cI (t0, t1, g, c, ro, jo, fr, se, fo, le, it, la) S' L' → oM S S' → P (qThorn m (t0, t1, g, c, ro, jo, fr, se, fo, le, it, la)) S' L') : zCi mX10_thorn S L [.ref 0, .int m] P :=
  thorn_c hI.2.2.2.1 (fun S' hQ hq => h S' L (cI_q hI hQ hq) hq.m)
theorem tax_q {w : Int32} (hI : cI (t0, t1, g, c, ro, jo, fr, se, fo, le, it, la) S L) (h : ∀ S' L', cI (t0, t1, g, c, ro, jo, fr, se, fo, le, it, la) S' L' → oM S S' → P (qTax w (t0, t1, g, c, ro, jo, fr, se, fo, le, it, la)) S' L') : zCi mX10_tax S L [.ref 0, .int w] P :=
  tax_c hI.2.2.2.1 (fun S' hQ hq => h S' L (cI_q hI hQ hq) hq.m)
theorem heaviest_q {m : Int32} (hI : cI (t0, t1, g, c, ro, jo, fr, se, fo, le, it, la) S L) (h : ∀ S' L', cI (t0, t1, g, c, ro, jo, fr, se, fo, le, it, la) S' L' → oM S S' → P (qHeavy m (t0, t1, g, c, ro, jo, fr, se, fo, le, it, la)) S' L') : zCi mX10_heaviest S L [.ref 0, .int m] P :=
  heavy_c hI.2.2.2.1 (fun S' hQ hq => h S' L (cI_q hI hQ hq) hq.m)
theorem first_q {w : Int32} (hI : cI (t0, t1, g, c, ro, jo, fr, se, fo, le, it, la) S L) (h : ∀ S' L', cI (t0, t1, g, c, ro, jo, fr, se, fo, le, it, la) S' L' → oM S S' → P (qFirst w (t0, t1, g, c, ro, jo, fr, se, fo, le, it, la)) S' L') : zCi mX10_first S L [.ref 0, .int w] P :=
  first_c hI.2.2.2.1 (fun S' hQ hq => h S' L (cI_q hI hQ hq) hq.m)
theorem plan_q {pace w : Int32} (hI : cI (t0, t1, g, c, ro, jo, fr, se, fo, le, it, la) S L) (h : ∀ S' L', cI (t0, t1, g, c, ro, jo, fr, se, fo, le, it, la) S' L' → oM S S' → P (qPlan pace w (t0, t1, g, c, ro, jo, fr, se, fo, le, it, la)) S' L') : zCi mX10_plan S L [.ref 0, .int pace, .int w] P :=
  plan_c hI.2.2.2.1 (fun S' hQ hq => h S' L (cI_q hI hQ hq) hq.m)
theorem light_q {p most i : Int32} (hI : cI (t0, t1, g, c, ro, jo, fr, se, fo, le, it, la) S L) (h : ∀ S' L', cI (t0, t1, g, c, ro, jo, fr, se, fo, le, it, la) S' L' → oM S S' → P (qLight p most i (t0, t1, g, c, ro, jo, fr, se, fo, le, it, la)) S' L') : zCi mX10_light S L [.ref 0, .int p, .int most, .int i] P :=
  light_c hI.2.2.2.1 (fun S' hQ hq => h S' L (cI_q hI hQ hq) hq.m)
theorem spare_q {i : Int32} (hI : cI (t0, t1, g, c, ro, jo, fr, se, fo, le, it, la) S L) (h : ∀ S' L', cI (t0, t1, g, c, ro, jo, fr, se, fo, le, it, la) S' L' → oM S S' → P (qSpare i (t0, t1, g, c, ro, jo, fr, se, fo, le, it, la)) S' L') : zCi mX10_spare S L [.ref 0, .int i] P :=
  spare_c hI.2.2.2.1 (fun S' hQ hq => h S' L (cI_q hI hQ hq) hq.m)
theorem home_q {p w : Int32} (hI : cI (t0, t1, g, c, ro, jo, fr, se, fo, le, it, la) S L) (h : ∀ S' L', cI (t0, t1, g, c, ro, jo, fr, se, fo, le, it, la) S' L' → oM S S' → P (qHome p w (t0, t1, g, c, ro, jo, fr, se, fo, le, it, la)) S' L') : zCi mX10_home S L [.ref 0, .int p, .int w] P :=
  home_c hI.2.2.2.1 (fun S' hQ hq => h S' L (cI_q hI hQ hq) hq.m)
theorem never_q (hI : cI (t0, t1, g, c, ro, jo, fr, se, fo, le, it, la) S L) (h : ∀ S' L', cI (t0, t1, g, c, ro, jo, fr, se, fo, le, it, la) S' L' → oM S S' → P (qNever  (t0, t1, g, c, ro, jo, fr, se, fo, le, it, la)) S' L') : zCi mX10_never S L [.ref 0] P :=
  never_c hI.2.2.2.1 (fun S' hQ hq => h S' L (cI_q hI hQ hq) hq.m)
theorem was_q {d w : Int32} (hI : cI (t0, t1, g, c, ro, jo, fr, se, fo, le, it, la) S L) (h : ∀ S' L', cI (t0, t1, g, c, ro, jo, fr, se, fo, le, it, la) S' L' → oM S S' → P (qWas d w (t0, t1, g, c, ro, jo, fr, se, fo, le, it, la)) S' L') : zCi mX10_was S L [.ref 0, .int d, .int w] P :=
  was_c hI.2.2.2.1 (fun S' hQ hq => h S' L (cI_q hI hQ hq) hq.m)
theorem ask_q {p : Int32} (hI : cI (t0, t1, g, c, ro, jo, fr, se, fo, le, it, la) S L) (h : ∀ S' L', cI (t0, t1, g, c, ro, jo, fr, se, fo, le, it, la) S' L' → oM S S' → P (qAsk p (t0, t1, g, c, ro, jo, fr, se, fo, le, it, la)) S' L') : zCi mX10_ask S L [.ref 0, .int p] P :=
  ask_c hI.2.2.2.1 (fun S' hQ hq => h S' L (cI_q hI hQ hq) hq.m)
theorem years_q {seed n w : Int32} (hI : cI (t0, t1, g, c, ro, jo, fr, se, fo, le, it, la) S L) (h : ∀ S' L', cI (t0, t1, g, c, ro, jo, fr, se, fo, le, it, la) S' L' → oM S S' → P (qYears seed n w (t0, t1, g, c, ro, jo, fr, se, fo, le, it, la)) S' L') : zCi mX10_years S L [.ref 0, .int seed, .int n, .int w] P :=
  years_c hI.2.2.2.1 (fun S' hQ hq => h S' L (cI_q hI hQ hq) hq.m)
theorem fault_q {t : Int32} (hI : cI (t0, t1, g, c, ro, jo, fr, se, fo, le, it, la) S L) (h : ∀ S' L', cI (t0, t1, g, c, ro, jo, fr, se, fo, le, it, la) S' L' → oM S S' → P (qFault t (t0, t1, g, c, ro, jo, fr, se, fo, le, it, la)) S' L') : zCi mX10_fault S L [.ref 0, .int t] P := by
  simp only [qFault] at h
  obtain ⟨l0, l1, b0, b1⟩ := hI.1
  refine e_X10_fault (fun X => b_X10_fault_0 ⟨fun q1 => ⟨fun z => ?_, fun z => ?_⟩, fun q1 => ?_⟩)
  · rw [if_pos q1, if_pos z] at h; exact fault1_s l0 b0 hI.2.1 (h S L hI oM.rf)
  · rw [if_pos q1, if_neg z] at h; exact fault3_s l1 b1 hI.2.2.1 (h S L hI oM.rf)
  · rw [if_neg q1] at h; exact h S L hI oM.rf
theorem person_q {p w : Int32} (hI : cI (t0, t1, g, c, ro, jo, fr, se, fo, le, it, la) S L) (h : ∀ S' L', cI (t0, t1, g, c, ro, jo, fr, se, fo, le, it, la) S' L' → oM S S' → P (qPerson p w (t0, t1, g, c, ro, jo, fr, se, fo, le, it, la)) S' L') : zCi mX10_person S L [.ref 0, .int p, .int w] P := by
  simp only [qPerson] at h
  have hQ := hI.2.2.2.1
  have hl := hQ.len
  refine e_X10_person (fun X => b_X10_person_0 ?_)
  rw [hQ.1.1.1]
  refine ⟨fun q1 => ⟨fun q2 => ?_, fun z => ?_⟩, fun z => ?_⟩
  · rw [if_pos ⟨q1, q2⟩] at h
    obtain ⟨p, hp, rfl⟩ := rng_ix (by omega) q1
    rw [cl_nI (by omega)] at h
    exact rows_cell zTo5.2.1 hQ.1.1 ⟨by omega, by omega⟩ (getD_at hp) (h S L hI oM.rf)
  · rw [if_neg (fun y => z y.2)] at h; exact h S L hI oM.rf
  · rw [if_neg (fun y => z y.1)] at h; exact h S L hI oM.rf
theorem deed_q {d w : Int32} (hI : cI (t0, t1, g, c, ro, jo, fr, se, fo, le, it, la) S L) (h : ∀ S' L', cI (t0, t1, g, c, ro, jo, fr, se, fo, le, it, la) S' L' → oM S S' → P (qDeed d w (t0, t1, g, c, ro, jo, fr, se, fo, le, it, la)) S' L') : zCi mX10_deed S L [.ref 0, .int d, .int w] P := by
  simp only [qDeed] at h
  have hQ := hI.2.2.2.1
  have hl := hQ.len
  refine e_X10_deed (fun X => b_X10_deed_0 ?_)
  rw [hQ.1.2.1.1]
  refine ⟨fun q1 => ⟨fun q2 => ?_, fun z => ?_⟩, fun z => ?_⟩
  · rw [if_pos ⟨q1, q2⟩] at h
    obtain ⟨p, hp, rfl⟩ := rng_ix (by omega) q1
    rw [cl_nI (by omega)] at h
    exact rows_cell zTo5.2.2.1 hQ.1.2.1 ⟨by omega, by omega⟩ (getD_at hp) (h S L hI oM.rf)
  · rw [if_neg (fun y => z y.2)] at h; exact h S L hI oM.rf
  · rw [if_neg (fun y => z y.1)] at h; exact h S L hI oM.rf
theorem count_q {w : Int32} (hI : cI (t0, t1, g, c, ro, jo, fr, se, fo, le, it, la) S L) (h : ∀ S' L', cI (t0, t1, g, c, ro, jo, fr, se, fo, le, it, la) S' L' → oM S S' → P (qCount w (t0, t1, g, c, ro, jo, fr, se, fo, le, it, la)) S' L') : zCi mX10_count S L [.ref 0, .int w] P := by
  simp only [qCount] at h
  have hQ := hI.2.2.2.1
  have hl := hQ.len
  have d : ∀ {x : Int32} {a : Int32} {b : Int32}, x = a → ¬ a = b → ¬ x = b := fun h1 h2 h3 => h2 (h1.symm.trans h3)
  refine e_X10_count (fun X => b_X10_count_0 ?_)
  rw [hQ.1.1.1, hQ.1.2.1.1, hI.2.1.1, hI.2.2.1.1, hQ.1.2.2.1.1, hQ.1.2.2.2.1.1, hQ.1.2.2.2.2.1.1, hQ.2.2.1.1, hI.2.2.2.2.1.2.2]
  refine ⟨fun z => ?_, fun z => ?_, fun z => ?_, fun z => ?_, fun z => ?_, fun z => ?_, fun z => ?_, fun z => ?_, fun z => ?_, fun z0 z1 z2 z3 z4 z5 z6 z7 z8 => ?_⟩
  · rw [if_pos z] at h; exact h S L hI oM.rf
  · rw [if_neg (d z (by decide)), if_pos z] at h; exact h S L hI oM.rf
  · rw [if_neg (d z (by decide)), if_neg (d z (by decide)), if_pos z] at h; exact h S L hI oM.rf
  · rw [if_neg (d z (by decide)), if_neg (d z (by decide)), if_neg (d z (by decide)), if_pos z] at h; exact h S L hI oM.rf
  · rw [if_neg (d z (by decide)), if_neg (d z (by decide)), if_neg (d z (by decide)), if_neg (d z (by decide)), if_pos z] at h; exact h S L hI oM.rf
  · rw [if_neg (d z (by decide)), if_neg (d z (by decide)), if_neg (d z (by decide)), if_neg (d z (by decide)), if_neg (d z (by decide)), if_pos z] at h; exact h S L hI oM.rf
  · rw [if_neg (d z (by decide)), if_neg (d z (by decide)), if_neg (d z (by decide)), if_neg (d z (by decide)), if_neg (d z (by decide)), if_neg (d z (by decide)), if_pos z] at h
    refine settle_s hQ (fun S1 hQ1 hR hq => living_s zCo1 hl.1 hQ1.1.1.1 ?_)
    rw [hR.1]; exact h S1 L (cI_q hI hQ1 hq) hq.m
  · rw [if_neg (d z (by decide)), if_neg (d z (by decide)), if_neg (d z (by decide)), if_neg (d z (by decide)), if_neg (d z (by decide)), if_neg (d z (by decide)), if_neg (d z (by decide)), if_pos z] at h; exact h S L hI oM.rf
  · rw [if_neg (d z (by decide)), if_neg (d z (by decide)), if_neg (d z (by decide)), if_neg (d z (by decide)), if_neg (d z (by decide)), if_neg (d z (by decide)), if_neg (d z (by decide)), if_neg (d z (by decide)), if_pos z] at h; exact h S L hI oM.rf
  · rw [if_neg z0, if_neg z1, if_neg z2, if_neg z3, if_neg z4, if_neg z5, if_neg z6, if_neg z7, if_neg z8] at h; exact h S L hI oM.rf
theorem sWr_step {s k : Nat} {f : Int32} {W : Nat → Int32} (hs : s < 4) : upd (sWr it s f W k) (60 * s + k) (sNr f (W k)) = sWr it s f W (k + 1) := by
  funext i
  simp only [upd, sWr]
  by_cases h1 : i = 60 * s + k
  · subst h1
    rw [if_pos rfl, if_pos (by omega), show 60 * s + k - 60 * s = k by omega]
  · rw [if_neg h1]
    by_cases h2 : 60 * s ≤ i ∧ i < 60 * s + k
    · rw [if_pos h2, if_pos (by omega)]
    · rw [if_neg h2, if_neg (by omega)]
theorem sWr_0 {s : Nat} {f : Int32} {W : Nat → Int32} : sWr it s f W 0 = it := by
  funext i; simp only [sWr]; rw [if_neg (by omega)]
theorem write_l {pe de : List T3} {X : Nat × (Nat → Int32)} {S0 : zS} {s p many : Nat} (hs : s < 4) (hp : p < 8) (hR : cRun S0 26 pe de ro jo fr g c 24) (hw : wSh fo le) (hf : ¬ fo s = -1) (hm : many ≤ 24) (hm2 : many ≤ (le s).toNatClampNeg) (h : ∀ S', zSh fo le (sWr it s (fo s) (fun m => (pCf pe de ro jo fr g c (m + 1)).1 p) many) la S' → zOut 71 71 S0 S' → P (nI many) S' L) : ∀ (d k : Nat) (S : zS), k + d = many → zSh fo le (sWr it s (fo s) (fun m => (pCf pe de ro jo fr g c (m + 1)).1 p) k) la S → zOut 71 71 S0 S → zU mX10_write X S L 59 [some (.ref 0), some (.int (nI p)), some (.int (nI s)), some (.int (nI many)), some (.int (nI k))] [] (zpi P) := by
  intro d
  induction d with
  | zero =>
    intro k S hd hS o
    have : k = many := by omega
    subst this
    exact b_X10_write_59 ⟨fun _ => h S hS o, fun z => absurd (nI_le (Nat.le_refl _) (by omega)) z⟩
  | succ d ih =>
    intro k S hd hS o
    refine b_X10_write_59 ⟨fun z => absurd z (nI_ge (by omega) (by omega)), fun _ => ?_⟩
    rw [of0]
    refine behind_s zCo1 (hR.keep (o _ (by omega)) (o _ (by omega)) (o _ (by omega))) (Nat.le_refl _) (by omega) (by omega) ?_
    obtain ⟨a, ha, hae⟩ := (hw s hs).2
    rw [hae, cl_nI (by omega)] at hm2
    have hh : sHo fo le s (nI k) 1 := by
      refine ⟨nI_pos (by omega), by decide, ?_⟩
      unfold sLn
      obtain ⟨b, hb⟩ : ∃ b, a = b + 1 := ⟨a - 1, by omega⟩
      rw [if_neg hf, hae, hb, nI_pred]
      exact nI_nlt (by omega) (by omega)
    refine store_s hS hw hs hh (fun S' hS' o' x1 ex1 => ?_)
    rw [ex1, nI_1]
    rw [cl_nI (by omega), sWr_step hs] at hS'
    exact ih (k + 1) S' (by omega) hS' (o.trans o')
theorem write_c {p s : Int32} (hI : cI (t0, t1, g, c, ro, jo, fr, se, fo, le, it, la) S L) (h : ∀ S' L', cI (uWrite p s (t0, t1, g, c, ro, jo, fr, se, fo, le, it, la)).2 S' L' → oM S S' → P (uWrite p s (t0, t1, g, c, ro, jo, fr, se, fo, le, it, la)).1 S' L') : zCi mX10_write S L [.ref 0, .int p, .int s] P := by
  simp only [uWrite, uFnd] at h
  have hQ := hI.2.2.2.1
  have hl := hQ.len
  refine e_X10_write (fun X => b_X10_write_0 ?_)
  rw [hQ.1.1.1]
  refine ⟨fun q1 => ⟨fun q2 => ?_, fun z => ?_⟩, fun z => ?_⟩
  · rw [if_pos ⟨q1, q2⟩] at h
    obtain ⟨p, hp, rfl⟩ := rng_ix (by omega) q1
    obtain ⟨s, hs, rfl⟩ := rng_lit (n := 3) rfl (by omega) q2
    rw [cl_nI (n := p) (by omega), cl_nI (n := s) (by omega)] at h
    refine isLost_s hI.2.2.2.2.1 (by omega) ⟨fun z => ?_, fun z => ?_⟩
    · have hf := if01 z
      rw [if_neg hf] at h
      refine settle_s hQ (fun S1 hQ1 hR hq => ?_)
      have hI1 := cI_q hI hQ1 hq
      refine length_s hI1.2.2.2.2.1 (by omega) (fun x1 ex1 => ?_)
      obtain ⟨a, ha, hae⟩ := (hI.2.2.2.2.2 s (by omega)).2
      rw [hae, cl_nI (by omega)] at h
      have hx : x1 = nI (min a 24) := by
        rw [ex1]; unfold sLn; rw [if_neg hf, hae]
        by_cases h24 : 24 < a
        · rw [if_pos (show (24 : Int32) < nI a from nI_lt (a := 24) h24 (by omega)), Nat.min_eq_right (by omega)]; rfl
        · rw [if_neg (show ¬ (24 : Int32) < nI a from nI_nlt (a := 24) (by omega) (by omega)), Nat.min_eq_left (by omega)]
      rw [hx]
      refine write_l (S0 := S1) (by omega) (by omega) hR hI.2.2.2.2.2 hf (Nat.min_le_right _ _) (by rw [hae, cl_nI (by omega)]; exact Nat.min_le_left _ _) (fun S' hS' o => h S' L (cI_sh hI1 (o.mono (by omega) (by omega)) hS' hI.2.2.2.2.2) (hq.m.trans (fun j hj => o j (by omega)))) (min a 24) 0 S1 (by omega) ?_ zOut.rf
      rw [sWr_0]; exact hI1.2.2.2.2.1
    · rw [if_pos (if11 z)] at h; exact fnd_c hI h
  · rw [if_neg (fun y => z y.2)] at h; exact h S L hI oM.rf
  · rw [if_neg (fun y => z y.1)] at h; exact h S L hI oM.rf
end QL
section RDL
variable {t0 t1 : List Int32} {g c : Int32} {jo fr se : List T3} {fo le it : pF} {la : Int32} {L0 : zL} {P : Int32 → zS → zL → Prop}
theorem uRound_ex {ro : List T3} {m q p : Int32} : ∃ ro', (uRound m q p (t0, t1, g, c, ro, jo, fr, se, fo, le, it, la)).2 = (t0, t1, g, c, ro', jo, fr, se, fo, le, it, la) := by
  simp only [uRound]
  split
  · split
    · exact ⟨_, rfl⟩
    · exact ⟨_, rfl⟩
  · exact ⟨_, rfl⟩
theorem read_l {X : Nat × (Nat → Int32)} {S0 : zS} {s a : Nat} (hs : s < 4) (hf : ¬ fo s = -1) (ha : a ≤ 60) (hae : le s = nI a) : ∀ (k n : Nat) (ro : List T3) (S : zS) (L : zL), n + k = 20 → cI (t0, t1, g, c, ro, jo, fr, se, fo, le, it, la) S L → oM S0 S → (∀ S' L', cI (uRdL it (60 * s) a k n (t0, t1, g, c, ro, jo, fr, se, fo, le, it, la)).2 S' L' → oM S0 S' → P (uRdL it (60 * s) a k n (t0, t1, g, c, ro, jo, fr, se, fo, le, it, la)).1 S' L') → zU mX10_read X S L 34 [some (.ref 0), some (.int (nI s)), some (.int (nI n)), some (.int (nI (3 * n)))] [] (zpi P) := by
  have hln : sLn fo le s = nI a := by unfold sLn; rw [if_neg hf, hae]
  have e2 : ∀ i, nI i + (2 : Int32) = nI (i + 2) := fun i => by rw [show (2 : Int32) = nI 2 by decide, nI_add]
  have e3 : ∀ i, nI i + (3 : Int32) = nI (i + 3) := fun i => by rw [show (3 : Int32) = nI 3 by decide, nI_add]
  intro k
  induction k with
  | zero =>
    intro n ro S L hk hI o h
    refine b_X10_read_34 (length_s hI.2.2.2.2.1 hs ?_)
    rw [hln, e2]
    rw [uRdL] at h
    exact ⟨fun _ => h S L hI o, fun z => absurd (nI_le (by omega) (by omega)) z⟩
  | succ k ih =>
    intro n ro S L hk hI o h
    refine b_X10_read_34 (length_s hI.2.2.2.2.1 hs ?_)
    rw [hln, e2, nI_1]
    rw [uRdL] at h
    refine ⟨fun z => ?_, fun z => ?_⟩
    · rw [if_neg (fun y => absurd z (nI_ge y (by omega)))] at h
      exact h S L hI o
    · have hlt : 3 * n + 2 < a := by
        rcases Nat.lt_or_ge (3 * n + 2) a with y | y
        · exact y
        · exact absurd (nI_le y (by omega)) z
      rw [if_pos hlt] at h
      have hh : ∀ i, i < a → sHo fo le s (nI i) 1 := by
        intro i hi
        refine ⟨nI_pos (by omega), by decide, ?_⟩
        obtain ⟨b, hb⟩ : ∃ b, a = b + 1 := ⟨a - 1, by omega⟩
        rw [hln, hb, nI_pred]
        exact nI_nlt (by omega) (by omega)
      have itm : ∀ i, i < a → ∀ {Q : Int32 → zS → zL → Prop}, Q (it (60 * s + i)) S L → zCi mX6_item S L [.ref 68, .int (nI s), .int (nI i)] Q := by
        intro i hi Q hQ
        refine item_s hI.2.2.2.2.1 hI.2.2.2.2.2 hs ?_
        rw [if_pos (hh i hi), cl_nI (by omega)]; exact hQ
      refine itm _ (by omega) (itm _ (by omega) (itm _ (by omega) ?_))
      refine round_c hI (fun S1 L1 hI1 o1 => ?_)
      rw [show 60 * s + (3 * n + 1) = 60 * s + 3 * n + 1 by omega, show 60 * s + (3 * n + 2) = 60 * s + 3 * n + 2 by omega] at hI1 ⊢
      obtain ⟨ro', hro⟩ := uRound_ex (t0 := t0) (t1 := t1) (g := g) (c := c) (ro := ro) (jo := jo) (fr := fr) (se := se) (fo := fo) (le := le) (it := it) (la := la) (m := it (60 * s + 3 * n)) (q := it (60 * s + 3 * n + 1)) (p := it (60 * s + 3 * n + 2))
      refine ⟨fun z2 x1 ex1 x2 ex2 => ?_, fun z2 => ?_⟩
      · rw [if_neg (i32_nlt z2), hro] at h
        rw [hro] at hI1
        rw [ex1, nI_1, ex2, e3, show 3 * n + 3 = 3 * (n + 1) by omega]
        exact ih (n + 1) ro' S1 L1 (by omega) hI1 (o.trans o1) h
      · rw [if_pos (i32_lt z2)] at h
        exact h S1 L1 hI1 (o.trans o1)
theorem read_c {ro : List T3} {s : Int32} {S : zS} {L : zL} (hI : cI (t0, t1, g, c, ro, jo, fr, se, fo, le, it, la) S L) (h : ∀ S' L', cI (uRead s (t0, t1, g, c, ro, jo, fr, se, fo, le, it, la)).2 S' L' → oM S S' → P (uRead s (t0, t1, g, c, ro, jo, fr, se, fo, le, it, la)).1 S' L') : zCi mX10_read S L [.ref 0, .int s] P := by
  simp only [uRead, uFnd] at h
  refine e_X10_read (fun X => b_X10_read_0 ⟨fun q1 => ?_, fun z => ?_⟩)
  · rw [if_pos q1] at h
    obtain ⟨s, hs, rfl⟩ := rng_lit (n := 3) rfl (by omega) q1
    rw [cl_nI (n := s) (by omega)] at h
    refine isLost_s hI.2.2.2.2.1 (by omega) ⟨fun z => ?_, fun z => ?_⟩
    · have hf := if01 z
      rw [if_neg hf] at h
      obtain ⟨a, ha, hae⟩ := (hI.2.2.2.2.2 s (by omega)).2
      rw [hae, cl_nI (by omega)] at h
      exact read_l (by omega) hf ha hae 20 0 ro S L (by omega) hI oM.rf h
    · rw [if_pos (if11 z)] at h; exact fnd_c hI h
  · rw [if_neg z] at h; exact h S L hI oM.rf
end RDL
