/-! QUESTIONS OF THE REFERENCE -/
section MQ
variable {t0 t1 : List Int32} {g c : Int32} {ro jo fr se : List T3} {fo le it : pF} {la : Int32} {S : zS} {L : zL} {P : Int32 → zS → zL → Prop}
theorem mK.lp (hK : mK (t0, t1, g, c, ro, jo, fr, se, fo, le, it, la) S) : (tL 0 t0).length ≤ 8 ∧ (tL 3 t1).length ≤ 10 := ⟨(tL_0 hK.1.1).1, (tL_1 hK.1.2.1).1⟩
theorem isPerson_m {p : Int32} (hK : mK (t0, t1, g, c, ro, jo, fr, se, fo, le, it, la) S) (h : ∀ S', mK (t0, t1, g, c, ro, jo, fr, se, fo, le, it, la) S' → mT (tL 0 t0) (tL 3 t1) S' → oC S S' → P (if okN (tL 0 t0).length p then 1 else 0) S' L) : zCi mX11_isPerson S L [.ref 72, .int p] P := by
  refine e_X11_isPerson (fun X => b_X11_isPerson_0 (reads_m hK (fun S1 hK1 hT1 n1 y ey => ?_)))
  rw [hT1.1.2] at ey
  rw [ey]
  exact ⟨nar_if, h S1 hK1 hT1 n1.c⟩
theorem isDeed_m {p : Int32} (hK : mK (t0, t1, g, c, ro, jo, fr, se, fo, le, it, la) S) (h : ∀ S', mK (t0, t1, g, c, ro, jo, fr, se, fo, le, it, la) S' → mT (tL 0 t0) (tL 3 t1) S' → oC S S' → P (if okN (tL 3 t1).length p then 1 else 0) S' L) : zCi mX11_isDeed S L [.ref 72, .int p] P := by
  refine e_X11_isDeed (fun X => b_X11_isDeed_0 (reads_m hK (fun S1 hK1 hT1 n1 y ey => ?_)))
  rw [hT1.2.2] at ey
  rw [ey]
  exact ⟨nar_if, h S1 hK1 hT1 n1.c⟩
theorem fault_m {t : Int32} (hK : mK (t0, t1, g, c, ro, jo, fr, se, fo, le, it, la) S) (h : ∀ S', mK (t0, t1, g, c, ro, jo, fr, se, fo, le, it, la) S' → oC S S' → P (qFault t (t0, t1, g, c, ro, jo, fr, se, fo, le, it, la)) S' L) : zCi mX11_fault S L [.ref 72, .int t] P := by
  simp only [qFault] at h
  refine e_X11_fault (fun X => b_X11_fault_0 ⟨fun q => ?_, fun q => ?_⟩)
  · rw [if_pos q] at h
    exact faultOf_m hK (fun S1 hK1 _ n1 => h S1 hK1 n1.c)
  · rw [if_neg q] at h; exact h S hK oC.rf
theorem cellOf_m {l : List T3} {i : Nat} {w a b d : Int32} (hi : l[i]? = some (l.getD i (0, 0, 0))) (ha : a = (l.getD i (0, 0, 0)).1) (hb : b = (l.getD i (0, 0, 0)).2.1) (hd : d = (l.getD i (0, 0, 0)).2.2) (h : P (t3c (l.getD i (0, 0, 0)) w) S L) : (w = 0 → P a S L) ∧ (¬ w = 0 → w = 1 → P b S L) ∧ (¬ w = 0 → ¬ w = 1 → P d S L) := by
  unfold t3c at h
  rw [ha, hb, hd]
  refine ⟨fun z => ?_, fun z z1 => ?_, fun z z1 => ?_⟩
  · rw [if_pos z] at h; exact h
  · rw [if_neg z, if_pos z1] at h; exact h
  · rw [if_neg z, if_neg z1] at h; exact h
theorem personOf_m {p : Nat} {w : Int32} {pe de : List T3} (hT : mT pe de S) (hp : p < pe.length) (hl : pe.length ≤ 8) (h : P (t3c (pe.getD p (0, 0, 0)) w) S L) : zCi mX11_personOf S L [.ref 72, .int (nI p), .int w] P := by
  obtain ⟨a1, a2, a3⟩ := hT.1.1 p _ (getD_at hp)
  obtain ⟨k0, k1, k2⟩ := cellOf_m (L := L) (P := P) (getD_at hp) a1 a2 a3 h
  refine e_X11_personOf (fun X => b_X11_personOf_0 ?_)
  rw [cl_nI (by omega)]
  exact ⟨fun z => ⟨fun z1 => ⟨vp_in_nI (by omega) (by omega), k2 z z1⟩, fun z1 => ⟨vp_in_nI (by omega) (by omega), k1 z z1⟩⟩, fun z => ⟨vp_in_nI (by omega) (by omega), k0 z⟩⟩
theorem deedOf_m {p : Nat} {w : Int32} {pe de : List T3} (hT : mT pe de S) (hp : p < de.length) (hl : de.length ≤ 10) (h : P (t3c (de.getD p (0, 0, 0)) w) S L) : zCi mX11_deedOf S L [.ref 72, .int (nI p), .int w] P := by
  obtain ⟨a1, a2, a3⟩ := hT.2.1 p _ (getD_at hp)
  obtain ⟨k0, k1, k2⟩ := cellOf_m (L := L) (P := P) (getD_at hp) a1 a2 a3 h
  refine e_X11_deedOf (fun X => b_X11_deedOf_0 ?_)
  rw [cl_nI (by omega)]
  exact ⟨fun z => ⟨fun z1 => ⟨vp_in_nI (by omega) (by omega), k2 z z1⟩, fun z1 => ⟨vp_in_nI (by omega) (by omega), k1 z z1⟩⟩, fun z => ⟨vp_in_nI (by omega) (by omega), k0 z⟩⟩
theorem person_m {p w : Int32} (hK : mK (t0, t1, g, c, ro, jo, fr, se, fo, le, it, la) S) (h : ∀ S', mK (t0, t1, g, c, ro, jo, fr, se, fo, le, it, la) S' → oC S S' → P (qPerson p w (t0, t1, g, c, ro, jo, fr, se, fo, le, it, la)) S' L) : zCi mX11_person S L [.ref 72, .int p, .int w] P := by
  simp only [qPerson] at h
  have hl := hK.lp
  refine e_X11_person (fun X => b_X11_person_0 (isPerson_m hK (fun S1 hK1 hT1 o1 => ⟨fun z => ?_, fun z => ⟨fun q2 => ?_, fun q2 => ?_⟩⟩)))
  · rw [if_neg (fun y => if01 z y.1)] at h; exact h S1 hK1 o1
  · rw [if_pos ⟨if11 z, q2⟩] at h
    obtain ⟨p, hp, rfl⟩ := rng_ix (by omega) (if11 z)
    rw [cl_nI (by omega)] at h
    exact personOf_m hT1 hp hl.1 (h S1 hK1 o1)
  · rw [if_neg (fun y => q2 y.2)] at h; exact h S1 hK1 o1
theorem deed_m {p w : Int32} (hK : mK (t0, t1, g, c, ro, jo, fr, se, fo, le, it, la) S) (h : ∀ S', mK (t0, t1, g, c, ro, jo, fr, se, fo, le, it, la) S' → oC S S' → P (qDeed p w (t0, t1, g, c, ro, jo, fr, se, fo, le, it, la)) S' L) : zCi mX11_deed S L [.ref 72, .int p, .int w] P := by
  simp only [qDeed] at h
  have hl := hK.lp
  refine e_X11_deed (fun X => b_X11_deed_0 (isDeed_m hK (fun S1 hK1 hT1 o1 => ⟨fun z => ?_, fun z => ⟨fun q2 => ?_, fun q2 => ?_⟩⟩)))
  · rw [if_neg (fun y => if01 z y.1)] at h; exact h S1 hK1 o1
  · rw [if_pos ⟨if11 z, q2⟩] at h
    obtain ⟨p, hp, rfl⟩ := rng_ix (by omega) (if11 z)
    rw [cl_nI (by omega)] at h
    exact deedOf_m hT1 hp hl.2 (h S1 hK1 o1)
  · rw [if_neg (fun y => q2 y.2)] at h; exact h S1 hK1 o1
theorem woolOf_m {m p : Nat} {w : Int32} (hK : mK (t0, t1, g, c, ro, jo, fr, se, fo, le, it, la) S) (hm : m < 24) (hp : p < (tL 0 t0).length) (h : ∀ S', mK (t0, t1, g, c, ro, jo, fr, se, fo, le, it, la) S' → mT (tL 0 t0) (tL 3 t1) S' → oC S S' → P ((pCf (tL 0 t0) (tL 3 t1) ro jo fr g c (m + 1)).1 ((if w = 0 then 0 else if w = 1 then 8 else 16) + p)) S' L) : zCi mX11_woolOf S L [.ref 72, .int (nI m), .int (nI p), .int w] P := by
  have hl := hK.lp
  refine e_X11_woolOf (fun X => b_X11_woolOf_0 (runsTold_m hK (fun S1 hK1 hT1 n1 hZ hR => ?_)))
  obtain ⟨a1, a2, a3⟩ := (hR m hm).1 p hp
  rw [e8, cl_nI (by omega), a1, a2, a3]
  have hv : vp_in (nI (8 * m + p)) 192 := vp_in_nI (by omega) (by omega)
  have := h S1 hK1 hT1 n1.c
  refine ⟨fun z => ⟨fun z1 => ⟨hv, ?_⟩, fun z1 => ⟨hv, ?_⟩⟩, fun z => ⟨hv, ?_⟩⟩
  · rw [if_neg z, if_neg z1] at this; exact this
  · rw [if_neg z, if_pos z1] at this; exact this
  · rw [if_pos z, Nat.zero_add] at this; exact this
theorem wool_m {m p w : Int32} (hK : mK (t0, t1, g, c, ro, jo, fr, se, fo, le, it, la) S) (h : ∀ S', mK (t0, t1, g, c, ro, jo, fr, se, fo, le, it, la) S' → oC S S' → P (qWool m p w (t0, t1, g, c, ro, jo, fr, se, fo, le, it, la)) S' L) : zCi mX11_wool S L [.ref 72, .int m, .int p, .int w] P := by
  simp only [qWool, aWool] at h
  have hl := hK.lp
  refine e_X11_wool (fun X => b_X11_wool_0 ⟨fun q1 => isPerson_m hK (fun S1 hK1 hT1 o1 => ⟨fun z => ?_, fun z => ⟨fun q2 => ?_, fun q2 => ?_⟩⟩), fun q1 => ?_⟩)
  · rw [if_neg (fun y => if01 z y.2.1)] at h; exact h S1 hK1 o1
  · rw [if_pos ⟨q1, if11 z, q2⟩] at h
    obtain ⟨m, hm, rfl⟩ := rng_lit (n := 23) rfl (by omega) q1
    obtain ⟨p, hp, rfl⟩ := rng_ix (by omega) (if11 z)
    rw [cl_nI (by omega), cl_nI (by omega)] at h
    exact woolOf_m hK1 (by omega) hp (fun S2 hK2 _ o2 => h S2 hK2 (o1.trans o2))
  · rw [if_neg (fun y => q2 y.2.2)] at h; exact h S1 hK1 o1
  · rw [if_neg (fun y => q1 y.1)] at h; exact h S hK oC.rf
theorem diesOf_m {p : Nat} (hK : mK (t0, t1, g, c, ro, jo, fr, se, fo, le, it, la) S) (hp : p < (tL 0 t0).length) (h : ∀ S', mK (t0, t1, g, c, ro, jo, fr, se, fo, le, it, la) S' → mT (tL 0 t0) (tL 3 t1) S' → oC S S' → P ((pCf (tL 0 t0) (tL 3 t1) ro jo fr g c 24).2.1 p) S' L) : zCi mX11_diesOf S L [.ref 72, .int (nI p)] P := by
  have hl := hK.lp
  refine e_X11_diesOf (fun X => b_X11_diesOf_0 (runsTold_m hK (fun S1 hK1 hT1 n1 hZ hR => ?_)))
  rw [cl_nI (by omega), (hZ.1 p hp).2.2.2.2]
  exact ⟨vp_in_nI (by omega) (by omega), h S1 hK1 hT1 n1.c⟩
theorem dies_m {p : Int32} (hK : mK (t0, t1, g, c, ro, jo, fr, se, fo, le, it, la) S) (h : ∀ S', mK (t0, t1, g, c, ro, jo, fr, se, fo, le, it, la) S' → oC S S' → P (qDies p (t0, t1, g, c, ro, jo, fr, se, fo, le, it, la)) S' L) : zCi mX11_dies S L [.ref 72, .int p] P := by
  simp only [qDies, aDies] at h
  have hl := hK.lp
  refine e_X11_dies (fun X => b_X11_dies_0 (isPerson_m hK (fun S1 hK1 hT1 o1 => ⟨fun z => ?_, fun z => ?_⟩)))
  · rw [if_neg (if01 z)] at h; exact h S1 hK1 o1
  · rw [if_pos (if11 z)] at h
    obtain ⟨p, hp, rfl⟩ := rng_ix (by omega) (if11 z)
    rw [cl_nI (by omega)] at h
    exact diesOf_m hK1 hp (fun S2 hK2 _ o2 => h S2 hK2 (o1.trans o2))
theorem clothOf_m {m q : Nat} {w : Int32} (hK : mK (t0, t1, g, c, ro, jo, fr, se, fo, le, it, la) S) (hm : m < 24) (hq : q < 4) (h : ∀ S', mK (t0, t1, g, c, ro, jo, fr, se, fo, le, it, la) S' → mT (tL 0 t0) (tL 3 t1) S' → oC S S' → P ((pCf (tL 0 t0) (tL 3 t1) ro jo fr g c (m + 1)).1 ((if w = 0 then 24 else 28) + q)) S' L) : zCi mX11_clothOf S L [.ref 72, .int (nI m), .int (nI q), .int w] P := by
  refine e_X11_clothOf (fun X => b_X11_clothOf_0 (runsTold_m hK (fun S1 hK1 hT1 n1 hZ hR => ?_)))
  obtain ⟨a1, a2⟩ := (hR m hm).2.1 q hq
  rw [e4, cl_nI (by omega), a1, a2]
  have hv : vp_in (nI (4 * m + q)) 96 := vp_in_nI (by omega) (by omega)
  have := h S1 hK1 hT1 n1.c
  refine ⟨fun z => ⟨hv, ?_⟩, fun z => ⟨hv, ?_⟩⟩
  · rw [if_neg z] at this; exact this
  · rw [if_pos z] at this; exact this
theorem cloth_m {m q w : Int32} (hK : mK (t0, t1, g, c, ro, jo, fr, se, fo, le, it, la) S) (h : ∀ S', mK (t0, t1, g, c, ro, jo, fr, se, fo, le, it, la) S' → oC S S' → P (qCloth m q w (t0, t1, g, c, ro, jo, fr, se, fo, le, it, la)) S' L) : zCi mX11_cloth S L [.ref 72, .int m, .int q, .int w] P := by
  simp only [qCloth, aCloth] at h
  refine e_X11_cloth (fun X => b_X11_cloth_0 ⟨fun q1 => ⟨fun q2 => ⟨fun q3 => ?_, fun z => ?_⟩, fun z => ?_⟩, fun z => ?_⟩)
  · rw [if_pos ⟨q1, q2, q3⟩] at h
    obtain ⟨m, hm, rfl⟩ := rng_lit (n := 23) rfl (by omega) q1
    obtain ⟨q, hq, rfl⟩ := rng_lit (n := 3) rfl (by omega) q2
    rw [cl_nI (by omega), cl_nI (by omega)] at h
    exact clothOf_m hK (by omega) (by omega) (fun S2 hK2 _ o2 => h S2 hK2 o2)
  · rw [if_neg (fun y => z y.2.2)] at h; exact h S hK oC.rf
  · rw [if_neg (fun y => z y.2.1)] at h; exact h S hK oC.rf
  · rw [if_neg (fun y => z y.1)] at h; exact h S hK oC.rf
theorem thornOf_m {m : Nat} (hK : mK (t0, t1, g, c, ro, jo, fr, se, fo, le, it, la) S) (hm : m < 24) (h : ∀ S', mK (t0, t1, g, c, ro, jo, fr, se, fo, le, it, la) S' → mT (tL 0 t0) (tL 3 t1) S' → oC S S' → P ((pCf (tL 0 t0) (tL 3 t1) ro jo fr g c (m + 1)).1 32) S' L) : zCi mX11_thornOf S L [.ref 72, .int (nI m)] P := by
  refine e_X11_thornOf (fun X => b_X11_thornOf_0 (runsTold_m hK (fun S1 hK1 hT1 n1 hZ hR => ?_)))
  rw [cl_nI (by omega), (hR m hm).2.2.1]
  exact ⟨vp_in_nI hm (by omega), h S1 hK1 hT1 n1.c⟩
theorem thorn_m {m : Int32} (hK : mK (t0, t1, g, c, ro, jo, fr, se, fo, le, it, la) S) (h : ∀ S', mK (t0, t1, g, c, ro, jo, fr, se, fo, le, it, la) S' → oC S S' → P (qThorn m (t0, t1, g, c, ro, jo, fr, se, fo, le, it, la)) S' L) : zCi mX11_thorn S L [.ref 72, .int m] P := by
  simp only [qThorn, aThorn] at h
  refine e_X11_thorn (fun X => b_X11_thorn_0 ⟨fun q1 => ?_, fun z => ?_⟩)
  · rw [if_pos q1] at h
    obtain ⟨m, hm, rfl⟩ := rng_lit (n := 23) rfl (by omega) q1
    rw [cl_nI (by omega)] at h
    exact thornOf_m hK (by omega) (fun S2 hK2 _ o2 => h S2 hK2 o2)
  · rw [if_neg z] at h; exact h S hK oC.rf
theorem taxOf_m {w : Nat} (hK : mK (t0, t1, g, c, ro, jo, fr, se, fo, le, it, la) S) (hw : w < 2) (h : ∀ S', mK (t0, t1, g, c, ro, jo, fr, se, fo, le, it, la) S' → mT (tL 0 t0) (tL 3 t1) S' → oC S S' → P (if nI w = 0 then pTx (tL 0 t0).length (pCf (tL 0 t0) (tL 3 t1) ro jo fr g c 12) else pTx (tL 0 t0).length (pCf (tL 0 t0) (tL 3 t1) ro jo fr g c 24)) S' L) : zCi mX11_taxOf S L [.ref 72, .int (nI w)] P := by
  refine e_X11_taxOf (fun X => b_X11_taxOf_0 (runsTold_m hK (fun S1 hK1 hT1 n1 hZ hR => ?_)))
  rw [cl_nI (by omega)]
  refine ⟨vp_in_nI hw (by omega), ?_⟩
  have := h S1 hK1 hT1 n1.c
  have hw2 : w = 0 ∨ w = 1 := by omega
  rcases hw2 with rfl | rfl
  · rw [if_pos (by decide)] at this
    rw [(hR 11 (by omega)).2.2.2.2.1 rfl]; exact this
  · rw [if_neg (by decide)] at this
    rw [(hR 23 (by omega)).2.2.2.2.2 rfl]; exact this
theorem tax_m {w : Int32} (hK : mK (t0, t1, g, c, ro, jo, fr, se, fo, le, it, la) S) (h : ∀ S', mK (t0, t1, g, c, ro, jo, fr, se, fo, le, it, la) S' → oC S S' → P (qTax w (t0, t1, g, c, ro, jo, fr, se, fo, le, it, la)) S' L) : zCi mX11_tax S L [.ref 72, .int w] P := by
  simp only [qTax, aTax] at h
  refine e_X11_tax (fun X => b_X11_tax_0 ⟨fun q1 => ?_, fun z => ?_⟩)
  · rw [if_pos q1] at h
    obtain ⟨w, hw, rfl⟩ := rng_lit (n := 1) rfl (by omega) q1
    exact taxOf_m hK (by omega) (fun S2 hK2 _ o2 => h S2 hK2 o2)
  · rw [if_neg z] at h; exact h S hK oC.rf
theorem heaviestOf_m {m : Nat} (hK : mK (t0, t1, g, c, ro, jo, fr, se, fo, le, it, la) S) (hm : m < 24) (h : ∀ S', mK (t0, t1, g, c, ro, jo, fr, se, fo, le, it, la) S' → mT (tL 0 t0) (tL 3 t1) S' → oC S S' → P (pHv (tL 0 t0).length (pCf (tL 0 t0) (tL 3 t1) ro jo fr g c (m + 1))) S' L) : zCi mX11_heaviestOf S L [.ref 72, .int (nI m)] P := by
  refine e_X11_heaviestOf (fun X => b_X11_heaviestOf_0 (runsTold_m hK (fun S1 hK1 hT1 n1 hZ hR => ?_)))
  rw [cl_nI (by omega), (hR m hm).2.2.2.1]
  exact ⟨vp_in_nI hm (by omega), h S1 hK1 hT1 n1.c⟩
theorem heaviest_m {m : Int32} (hK : mK (t0, t1, g, c, ro, jo, fr, se, fo, le, it, la) S) (h : ∀ S', mK (t0, t1, g, c, ro, jo, fr, se, fo, le, it, la) S' → oC S S' → P (qHeavy m (t0, t1, g, c, ro, jo, fr, se, fo, le, it, la)) S' L) : zCi mX11_heaviest S L [.ref 72, .int m] P := by
  simp only [qHeavy, aHeavy] at h
  refine e_X11_heaviest (fun X => b_X11_heaviest_0 ⟨fun q1 => ?_, fun z => ?_⟩)
  · rw [if_pos q1] at h
    obtain ⟨m, hm, rfl⟩ := rng_lit (n := 23) rfl (by omega) q1
    rw [cl_nI (by omega)] at h
    exact heaviestOf_m hK (by omega) (fun S2 hK2 _ o2 => h S2 hK2 o2)
  · rw [if_neg z] at h; exact h S hK oC.rf
theorem firstOf_m {w : Int32} (hK : mK (t0, t1, g, c, ro, jo, fr, se, fo, le, it, la) S) (h : ∀ S', mK (t0, t1, g, c, ro, jo, fr, se, fo, le, it, la) S' → mT (tL 0 t0) (tL 3 t1) S' → oC S S' → P (if w = 0 then (pCf (tL 0 t0) (tL 3 t1) ro jo fr g c 24).2.2.1 else (pCf (tL 0 t0) (tL 3 t1) ro jo fr g c 24).2.2.2) S' L) : zCi mX11_firstOf S L [.ref 72, .int w] P := by
  refine e_X11_firstOf (fun X => b_X11_firstOf_0 (runsTold_m hK (fun S1 hK1 hT1 n1 hZ hR => ?_)))
  rw [hZ.2.2.2.1, hZ.2.2.2.2]
  have := h S1 hK1 hT1 n1.c
  refine ⟨fun z => ?_, fun z => ?_⟩
  · rw [if_neg z] at this; exact this
  · rw [if_pos z] at this; exact this
theorem first_m {w : Int32} (hK : mK (t0, t1, g, c, ro, jo, fr, se, fo, le, it, la) S) (h : ∀ S', mK (t0, t1, g, c, ro, jo, fr, se, fo, le, it, la) S' → oC S S' → P (qFirst w (t0, t1, g, c, ro, jo, fr, se, fo, le, it, la)) S' L) : zCi mX11_first S L [.ref 72, .int w] P := by
  simp only [qFirst, aFirst] at h
  refine e_X11_first (fun X => b_X11_first_0 ⟨fun q1 => ?_, fun z => ?_⟩)
  · rw [if_pos q1] at h; exact firstOf_m hK (fun S2 hK2 _ o2 => h S2 hK2 o2)
  · rw [if_neg z] at h; exact h S hK oC.rf
theorem livesMany_l {np : Nat} {D : pF} {X : Nat × (Nat → Int32)} (hn : np ≤ 8) (hp : S 72 2 = nI np) (hD : ∀ p, p < np → S 92 p = D p) : ∀ (d i : Nat) (a : Int32), i + d = np → P ((List.range' i d).foldl (pLg1 D) a) S L → zU mX11_livesMany X S L 4 [some (.ref 72), some (.int a), some (.int (nI i))] [] (zpi P) := by
  intro d
  induction d with
  | zero =>
    intro i a hd h
    refine b_X11_livesMany_4 (np := np) ⟨fun _ => h, fun q => absurd ?_ q⟩
    rw [hp]; exact nI_le (by omega) (by omega)
  | succ d ih =>
    intro i a hd h
    rw [List.range'_succ, List.foldl_cons] at h
    have hl := pLv_nI (D := S 92) hn (show i < np by omega)
    rw [hD i (by omega)] at hl
    refine b_X11_livesMany_4 (np := np) ⟨fun q => absurd q ?_, fun _ => ⟨⟨hp, hn⟩, fun z x1 e1 x2 e2 => ?_, fun z x1 e1 x2 e2 => ?_⟩⟩
    · rw [hp]; exact nI_ge (by omega) (by omega)
    · rw [pLg1, if_pos (hl.mp z)] at h
      rw [e2, nI_1, e1]; exact ih (i + 1) _ (by omega) h
    · rw [pLg1, if_neg (fun y => z (hl.mpr y))] at h
      rw [e2, nI_1, e1]; exact ih (i + 1) _ (by omega) h
theorem livesMany_s {np : Nat} {D : pF} (hn : np ≤ 8) (hp : S 72 2 = nI np) (hD : ∀ p, p < np → S 92 p = D p) (h : P (pLg np D) S L) : zCi mX11_livesMany S L [.ref 72] P := by
  refine e_X11_livesMany (fun X => b_X11_livesMany_0 (np := np) (livesMany_l hn hp hD np 0 0 (by omega) ?_))
  rw [← List.range_eq_range']; exact h
theorem sumOf_m {w : Int32} (hK : mK (t0, t1, g, c, ro, jo, fr, se, fo, le, it, la) S) (h : ∀ S', mK (t0, t1, g, c, ro, jo, fr, se, fo, le, it, la) S' → mT (tL 0 t0) (tL 3 t1) S' → oC S S' → P (if w = 0 then nI (tL 0 t0).length else if w = 1 then nI (tL 3 t1).length else pLg (tL 0 t0).length (pCf (tL 0 t0) (tL 3 t1) ro jo fr g c 24).2.1) S' L) : zCi mX11_sumOf S L [.ref 72, .int w] P := by
  have hl := hK.lp
  refine e_X11_sumOf (fun X => b_X11_sumOf_0 (runsTold_m hK (fun S1 hK1 hT1 n1 hZ hR => ?_)))
  have := h S1 hK1 hT1 n1.c
  rw [hT1.1.2, hT1.2.2]
  refine ⟨fun z => ⟨fun z1 => livesMany_s hl.1 hT1.1.2 (fun p hp => (hZ.1 p hp).2.2.2.2) ?_, fun z1 => ?_⟩, fun z => ?_⟩
  · rw [if_neg z, if_neg z1] at this; exact this
  · rw [if_neg z, if_pos z1] at this; exact this
  · rw [if_pos z] at this; exact this
theorem count_m' {w : Int32} (hK : mK (t0, t1, g, c, ro, jo, fr, se, fo, le, it, la) S) (h : ∀ S', mK (t0, t1, g, c, ro, jo, fr, se, fo, le, it, la) S' → (w = 6 → mT (tL 0 t0) (tL 3 t1) S') → (∀ {pe de : List T3}, mT pe de S → pe = tL 0 t0 → de = tL 3 t1 → mT pe de S') → oC S S' → P (qCount w (t0, t1, g, c, ro, jo, fr, se, fo, le, it, la)) S' L) : zCi mX11_count S L [.ref 72, .int w] P := by
  simp only [qCount] at h
  obtain ⟨-, -, -, ⟨x0, x1⟩, -, h8, h9, h10, h11, h12⟩ := id hK
  have d : ∀ {x : Int32} {a : Int32} {b : Int32}, x = a → ¬ a = b → ¬ x = b := fun h1 h2 h3 => h2 (h1.symm.trans h3)
  refine e_X11_count (fun X => b_X11_count_0 ?_)
  rw [h8.2, h9.2, h10.2, h11.2, h12.2.2]
  refine ⟨fun z => sumOf_m hK (fun S1 hK1 hT1 o1 => ?_), fun z => sumOf_m hK (fun S1 hK1 hT1 o1 => ?_), fun z => ?_, fun z => ?_, fun z => ?_, fun z => ?_, fun z => sumOf_m hK (fun S1 hK1 hT1 o1 => ?_), fun z => ?_, fun z => ?_, fun z0 z1 z2 z3 z4 z5 z6 z7 z8 => ?_⟩
  · rw [if_pos z] at h ⊢; exact h S1 hK1 (fun _ => hT1) (fun _ a b => by rw [a, b]; exact hT1) o1
  · rw [if_neg (d z (by decide)), if_pos z] at h ⊢; exact h S1 hK1 (fun _ => hT1) (fun _ a b => by rw [a, b]; exact hT1) o1
  · rw [if_neg (d z (by decide)), if_neg (d z (by decide)), if_pos z] at h
    rw [z]
    refine ⟨vp_in_nI (n := 0) (by omega) (by omega), ?_⟩
    rw [show ((2 : Int32) - 2).toNatClampNeg = 0 from rfl, x0.1]
    exact h S hK (fun y => absurd y (d z (by decide))) (fun q _ _ => q) oC.rf
  · rw [if_neg (d z (by decide)), if_neg (d z (by decide)), if_neg (d z (by decide)), if_pos z] at h
    rw [z]
    refine ⟨vp_in_nI (n := 1) (by omega) (by omega), ?_⟩
    rw [show ((3 : Int32) - 2).toNatClampNeg = 1 from rfl, x1.1]
    exact h S hK (fun y => absurd y (d z (by decide))) (fun q _ _ => q) oC.rf
  · rw [if_neg (d z (by decide)), if_neg (d z (by decide)), if_neg (d z (by decide)), if_neg (d z (by decide)), if_pos z] at h; exact h S hK (fun y => absurd y (d z (by decide))) (fun q _ _ => q) oC.rf
  · rw [if_neg (d z (by decide)), if_neg (d z (by decide)), if_neg (d z (by decide)), if_neg (d z (by decide)), if_neg (d z (by decide)), if_pos z] at h; exact h S hK (fun y => absurd y (d z (by decide))) (fun q _ _ => q) oC.rf
  · rw [if_neg (d z (by decide)), if_neg (d z (by decide)), if_neg (d z (by decide)), if_neg (d z (by decide)), if_neg (d z (by decide)), if_neg (d z (by decide)), if_pos z] at h
    rw [if_neg (d z (by decide)), if_neg (d z (by decide))]
    exact h S1 hK1 (fun _ => hT1) (fun _ a b => by rw [a, b]; exact hT1) o1
  · rw [if_neg (d z (by decide)), if_neg (d z (by decide)), if_neg (d z (by decide)), if_neg (d z (by decide)), if_neg (d z (by decide)), if_neg (d z (by decide)), if_neg (d z (by decide)), if_pos z] at h; exact h S hK (fun y => absurd y (d z (by decide))) (fun q _ _ => q) oC.rf
  · rw [if_neg (d z (by decide)), if_neg (d z (by decide)), if_neg (d z (by decide)), if_neg (d z (by decide)), if_neg (d z (by decide)), if_neg (d z (by decide)), if_neg (d z (by decide)), if_neg (d z (by decide)), if_pos z] at h; exact h S hK (fun y => absurd y (d z (by decide))) (fun q _ _ => q) oC.rf
  · rw [if_neg z0, if_neg z1, if_neg z2, if_neg z3, if_neg z4, if_neg z5, if_neg z6, if_neg z7, if_neg z8] at h; exact h S hK (fun y => absurd y z6) (fun q _ _ => q) oC.rf
theorem count_m {w : Int32} (hK : mK (t0, t1, g, c, ro, jo, fr, se, fo, le, it, la) S) (h : ∀ S', mK (t0, t1, g, c, ro, jo, fr, se, fo, le, it, la) S' → oC S S' → P (qCount w (t0, t1, g, c, ro, jo, fr, se, fo, le, it, la)) S' L) : zCi mX11_count S L [.ref 72, .int w] P := count_m' hK (fun S' hK' _ _ o => h S' hK' o)
end MQ
