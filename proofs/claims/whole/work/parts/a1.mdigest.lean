/-! THE DIGEST: the reference -/
theorem ok_n {n p : Nat} (hp : p < n) (hn : n < 2000) : okN n (nI p) := by
  refine ⟨nI_le (a := 0) (Nat.zero_le _) (by omega), ?_⟩
  rw [show nI n - (1 : Int32) = nI (n - 1) from pk_sub (b := 1) (by omega)]
  exact nI_le (by omega) (by omega)
theorem ok_m {m : Nat} (hm : m < 24) : okM (nI m) := ⟨nI_le (a := 0) (Nat.zero_le _) (by omega), nI_le (b := 23) (by omega) (by omega)⟩
section DGM
variable {t0 t1 : List Int32} {g c : Int32} {ro jo fr se : List T3} {fo le it : pF} {la : Int32} {L : zL} {X : Nat × (Nat → Int32)} {S0 S : zS}
def DK (σ : sg) (pe de : List T3) (S0 S : zS) : Prop := mK σ S ∧ mT pe de S ∧ oC S0 S
section KQ
variable {P : Int32 → zS → zL → Prop}
theorem woolOf_k {m p : Nat} {m' w : Int32} (J : DK (t0, t1, g, c, ro, jo, fr, se, fo, le, it, la) (tL 0 t0) (tL 3 t1) S0 S) (e : m' = nI m) (hm : m < 24) (hp : p < (tL 0 t0).length) (hw : okF w) (h : ∀ S', DK (t0, t1, g, c, ro, jo, fr, se, fo, le, it, la) (tL 0 t0) (tL 3 t1) S0 S' → P (qWool m' (nI p) w (t0, t1, g, c, ro, jo, fr, se, fo, le, it, la)) S' L) : zCi mX11_woolOf S L [.ref 72, .int m', .int (nI p), .int w] P := by
  subst e
  have hl := J.1.lp
  simp only [qWool, aWool] at h
  rw [if_pos ⟨ok_m hm, ok_n hp (by omega), hw⟩, cl_nI (by omega), cl_nI (by omega)] at h
  exact woolOf_m J.1 hm hp (fun S' a b d => h S' ⟨a, b, J.2.2.trans d⟩)
theorem personOf_k {p : Nat} {w : Int32} (J : DK (t0, t1, g, c, ro, jo, fr, se, fo, le, it, la) (tL 0 t0) (tL 3 t1) S0 S) (hp : p < (tL 0 t0).length) (hw : okF w) (h : ∀ S', DK (t0, t1, g, c, ro, jo, fr, se, fo, le, it, la) (tL 0 t0) (tL 3 t1) S0 S' → P (qPerson (nI p) w (t0, t1, g, c, ro, jo, fr, se, fo, le, it, la)) S' L) : zCi mX11_personOf S L [.ref 72, .int (nI p), .int w] P := by
  have hl := J.1.lp
  simp only [qPerson] at h
  rw [if_pos ⟨ok_n hp (by omega), hw⟩, cl_nI (by omega)] at h
  exact personOf_m J.2.1 hp hl.1 (h S J)
theorem deedOf_k {p : Nat} {w : Int32} (J : DK (t0, t1, g, c, ro, jo, fr, se, fo, le, it, la) (tL 0 t0) (tL 3 t1) S0 S) (hp : p < (tL 3 t1).length) (hw : okF w) (h : ∀ S', DK (t0, t1, g, c, ro, jo, fr, se, fo, le, it, la) (tL 0 t0) (tL 3 t1) S0 S' → P (qDeed (nI p) w (t0, t1, g, c, ro, jo, fr, se, fo, le, it, la)) S' L) : zCi mX11_deedOf S L [.ref 72, .int (nI p), .int w] P := by
  have hl := J.1.lp
  simp only [qDeed] at h
  rw [if_pos ⟨ok_n hp (by omega), hw⟩, cl_nI (by omega)] at h
  exact deedOf_m J.2.1 hp hl.2 (h S J)
theorem diesOf_k {p : Nat} (J : DK (t0, t1, g, c, ro, jo, fr, se, fo, le, it, la) (tL 0 t0) (tL 3 t1) S0 S) (hp : p < (tL 0 t0).length) (h : ∀ S', DK (t0, t1, g, c, ro, jo, fr, se, fo, le, it, la) (tL 0 t0) (tL 3 t1) S0 S' → P (qDies (nI p) (t0, t1, g, c, ro, jo, fr, se, fo, le, it, la)) S' L) : zCi mX11_diesOf S L [.ref 72, .int (nI p)] P := by
  have hl := J.1.lp
  simp only [qDies, aDies] at h
  rw [if_pos (ok_n hp (by omega)), cl_nI (by omega)] at h
  exact diesOf_m J.1 hp (fun S' a b d => h S' ⟨a, b, J.2.2.trans d⟩)
theorem homeOf_k {p : Nat} {w : Int32} (J : DK (t0, t1, g, c, ro, jo, fr, se, fo, le, it, la) (tL 0 t0) (tL 3 t1) S0 S) (hp : p < (tL 0 t0).length) (hw : ok1 w) (h : ∀ S', DK (t0, t1, g, c, ro, jo, fr, se, fo, le, it, la) (tL 0 t0) (tL 3 t1) S0 S' → P (qHome (nI p) w (t0, t1, g, c, ro, jo, fr, se, fo, le, it, la)) S' L) : zCi mX11_homeOf S L [.ref 72, .int (nI p), .int w] P := by
  have hl := J.1.lp
  simp only [qHome, aHome] at h
  rw [if_pos ⟨ok_n hp (by omega), hw⟩, cl_nI (by omega)] at h
  exact homeOf_m J.1 hp (fun S' a b d => h S' ⟨a, b, J.2.2.trans d⟩)
theorem askOf_k {p : Nat} (J : DK (t0, t1, g, c, ro, jo, fr, se, fo, le, it, la) (tL 0 t0) (tL 3 t1) S0 S) (hp : p < (tL 0 t0).length) (h : ∀ S', DK (t0, t1, g, c, ro, jo, fr, se, fo, le, it, la) (tL 0 t0) (tL 3 t1) S0 S' → P (qAsk (nI p) (t0, t1, g, c, ro, jo, fr, se, fo, le, it, la)) S' L) : zCi mX11_askOf S L [.ref 72, .int (nI p)] P := by
  have hl := J.1.lp
  simp only [qAsk, aAsk] at h
  rw [if_pos (ok_n hp (by omega)), cl_nI (by omega)] at h
  exact askOf_m J.1 hp (fun S' a b d => h S' ⟨a, b, J.2.2.trans d⟩)
theorem wasOf_k {p : Nat} {w : Int32} (J : DK (t0, t1, g, c, ro, jo, fr, se, fo, le, it, la) (tL 0 t0) (tL 3 t1) S0 S) (hp : p < (tL 3 t1).length) (hw : ok1 w) (h : ∀ S', DK (t0, t1, g, c, ro, jo, fr, se, fo, le, it, la) (tL 0 t0) (tL 3 t1) S0 S' → P (qWas (nI p) w (t0, t1, g, c, ro, jo, fr, se, fo, le, it, la)) S' L) : zCi mX11_wasOf S L [.ref 72, .int (nI p), .int w] P := by
  have hl := J.1.lp
  simp only [qWas, aWas] at h
  rw [if_pos ⟨ok_n hp (by omega), hw⟩, cl_nI (by omega)] at h
  exact wasOf_m J.1 hp (w01 hw) (fun S' a b d => h S' ⟨a, b, J.2.2.trans d⟩)
theorem clothOf_k {m q : Nat} {m' q' w : Int32} (J : DK (t0, t1, g, c, ro, jo, fr, se, fo, le, it, la) (tL 0 t0) (tL 3 t1) S0 S) (e : m' = nI m) (e2 : q' = nI q) (hm : m < 24) (hq : q < 4) (hw : ok1 w) (h : ∀ S', DK (t0, t1, g, c, ro, jo, fr, se, fo, le, it, la) (tL 0 t0) (tL 3 t1) S0 S' → P (qCloth m' q' w (t0, t1, g, c, ro, jo, fr, se, fo, le, it, la)) S' L) : zCi mX11_clothOf S L [.ref 72, .int m', .int q', .int w] P := by
  subst e e2
  simp only [qCloth, aCloth] at h
  rw [if_pos ⟨ok_m hm, ⟨nI_le (a := 0) (Nat.zero_le _) (by omega), nI_le (b := 3) (by omega) (by omega)⟩, hw⟩, cl_nI (by omega), cl_nI (by omega)] at h
  exact clothOf_m J.1 hm hq (fun S' a b d => h S' ⟨a, b, J.2.2.trans d⟩)
theorem thornOf_k {m : Nat} {m' : Int32} (J : DK (t0, t1, g, c, ro, jo, fr, se, fo, le, it, la) (tL 0 t0) (tL 3 t1) S0 S) (e : m' = nI m) (hm : m < 24) (h : ∀ S', DK (t0, t1, g, c, ro, jo, fr, se, fo, le, it, la) (tL 0 t0) (tL 3 t1) S0 S' → P (qThorn m' (t0, t1, g, c, ro, jo, fr, se, fo, le, it, la)) S' L) : zCi mX11_thornOf S L [.ref 72, .int m'] P := by
  subst e
  simp only [qThorn, aThorn] at h
  rw [if_pos (ok_m hm), cl_nI (by omega)] at h
  exact thornOf_m J.1 hm (fun S' a b d => h S' ⟨a, b, J.2.2.trans d⟩)
theorem heaviestOf_k {m : Nat} {m' : Int32} (J : DK (t0, t1, g, c, ro, jo, fr, se, fo, le, it, la) (tL 0 t0) (tL 3 t1) S0 S) (e : m' = nI m) (hm : m < 24) (h : ∀ S', DK (t0, t1, g, c, ro, jo, fr, se, fo, le, it, la) (tL 0 t0) (tL 3 t1) S0 S' → P (qHeavy m' (t0, t1, g, c, ro, jo, fr, se, fo, le, it, la)) S' L) : zCi mX11_heaviestOf S L [.ref 72, .int m'] P := by
  subst e
  simp only [qHeavy, aHeavy] at h
  rw [if_pos (ok_m hm), cl_nI (by omega)] at h
  exact heaviestOf_m J.1 hm (fun S' a b d => h S' ⟨a, b, J.2.2.trans d⟩)
theorem taxOf_k {w : Nat} {w' : Int32} (J : DK (t0, t1, g, c, ro, jo, fr, se, fo, le, it, la) (tL 0 t0) (tL 3 t1) S0 S) (e : w' = nI w) (hw : w < 2) (h : ∀ S', DK (t0, t1, g, c, ro, jo, fr, se, fo, le, it, la) (tL 0 t0) (tL 3 t1) S0 S' → P (qTax w' (t0, t1, g, c, ro, jo, fr, se, fo, le, it, la)) S' L) : zCi mX11_taxOf S L [.ref 72, .int w'] P := by
  subst e
  simp only [qTax, aTax] at h
  rw [if_pos ⟨nI_le (a := 0) (Nat.zero_le _) (by omega), nI_le (b := 1) (by omega) (by omega)⟩] at h
  exact taxOf_m J.1 hw (fun S' a b d => h S' ⟨a, b, J.2.2.trans d⟩)
theorem firstOf_k {w : Int32} (J : DK (t0, t1, g, c, ro, jo, fr, se, fo, le, it, la) (tL 0 t0) (tL 3 t1) S0 S) (hw : ok1 w) (h : ∀ S', DK (t0, t1, g, c, ro, jo, fr, se, fo, le, it, la) (tL 0 t0) (tL 3 t1) S0 S' → P (qFirst w (t0, t1, g, c, ro, jo, fr, se, fo, le, it, la)) S' L) : zCi mX11_firstOf S L [.ref 72, .int w] P := by
  simp only [qFirst, aFirst] at h
  rw [if_pos hw] at h
  exact firstOf_m J.1 (fun S' a b d => h S' ⟨a, b, J.2.2.trans d⟩)
theorem planOf_k {w : Int32} (J : DK (t0, t1, g, c, ro, jo, fr, se, fo, le, it, la) (tL 0 t0) (tL 3 t1) S0 S) (hw : okF w) (h : ∀ S', DK (t0, t1, g, c, ro, jo, fr, se, fo, le, it, la) (tL 0 t0) (tL 3 t1) S0 S' → P (qPlan 2 w (t0, t1, g, c, ro, jo, fr, se, fo, le, it, la)) S' L) : zCi mX11_planOf S L [.ref 72, .int (2 : Int32), .int w] P := by
  simp only [qPlan, aPlan] at h
  rw [if_pos ⟨by decide, hw⟩] at h
  exact planOf_m (pc := 2) J.1 (by omega) (fun S' a b d => h S' ⟨a, b, J.2.2.trans d⟩)
theorem yearsOf_k {w : Int32} (hK : mK (t0, t1, g, c, ro, jo, fr, se, fo, le, it, la) S) (o : oC S0 S) (hw : ok1 w) (h : ∀ S', mK (t0, t1, g, c, ro, jo, fr, se, fo, le, it, la) S' → oC S0 S' → P (qYears 7 9 w (t0, t1, g, c, ro, jo, fr, se, fo, le, it, la)) S' L) : zCi mX11_yearsOf S L [.ref 72, .int (7 : Int32), .int (9 : Int32), .int w] P := by
  simp only [qYears, aYears] at h
  rw [if_pos ⟨by decide, hw⟩, show (9 : Int32).toNatClampNeg = 9 from rfl] at h
  exact yearsOf_m (n := 9) hK (by omega) (fun S' a d => h S' a (o.trans d))
theorem faultOf_k {t : Int32} (hK : mK (t0, t1, g, c, ro, jo, fr, se, fo, le, it, la) S) (o : oC S0 S) (ht : ok1 t) (h : ∀ S', DK (t0, t1, g, c, ro, jo, fr, se, fo, le, it, la) (tL 0 t0) (tL 3 t1) S0 S' → P (qFault t (t0, t1, g, c, ro, jo, fr, se, fo, le, it, la)) S' L) : zCi mX11_faultOf S L [.ref 72, .int t] P := by
  simp only [qFault] at h
  rw [if_pos ht] at h
  exact faultOf_m hK (fun S' a b d => h S' ⟨a, b, o.trans d.c⟩)
end KQ
theorem virtueOf_k {p : Nat} {w : Int32} {P : Int64 → zS → zL → Prop} (J : DK (t0, t1, g, c, ro, jo, fr, se, fo, le, it, la) (tL 0 t0) (tL 3 t1) S0 S) (hp : p < (tL 0 t0).length) (hw : ok1 w) (h : ∀ S', DK (t0, t1, g, c, ro, jo, fr, se, fo, le, it, la) (tL 0 t0) (tL 3 t1) S0 S' → P (qVirt 5 5 (nI p) w (t0, t1, g, c, ro, jo, fr, se, fo, le, it, la)) S' L) : zCl mX11_virtueOf S L [.ref 72, .int (5 : Int32), .int (5 : Int32), .int (nI p), .int w] P := by
  have hl := J.1.lp
  simp only [qVirt, aVirt] at h
  rw [if_pos ⟨by decide, by decide, ok_n hp (by omega), hw⟩, cl_nI (by omega), show (5 : Int32).toNatClampNeg = 5 from rfl] at h
  exact virtueOf_m (q := 5) (n := 5) J.1 (by omega) (by omega) hp (fun S' a b d => h S' ⟨a, b, J.2.2.trans d⟩)
theorem qLight_k {p : Nat} {i : Int32} (hl : (tL 0 t0).length ≤ 8) (hp : p < (tL 0 t0).length) (hi : (-1 : Int32) ≤ i ∧ i ≤ (1 : Int32)) : qLight (nI p) 9 i (t0, t1, g, c, ro, jo, fr, se, fo, le, it, la) = pTell ((chs (tL 3 t1).length).find? (okL (tL 0 t0) (tL 3 t1) ro jo fr g c p 9)) i := by
  simp only [qLight, aLight]
  rw [if_pos ⟨ok_n hp (by omega), by decide, hi⟩, cl_nI (by omega)]
theorem qSpare_k {i : Int32} (hi : (-1 : Int32) ≤ i ∧ i ≤ (1 : Int32)) : qSpare i (t0, t1, g, c, ro, jo, fr, se, fo, le, it, la) = pTell ((chs ro.length).find? (okS (tL 0 t0) (tL 3 t1) ro jo fr g c)) i := by
  simp only [qSpare, aSpare]
  rw [if_pos hi]
variable {P : Int64 → zS → zL → Prop}
theorem dMon_m {m p : Nat} {m' : Int32} {b : Int64} (J0 : DK (t0, t1, g, c, ro, jo, fr, se, fo, le, it, la) (tL 0 t0) (tL 3 t1) S0 S) (e : m' = nI m) (hm : m < 24) (hp : p < (tL 0 t0).length) (h : ∀ S', DK (t0, t1, g, c, ro, jo, fr, se, fo, le, it, la) (tL 0 t0) (tL 3 t1) S0 S' → P (qDM (t0, t1, g, c, ro, jo, fr, se, fo, le, it, la) m' (nI p) b) S' L) : zCl mX11_monthDigest S L [.ref 72, .long b, .int m', .int (nI p)] P := by
  refine e_X11_monthDigest (fun X => b_X11_monthDigest_0 ?_)
  refine b_X11_monthDigest_6 ⟨fun z => absurd z (by decide), fun _ => ?_⟩
  refine woolOf_k J0 e hm hp (by decide) (fun S1 J1 => ?_)
  rintro _ rfl
  intro x ex; obtain rfl : x = 1 := ex.trans (by decide)
  refine b_X11_monthDigest_6 ⟨fun z => absurd z (by decide), fun _ => ?_⟩
  refine woolOf_k J1 e hm hp (by decide) (fun S2 J2 => ?_)
  rintro _ rfl
  intro x ex; obtain rfl : x = 2 := ex.trans (by decide)
  refine b_X11_monthDigest_6 ⟨fun z => absurd z (by decide), fun _ => ?_⟩
  refine woolOf_k J2 e hm hp (by decide) (fun S3 J3 => ?_)
  rintro _ rfl
  intro x ex; obtain rfl : x = 3 := ex.trans (by decide)
  refine b_X11_monthDigest_6 ⟨fun _ => ?_, fun z => absurd (by decide) z⟩
  exact h S3 J3
theorem dPerson_m {p : Nat} {b : Int64} (J0 : DK (t0, t1, g, c, ro, jo, fr, se, fo, le, it, la) (tL 0 t0) (tL 3 t1) S0 S) (hp : p < (tL 0 t0).length) (h : ∀ S', DK (t0, t1, g, c, ro, jo, fr, se, fo, le, it, la) (tL 0 t0) (tL 3 t1) S0 S' → P (qDP (t0, t1, g, c, ro, jo, fr, se, fo, le, it, la) b p) S' L) : zCl mX11_personDigest S L [.ref 72, .long b, .int (nI p)] P := by
  have hl := J0.1.lp
  refine e_X11_personDigest (fun X => b_X11_personDigest_0 ?_)
  refine b_X11_personDigest_6 ⟨fun z => absurd z (by decide), fun _ => ?_⟩
  refine personOf_k J0 hp (by decide) (fun S1 J1 => ?_)
  rintro _ rfl
  intro x ex; obtain rfl : x = 1 := ex.trans (by decide)
  refine b_X11_personDigest_6 ⟨fun z => absurd z (by decide), fun _ => ?_⟩
  refine personOf_k J1 hp (by decide) (fun S2 J2 => ?_)
  rintro _ rfl
  intro x ex; obtain rfl : x = 2 := ex.trans (by decide)
  refine b_X11_personDigest_6 ⟨fun z => absurd z (by decide), fun _ => ?_⟩
  refine personOf_k J2 hp (by decide) (fun S3 J3 => ?_)
  rintro _ rfl
  intro x ex; obtain rfl : x = 3 := ex.trans (by decide)
  refine b_X11_personDigest_6 ⟨fun _ => ?_, fun z => absurd (by decide) z⟩
  refine dMon_m (m := 0) J3 rfl (by omega) hp (fun S4 J4 => ?_)
  refine dMon_m (m := 5) J4 rfl (by omega) hp (fun S5 J5 => ?_)
  refine dMon_m (m := 11) J5 rfl (by omega) hp (fun S6 J6 => ?_)
  refine dMon_m (m := 23) J6 rfl (by omega) hp (fun S7 J7 => ?_)
  refine b_X11_personDigest_77 ?_
  refine diesOf_k J7 hp (fun S8 J8 => ?_)
  rintro _ rfl
  refine lightBy_m J8.1 hp (by decide) (fun S9 a9 b9 d9 hr => ?_)
  have J9 : DK (t0, t1, g, c, ro, jo, fr, se, fo, le, it, la) (tL 0 t0) (tL 3 t1) S0 S9 := ⟨a9, b9, J8.2.2.trans d9⟩
  refine b_X11_personDigest_101 ?_
  rintro _ rfl
  refine ofRow_m hl.2 hr (by decide) ?_
  rintro _ rfl
  rw [← qLight_k (i := -1) hl.1 hp (by decide), ← qLight_k (i := 0) hl.1 hp (by decide)]
  refine b_X11_personDigest_130 ?_
  refine homeOf_k J9 hp (by decide) (fun S10 J10 => ?_)
  rintro _ rfl
  refine homeOf_k J10 hp (by decide) (fun S11 J11 => ?_)
  rintro _ rfl
  refine b_X11_personDigest_162 ?_
  refine askOf_k J11 hp (fun S12 J12 => ?_)
  rintro _ rfl
  refine virtueOf_k J12 hp (by decide) (fun S13 J13 => ?_)
  rintro _ rfl
  refine virtueOf_k J13 hp (by decide) (fun S14 J14 => ?_)
  exact h S14 J14
theorem dDeed_m {p : Nat} {b : Int64} (J0 : DK (t0, t1, g, c, ro, jo, fr, se, fo, le, it, la) (tL 0 t0) (tL 3 t1) S0 S) (hp : p < (tL 3 t1).length) (h : ∀ S', DK (t0, t1, g, c, ro, jo, fr, se, fo, le, it, la) (tL 0 t0) (tL 3 t1) S0 S' → P (qDD (t0, t1, g, c, ro, jo, fr, se, fo, le, it, la) b p) S' L) : zCl mX11_deedDigest S L [.ref 72, .long b, .int (nI p)] P := by
  refine e_X11_deedDigest (fun X => b_X11_deedDigest_0 ?_)
  refine b_X11_deedDigest_6 ⟨fun z => absurd z (by decide), fun _ => ?_⟩
  refine deedOf_k J0 hp (by decide) (fun S1 J1 => ?_)
  rintro _ rfl
  intro x ex; obtain rfl : x = 1 := ex.trans (by decide)
  refine b_X11_deedDigest_6 ⟨fun z => absurd z (by decide), fun _ => ?_⟩
  refine deedOf_k J1 hp (by decide) (fun S2 J2 => ?_)
  rintro _ rfl
  intro x ex; obtain rfl : x = 2 := ex.trans (by decide)
  refine b_X11_deedDigest_6 ⟨fun z => absurd z (by decide), fun _ => ?_⟩
  refine deedOf_k J2 hp (by decide) (fun S3 J3 => ?_)
  rintro _ rfl
  intro x ex; obtain rfl : x = 3 := ex.trans (by decide)
  refine b_X11_deedDigest_6 ⟨fun _ => ?_, fun z => absurd (by decide) z⟩
  refine wasOf_k J3 hp (by decide) (fun S4 J4 => ?_)
  rintro _ rfl
  refine wasOf_k J4 hp (by decide) (fun S5 J5 => ?_)
  exact h S5 J5
theorem dCounty_m {q : Nat} {q' : Int32} {b : Int64} (J0 : DK (t0, t1, g, c, ro, jo, fr, se, fo, le, it, la) (tL 0 t0) (tL 3 t1) S0 S) (e : q' = nI q) (hq : q < 4) (h : ∀ S', DK (t0, t1, g, c, ro, jo, fr, se, fo, le, it, la) (tL 0 t0) (tL 3 t1) S0 S' → P (qDC (t0, t1, g, c, ro, jo, fr, se, fo, le, it, la) b q') S' L) : zCl mX11_countyDigest S L [.ref 72, .long b, .int q'] P := by
  refine e_X11_countyDigest (fun X => b_X11_countyDigest_0 ?_)
  refine clothOf_k (m := 11) J0 rfl e (by omega) hq (by decide) (fun S1 J1 => ?_)
  rintro _ rfl
  refine clothOf_k (m := 11) J1 rfl e (by omega) hq (by decide) (fun S2 J2 => ?_)
  rintro _ rfl
  refine clothOf_k (m := 23) J2 rfl e (by omega) hq (by decide) (fun S3 J3 => ?_)
  rintro _ rfl
  refine clothOf_k (m := 23) J3 rfl e (by omega) hq (by decide) (fun S4 J4 => ?_)
  exact h S4 J4
theorem dThorn_m {m : Nat} {m' : Int32} {b : Int64} (J0 : DK (t0, t1, g, c, ro, jo, fr, se, fo, le, it, la) (tL 0 t0) (tL 3 t1) S0 S) (e : m' = nI m) (hm : m < 24) (h : ∀ S', DK (t0, t1, g, c, ro, jo, fr, se, fo, le, it, la) (tL 0 t0) (tL 3 t1) S0 S' → P (qDT (t0, t1, g, c, ro, jo, fr, se, fo, le, it, la) b m') S' L) : zCl mX11_thornDigest S L [.ref 72, .long b, .int m'] P := by
  refine e_X11_thornDigest (fun X => b_X11_thornDigest_0 ?_)
  refine thornOf_k J0 e hm (fun S1 J1 => ?_)
  rintro _ rfl
  refine heaviestOf_k J1 e hm (fun S2 J2 => ?_)
  exact h S2 J2
theorem dTail_m {b : Int64} (J0 : DK (t0, t1, g, c, ro, jo, fr, se, fo, le, it, la) (tL 0 t0) (tL 3 t1) S0 S) (h : ∀ S', mK (t0, t1, g, c, ro, jo, fr, se, fo, le, it, la) S' → oC S0 S' → P (qD6 (t0, t1, g, c, ro, jo, fr, se, fo, le, it, la) b) S' L) : zU mX11_digest X S L 200 [some (.ref 72), some (.long b), none, some (.int (0 : Int32))] [] (zpl P) := by
  have hl := J0.1.2.1.1.1
  refine b_X11_digest_200 ⟨fun z => absurd z (by decide), fun _ => ?_⟩
  refine planOf_k J0 (by decide) (fun S1 J1 => ?_)
  rintro _ rfl
  intro x ex; obtain rfl : x = 1 := ex.trans (by decide)
  refine b_X11_digest_200 ⟨fun z => absurd z (by decide), fun _ => ?_⟩
  refine planOf_k J1 (by decide) (fun S2 J2 => ?_)
  rintro _ rfl
  intro x ex; obtain rfl : x = 2 := ex.trans (by decide)
  refine b_X11_digest_200 ⟨fun z => absurd z (by decide), fun _ => ?_⟩
  refine planOf_k J2 (by decide) (fun S3 J3 => ?_)
  rintro _ rfl
  intro x ex; obtain rfl : x = 3 := ex.trans (by decide)
  refine b_X11_digest_200 ⟨fun _ => ?_, fun z => absurd (by decide) z⟩
  refine spareBy_m (u := ()) J3.1 rfl (fun S4 a4 b4 d4 hr => ?_)
  have J4 : DK (t0, t1, g, c, ro, jo, fr, se, fo, le, it, la) (tL 0 t0) (tL 3 t1) S0 S4 := ⟨a4, b4, J3.2.2.trans d4⟩
  rintro _ rfl
  refine ofRow_m (by omega) hr (by decide) ?_
  rintro _ rfl
  rw [← qSpare_k (t0 := t0) (t1 := t1) (jo := jo) (fr := fr) (se := se) (fo := fo) (le := le) (it := it) (la := la) (g := g) (c := c) (i := -1) (by decide), ← qSpare_k (t0 := t0) (t1 := t1) (jo := jo) (fr := fr) (se := se) (fo := fo) (le := le) (it := it) (la := la) (g := g) (c := c) (i := 0) (by decide)]
  refine neverNow_m J4.1 (fun Sn Jn => ?_)
  rintro _ rfl
  refine yearsOf_k (S0 := S0) Jn.1 (J4.2.2.trans Jn.2.2.2.2) (by decide) (fun Sa Ka Oa => ?_)
  rintro _ rfl
  refine yearsOf_k (S0 := S0) Ka Oa (by decide) (fun Sb Kb Ob => ?_)
  exact h Sb Kb Ob
theorem dCloth_m {b : Int64} (J0 : DK (t0, t1, g, c, ro, jo, fr, se, fo, le, it, la) (tL 0 t0) (tL 3 t1) S0 S) (h : ∀ S', mK (t0, t1, g, c, ro, jo, fr, se, fo, le, it, la) S' → oC S0 S' → P (qD6 (t0, t1, g, c, ro, jo, fr, se, fo, le, it, la) (qD5 (t0, t1, g, c, ro, jo, fr, se, fo, le, it, la) (qD4 (t0, t1, g, c, ro, jo, fr, se, fo, le, it, la) b))) S' L) : zU mX11_digest X S L 105 [some (.ref 72), some (.long b), none, some (.int (0 : Int32))] [] (zpl P) := by
  refine b_X11_digest_105 ⟨fun z => absurd z (by decide), fun _ => ?_⟩
  refine dCounty_m (q := 0) J0 rfl (by omega) (fun S1 J1 => ?_)
  intro x ex; obtain rfl : x = 1 := ex.trans (by decide)
  refine b_X11_digest_105 ⟨fun z => absurd z (by decide), fun _ => ?_⟩
  refine dCounty_m (q := 1) J1 rfl (by omega) (fun S2 J2 => ?_)
  intro x ex; obtain rfl : x = 2 := ex.trans (by decide)
  refine b_X11_digest_105 ⟨fun z => absurd z (by decide), fun _ => ?_⟩
  refine dCounty_m (q := 2) J2 rfl (by omega) (fun S3 J3 => ?_)
  intro x ex; obtain rfl : x = 3 := ex.trans (by decide)
  refine b_X11_digest_105 ⟨fun z => absurd z (by decide), fun _ => ?_⟩
  refine dCounty_m (q := 3) J3 rfl (by omega) (fun S4 J4 => ?_)
  intro x ex; obtain rfl : x = 4 := ex.trans (by decide)
  refine b_X11_digest_105 ⟨fun _ => ?_, fun z => absurd (by decide) z⟩
  refine dThorn_m (m := 0) J4 rfl (by omega) (fun S5 J5 => ?_)
  refine dThorn_m (m := 11) J5 rfl (by omega) (fun S6 J6 => ?_)
  refine dThorn_m (m := 23) J6 rfl (by omega) (fun S7 J7 => ?_)
  refine taxOf_k (w := 0) J7 rfl (by omega) (fun S8 J8 => ?_)
  rintro _ rfl
  refine taxOf_k (w := 1) J8 rfl (by omega) (fun S9 J9 => ?_)
  rintro _ rfl
  refine firstOf_k J9 (by decide) (fun S10 J10 => ?_)
  rintro _ rfl
  refine firstOf_k J10 (by decide) (fun S11 J11 => ?_)
  rintro _ rfl
  exact dTail_m J11 h
theorem dDeeds_m {S0 : zS} : ∀ (e d : Nat) (b : Int64) (S : zS), d + e = (tL 3 t1).length → DK (t0, t1, g, c, ro, jo, fr, se, fo, le, it, la) (tL 0 t0) (tL 3 t1) S0 S → (∀ S', mK (t0, t1, g, c, ro, jo, fr, se, fo, le, it, la) S' → oC S0 S' → P (qD6 (t0, t1, g, c, ro, jo, fr, se, fo, le, it, la) (qD5 (t0, t1, g, c, ro, jo, fr, se, fo, le, it, la) (qD4 (t0, t1, g, c, ro, jo, fr, se, fo, le, it, la) ((List.range' d e).foldl (qDD (t0, t1, g, c, ro, jo, fr, se, fo, le, it, la)) b)))) S' L) → zU mX11_digest X S L 82 [some (.ref 72), some (.long b), none, some (.int (nI d))] [] (zpl P) := by
  intro e
  induction e with
  | zero =>
    intro d b S hd J h
    have hl := J.1.lp
    refine b_X11_digest_82 ⟨fun _ => dCloth_m J h, fun z => absurd ?_ z⟩
    rw [J.2.1.2.2]; exact nI_le (by omega) (by omega)
  | succ e ih =>
    intro d b S hd J h
    have hl := J.1.lp
    rw [List.range'_succ, List.foldl_cons] at h
    refine b_X11_digest_82 ⟨fun z => absurd z ?_, fun _ => dDeed_m J (by omega) (fun S' J' x ex => ?_)⟩
    · rw [J.2.1.2.2]; exact nI_ge (by omega) (by omega)
    · rw [ex, nI_1]
      exact ih (d + 1) _ S' (by omega) J' h
theorem dPeople_m {S0 : zS} : ∀ (e p : Nat) (b : Int64) (S : zS), p + e = (tL 0 t0).length → DK (t0, t1, g, c, ro, jo, fr, se, fo, le, it, la) (tL 0 t0) (tL 3 t1) S0 S → (∀ S', mK (t0, t1, g, c, ro, jo, fr, se, fo, le, it, la) S' → oC S0 S' → P (qD6 (t0, t1, g, c, ro, jo, fr, se, fo, le, it, la) (qD5 (t0, t1, g, c, ro, jo, fr, se, fo, le, it, la) (qD4 (t0, t1, g, c, ro, jo, fr, se, fo, le, it, la) ((List.range (tL 3 t1).length).foldl (qDD (t0, t1, g, c, ro, jo, fr, se, fo, le, it, la)) ((List.range' p e).foldl (qDP (t0, t1, g, c, ro, jo, fr, se, fo, le, it, la)) b))))) S' L) → zU mX11_digest X S L 59 [some (.ref 72), some (.long b), none, some (.int (nI p))] [] (zpl P) := by
  intro e
  induction e with
  | zero =>
    intro p b S hd J h
    have hl := J.1.lp
    refine b_X11_digest_59 ⟨fun _ => dDeeds_m (tL 3 t1).length 0 _ S (by omega) J (fun S' K' O' => ?_), fun z => absurd ?_ z⟩
    · rw [← List.range_eq_range']; exact h S' K' O'
    · rw [J.2.1.1.2]; exact nI_le (by omega) (by omega)
  | succ e ih =>
    intro p b S hd J h
    have hl := J.1.lp
    rw [List.range'_succ, List.foldl_cons] at h
    refine b_X11_digest_59 ⟨fun z => absurd z ?_, fun _ => dPerson_m J (by omega) (fun S' J' x ex => ?_)⟩
    · rw [J.2.1.1.2]; exact nI_ge (by omega) (by omega)
    · rw [ex, nI_1]
      exact ih (p + 1) _ S' (by omega) J' h
theorem digest_m (hK : mK (t0, t1, g, c, ro, jo, fr, se, fo, le, it, la) S) (h : ∀ S', mK (t0, t1, g, c, ro, jo, fr, se, fo, le, it, la) S' → oC S S' → P (qDg (t0, t1, g, c, ro, jo, fr, se, fo, le, it, la)) S' L) : zCl mX11_digest S L [.ref 72] P := by
  have k0 : mK (t0, t1, g, c, ro, jo, fr, se, fo, le, it, la) S ∧ oC S S := ⟨hK, oC.rf⟩
  refine e_X11_digest (fun X => b_X11_digest_0 ?_)
  refine b_X11_digest_6 ⟨fun z => absurd z (by decide), fun _ => ?_⟩
  refine count_m k0.1 (fun S1 a1 b1 => ?_)
  have k1 : mK (t0, t1, g, c, ro, jo, fr, se, fo, le, it, la) S1 ∧ oC S S1 := ⟨a1, k0.2.trans b1⟩
  rintro _ rfl
  intro x ex; obtain rfl : x = 1 := ex.trans (by decide)
  refine b_X11_digest_6 ⟨fun z => absurd z (by decide), fun _ => ?_⟩
  refine count_m k1.1 (fun S2 a2 b2 => ?_)
  have k2 : mK (t0, t1, g, c, ro, jo, fr, se, fo, le, it, la) S2 ∧ oC S S2 := ⟨a2, k1.2.trans b2⟩
  rintro _ rfl
  intro x ex; obtain rfl : x = 2 := ex.trans (by decide)
  refine b_X11_digest_6 ⟨fun z => absurd z (by decide), fun _ => ?_⟩
  refine count_m k2.1 (fun S3 a3 b3 => ?_)
  have k3 : mK (t0, t1, g, c, ro, jo, fr, se, fo, le, it, la) S3 ∧ oC S S3 := ⟨a3, k2.2.trans b3⟩
  rintro _ rfl
  intro x ex; obtain rfl : x = 3 := ex.trans (by decide)
  refine b_X11_digest_6 ⟨fun z => absurd z (by decide), fun _ => ?_⟩
  refine count_m k3.1 (fun S4 a4 b4 => ?_)
  have k4 : mK (t0, t1, g, c, ro, jo, fr, se, fo, le, it, la) S4 ∧ oC S S4 := ⟨a4, k3.2.trans b4⟩
  rintro _ rfl
  intro x ex; obtain rfl : x = 4 := ex.trans (by decide)
  refine b_X11_digest_6 ⟨fun z => absurd z (by decide), fun _ => ?_⟩
  refine count_m k4.1 (fun S5 a5 b5 => ?_)
  have k5 : mK (t0, t1, g, c, ro, jo, fr, se, fo, le, it, la) S5 ∧ oC S S5 := ⟨a5, k4.2.trans b5⟩
  rintro _ rfl
  intro x ex; obtain rfl : x = 5 := ex.trans (by decide)
  refine b_X11_digest_6 ⟨fun z => absurd z (by decide), fun _ => ?_⟩
  refine count_m k5.1 (fun S6 a6 b6 => ?_)
  have k6 : mK (t0, t1, g, c, ro, jo, fr, se, fo, le, it, la) S6 ∧ oC S S6 := ⟨a6, k5.2.trans b6⟩
  rintro _ rfl
  intro x ex; obtain rfl : x = 6 := ex.trans (by decide)
  refine b_X11_digest_6 ⟨fun z => absurd z (by decide), fun _ => ?_⟩
  refine count_m k6.1 (fun S7 a7 b7 => ?_)
  have k7 : mK (t0, t1, g, c, ro, jo, fr, se, fo, le, it, la) S7 ∧ oC S S7 := ⟨a7, k6.2.trans b7⟩
  rintro _ rfl
  intro x ex; obtain rfl : x = 7 := ex.trans (by decide)
  refine b_X11_digest_6 ⟨fun z => absurd z (by decide), fun _ => ?_⟩
  refine count_m k7.1 (fun S8 a8 b8 => ?_)
  have k8 : mK (t0, t1, g, c, ro, jo, fr, se, fo, le, it, la) S8 ∧ oC S S8 := ⟨a8, k7.2.trans b8⟩
  rintro _ rfl
  intro x ex; obtain rfl : x = 8 := ex.trans (by decide)
  refine b_X11_digest_6 ⟨fun _ => ?_, fun z => absurd (by decide) z⟩
  refine faultOf_k (S0 := S) k8.1 k8.2 (by decide) (fun S9 J9 => ?_)
  rintro _ rfl
  refine faultOf_k (S0 := S) J9.1 J9.2.2 (by decide) (fun S10 J10 => ?_)
  rintro _ rfl
  refine dPeople_m (tL 0 t0).length 0 _ S10 (by omega) J10 (fun S' K' O' => ?_)
  rw [← List.range_eq_range']
  exact h S' K' O'
end DGM
