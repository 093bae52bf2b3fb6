/-! THE DIGEST: the class -/
def dI (h : Int64) (y : Int32) : Int64 := (31 : Int64) * h + y.toInt64
def dL (h y : Int64) : Int64 := (31 : Int64) * h + y
def nPe : sg → Nat
  | (t0, _) => (tL 0 t0).length
def nDe : sg → Nat
  | (_, t1, _) => (tL 3 t1).length
def qDM (σ : sg) (m p : Int32) (h : Int64) : Int64 := dI (dI (dI h (qWool m p 0 σ)) (qWool m p 1 σ)) (qWool m p 2 σ)
def qDP0 (σ : sg) (p : Int32) (h : Int64) : Int64 := qDM σ 23 p (qDM σ 11 p (qDM σ 5 p (qDM σ 0 p (dI (dI (dI h (qPerson p 0 σ)) (qPerson p 1 σ)) (qPerson p 2 σ)))))
def qDP1 (σ : sg) (p : Int32) (h : Int64) : Int64 := dL (dL (dI (dI (dI (dI (dI (dI h (qDies p σ)) (qLight p 9 (-1) σ)) (qLight p 9 0 σ)) (qHome p 0 σ)) (qHome p 1 σ)) (qAsk p σ)) (qVirt 5 5 p 0 σ)) (qVirt 5 5 p 1 σ)
def qDP (σ : sg) (h : Int64) (p : Nat) : Int64 := qDP1 σ (nI p) (qDP0 σ (nI p) h)
def qDD (σ : sg) (h : Int64) (d : Nat) : Int64 := dI (dI (dI (dI (dI h (qDeed (nI d) 0 σ)) (qDeed (nI d) 1 σ)) (qDeed (nI d) 2 σ)) (qWas (nI d) 0 σ)) (qWas (nI d) 1 σ)
def qDC (σ : sg) (h : Int64) (q : Int32) : Int64 := dI (dI (dI (dI h (qCloth 11 q 0 σ)) (qCloth 11 q 1 σ)) (qCloth 23 q 0 σ)) (qCloth 23 q 1 σ)
def qDT (σ : sg) (h : Int64) (m : Int32) : Int64 := dI (dI h (qThorn m σ)) (qHeavy m σ)
def qD0 (σ : sg) : Int64 := dI (dI (dI (dI (dI (dI (dI (dI (dI (dI 17 (qCount 0 σ)) (qCount 1 σ)) (qCount 2 σ)) (qCount 3 σ)) (qCount 4 σ)) (qCount 5 σ)) (qCount 6 σ)) (qCount 7 σ)) (qFault 0 σ)) (qFault 1 σ)
def qD4 (σ : sg) (h : Int64) : Int64 := qDC σ (qDC σ (qDC σ (qDC σ h 0) 1) 2) 3
def qD5 (σ : sg) (h : Int64) : Int64 := dI (dI (dI (dI (qDT σ (qDT σ (qDT σ h 0) 11) 23) (qTax 0 σ)) (qTax 1 σ)) (qFirst 0 σ)) (qFirst 1 σ)
def qD6 (σ : sg) (h : Int64) : Int64 := dI (dI (dI (dI (dI (dI (dI (dI h (qPlan 2 0 σ)) (qPlan 2 1 σ)) (qPlan 2 2 σ)) (qSpare (-1) σ)) (qSpare 0 σ)) (qNever σ)) (qYears 7 9 0 σ)) (qYears 7 9 1 σ)
def qDg (σ : sg) : Int64 := qD6 σ (qD5 σ (qD4 σ ((List.range (nDe σ)).foldl (qDD σ) ((List.range (nPe σ)).foldl (qDP σ) (qD0 σ)))))
section DGC
variable {t0 t1 : List Int32} {g c : Int32} {ro jo fr se : List T3} {fo le it : pF} {la : Int32} {P : Int64 → zS → zL → Prop} {X : Nat × (Nat → Int32)}
def DJ (σ : sg) (S0 S : zS) (L : zL) : Prop := cI σ S L ∧ oM S0 S
theorem cI.np {S : zS} {L : zL} (h : cI (t0, t1, g, c, ro, jo, fr, se, fo, le, it, la) S L) : S 6 3 = nI (tL 0 t0).length := h.2.2.2.1.1.1.1
theorem cI.nd {S : zS} {L : zL} (h : cI (t0, t1, g, c, ro, jo, fr, se, fo, le, it, la) S L) : S 10 3 = nI (tL 3 t1).length := h.2.2.2.1.1.2.1.1
theorem dMon_c {m p i : Int32} {b : Int64} {S0 S : zS} {L : zL} (J0 : DJ (t0, t1, g, c, ro, jo, fr, se, fo, le, it, la) S0 S L) (K : ∀ S' L', DJ (t0, t1, g, c, ro, jo, fr, se, fo, le, it, la) S0 S' L' → zU mX10_digestPerson X S' L' 38 [some (.ref 0), none, none, some (.int p), some (.long (qDM (t0, t1, g, c, ro, jo, fr, se, fo, le, it, la) m p b)), none, some (.int (i + (1 : Int32))), none, none] [] (zpl P)) : zU mX10_digestPerson X S L 81 [some (.ref 0), none, none, some (.int p), some (.long b), none, some (.int i), some (.int m), some (.int (0 : Int32))] [] (zpl P) := by
  refine b_X10_digestPerson_81 ⟨fun z => absurd z (by decide), fun _ => ?_⟩
  refine wool_q J0.1 (fun S1 L1 a1 b1 => ?_)
  have J1 : DJ (t0, t1, g, c, ro, jo, fr, se, fo, le, it, la) S0 S1 L1 := ⟨a1, J0.2.trans b1⟩
  rintro _ rfl
  intro x ex; obtain rfl : x = 1 := ex.trans (by decide)
  refine b_X10_digestPerson_81 ⟨fun z => absurd z (by decide), fun _ => ?_⟩
  refine wool_q J1.1 (fun S2 L2 a2 b2 => ?_)
  have J2 : DJ (t0, t1, g, c, ro, jo, fr, se, fo, le, it, la) S0 S2 L2 := ⟨a2, J1.2.trans b2⟩
  rintro _ rfl
  intro x ex; obtain rfl : x = 2 := ex.trans (by decide)
  refine b_X10_digestPerson_81 ⟨fun z => absurd z (by decide), fun _ => ?_⟩
  refine wool_q J2.1 (fun S3 L3 a3 b3 => ?_)
  have J3 : DJ (t0, t1, g, c, ro, jo, fr, se, fo, le, it, la) S0 S3 L3 := ⟨a3, J2.2.trans b3⟩
  rintro _ rfl
  intro x ex; obtain rfl : x = 3 := ex.trans (by decide)
  refine b_X10_digestPerson_81 ⟨fun _ => ?_, fun z => absurd (by decide) z⟩
  rintro _ rfl
  exact K S3 L3 J3
theorem dPerson_c {p : Nat} {b : Int64} {S0 S : zS} {L : zL} (J0 : DJ (t0, t1, g, c, ro, jo, fr, se, fo, le, it, la) S0 S L) (h : ∀ S' L', DJ (t0, t1, g, c, ro, jo, fr, se, fo, le, it, la) S0 S' L' → P (qDP (t0, t1, g, c, ro, jo, fr, se, fo, le, it, la) b p) S' L') : zCl mX10_digestPerson S L [.ref 0, .long b, .int (nI p)] P := by
  refine e_X10_digestPerson (fun X => b_X10_digestPerson_0 ?_)
  refine b_X10_digestPerson_6 ⟨fun z => absurd z (by decide), fun _ => ?_⟩
  refine person_q J0.1 (fun S1 L1 a1 b1 => ?_)
  have J1 : DJ (t0, t1, g, c, ro, jo, fr, se, fo, le, it, la) S0 S1 L1 := ⟨a1, J0.2.trans b1⟩
  rintro _ rfl
  intro x ex; obtain rfl : x = 1 := ex.trans (by decide)
  refine b_X10_digestPerson_6 ⟨fun z => absurd z (by decide), fun _ => ?_⟩
  refine person_q J1.1 (fun S2 L2 a2 b2 => ?_)
  have J2 : DJ (t0, t1, g, c, ro, jo, fr, se, fo, le, it, la) S0 S2 L2 := ⟨a2, J1.2.trans b2⟩
  rintro _ rfl
  intro x ex; obtain rfl : x = 2 := ex.trans (by decide)
  refine b_X10_digestPerson_6 ⟨fun z => absurd z (by decide), fun _ => ?_⟩
  refine person_q J2.1 (fun S3 L3 a3 b3 => ?_)
  have J3 : DJ (t0, t1, g, c, ro, jo, fr, se, fo, le, it, la) S0 S3 L3 := ⟨a3, J2.2.trans b3⟩
  rintro _ rfl
  intro x ex; obtain rfl : x = 3 := ex.trans (by decide)
  refine b_X10_digestPerson_6 ⟨fun _ => ?_, fun z => absurd (by decide) z⟩
  refine b_X10_digestPerson_38 ⟨fun z => absurd z (by decide), fun _ => ⟨fun z => absurd rfl z, fun _ => ?_⟩⟩
  refine dMon_c J3 (fun S4 L4 J4 => ?_)
  rw [show (0 : Int32) + 1 = 1 by decide]
  refine b_X10_digestPerson_38 ⟨fun z => absurd z (by decide), fun _ => ⟨fun _ => ⟨fun z => absurd rfl z, fun _ => ?_⟩, fun z => absurd z (by decide)⟩⟩
  refine dMon_c J4 (fun S5 L5 J5 => ?_)
  rw [show (1 : Int32) + 1 = 2 by decide]
  refine b_X10_digestPerson_38 ⟨fun z => absurd z (by decide), fun _ => ⟨fun _ => ⟨fun _ => ⟨fun z => absurd rfl z, fun _ => ?_⟩, fun z => absurd z (by decide)⟩, fun z => absurd z (by decide)⟩⟩
  refine dMon_c J5 (fun S6 L6 J6 => ?_)
  rw [show (2 : Int32) + 1 = 3 by decide]
  refine b_X10_digestPerson_38 ⟨fun z => absurd z (by decide), fun _ => ⟨fun _ => ⟨fun _ => ⟨fun _ => ?_, fun z => absurd z (by decide)⟩, fun z => absurd z (by decide)⟩, fun z => absurd z (by decide)⟩⟩
  refine dMon_c J6 (fun S7 L7 J7 => ?_)
  rw [show (3 : Int32) + 1 = 4 by decide]
  refine b_X10_digestPerson_38 ⟨fun _ => ?_, fun z => absurd (by decide) z⟩
  refine dies_q J7.1 (fun S8 L8 a8 b8 => ?_)
  have J8 : DJ (t0, t1, g, c, ro, jo, fr, se, fo, le, it, la) S0 S8 L8 := ⟨a8, J7.2.trans b8⟩
  rintro _ rfl
  refine light_q J8.1 (fun S9 L9 a9 b9 => ?_)
  have J9 : DJ (t0, t1, g, c, ro, jo, fr, se, fo, le, it, la) S0 S9 L9 := ⟨a9, J8.2.trans b9⟩
  refine light_q J9.1 (fun S10 L10 a10 b10 => ?_)
  have J10 : DJ (t0, t1, g, c, ro, jo, fr, se, fo, le, it, la) S0 S10 L10 := ⟨a10, J9.2.trans b10⟩
  rintro _ rfl
  refine home_q J10.1 (fun S11 L11 a11 b11 => ?_)
  have J11 : DJ (t0, t1, g, c, ro, jo, fr, se, fo, le, it, la) S0 S11 L11 := ⟨a11, J10.2.trans b11⟩
  refine home_q J11.1 (fun S12 L12 a12 b12 => ?_)
  have J12 : DJ (t0, t1, g, c, ro, jo, fr, se, fo, le, it, la) S0 S12 L12 := ⟨a12, J11.2.trans b12⟩
  rintro _ rfl
  refine ask_q J12.1 (fun S13 L13 a13 b13 => ?_)
  have J13 : DJ (t0, t1, g, c, ro, jo, fr, se, fo, le, it, la) S0 S13 L13 := ⟨a13, J12.2.trans b13⟩
  rintro _ rfl
  refine virtue_q J13.1 (fun S14 L14 a14 b14 => ?_)
  have J14 : DJ (t0, t1, g, c, ro, jo, fr, se, fo, le, it, la) S0 S14 L14 := ⟨a14, J13.2.trans b14⟩
  refine virtue_q J14.1 (fun S15 L15 a15 b15 => ?_)
  have J15 : DJ (t0, t1, g, c, ro, jo, fr, se, fo, le, it, la) S0 S15 L15 := ⟨a15, J14.2.trans b15⟩
  exact h S15 L15 J15
theorem dDeed_c {d : Nat} {b : Int64} {S0 S : zS} {L : zL} (J0 : DJ (t0, t1, g, c, ro, jo, fr, se, fo, le, it, la) S0 S L) (K : ∀ S' L', DJ (t0, t1, g, c, ro, jo, fr, se, fo, le, it, la) S0 S' L' → zU mX10_digest X S' L' 86 [some (.ref 0), some (.long (qDD (t0, t1, g, c, ro, jo, fr, se, fo, le, it, la) b d)), none, some (.int (nI (d + 1))), none] [] (zpl P)) : zU mX10_digest X S L 103 [some (.ref 0), some (.long b), none, some (.int (nI d)), some (.int (0 : Int32))] [] (zpl P) := by
  refine b_X10_digest_103 ⟨fun z => absurd z (by decide), fun _ => ?_⟩
  refine deed_q J0.1 (fun S1 L1 a1 b1 => ?_)
  have J1 : DJ (t0, t1, g, c, ro, jo, fr, se, fo, le, it, la) S0 S1 L1 := ⟨a1, J0.2.trans b1⟩
  rintro _ rfl
  intro x ex; obtain rfl : x = 1 := ex.trans (by decide)
  refine b_X10_digest_103 ⟨fun z => absurd z (by decide), fun _ => ?_⟩
  refine deed_q J1.1 (fun S2 L2 a2 b2 => ?_)
  have J2 : DJ (t0, t1, g, c, ro, jo, fr, se, fo, le, it, la) S0 S2 L2 := ⟨a2, J1.2.trans b2⟩
  rintro _ rfl
  intro x ex; obtain rfl : x = 2 := ex.trans (by decide)
  refine b_X10_digest_103 ⟨fun z => absurd z (by decide), fun _ => ?_⟩
  refine deed_q J2.1 (fun S3 L3 a3 b3 => ?_)
  have J3 : DJ (t0, t1, g, c, ro, jo, fr, se, fo, le, it, la) S0 S3 L3 := ⟨a3, J2.2.trans b3⟩
  rintro _ rfl
  intro x ex; obtain rfl : x = 3 := ex.trans (by decide)
  refine b_X10_digest_103 ⟨fun _ => ?_, fun z => absurd (by decide) z⟩
  refine was_q J3.1 (fun S4 L4 a4 b4 => ?_)
  have J4 : DJ (t0, t1, g, c, ro, jo, fr, se, fo, le, it, la) S0 S4 L4 := ⟨a4, J3.2.trans b4⟩
  refine was_q J4.1 (fun S5 L5 a5 b5 => ?_)
  have J5 : DJ (t0, t1, g, c, ro, jo, fr, se, fo, le, it, la) S0 S5 L5 := ⟨a5, J4.2.trans b5⟩
  rintro _ rfl
  intro x ex
  rw [ex, nI_1]
  exact K S5 L5 J5
theorem dTail_c {b : Int64} {S0 S : zS} {L : zL} (J0 : DJ (t0, t1, g, c, ro, jo, fr, se, fo, le, it, la) S0 S L) (h : ∀ S' L', DJ (t0, t1, g, c, ro, jo, fr, se, fo, le, it, la) S0 S' L' → P (qD6 (t0, t1, g, c, ro, jo, fr, se, fo, le, it, la) b) S' L') : zU mX10_digest X S L 361 [some (.ref 0), some (.long b), none, some (.int (0 : Int32)), none] [] (zpl P) := by
  refine b_X10_digest_361 ⟨fun z => absurd z (by decide), fun _ => ?_⟩
  refine plan_q J0.1 (fun S1 L1 a1 b1 => ?_)
  have J1 : DJ (t0, t1, g, c, ro, jo, fr, se, fo, le, it, la) S0 S1 L1 := ⟨a1, J0.2.trans b1⟩
  rintro _ rfl
  intro x ex; obtain rfl : x = 1 := ex.trans (by decide)
  refine b_X10_digest_361 ⟨fun z => absurd z (by decide), fun _ => ?_⟩
  refine plan_q J1.1 (fun S2 L2 a2 b2 => ?_)
  have J2 : DJ (t0, t1, g, c, ro, jo, fr, se, fo, le, it, la) S0 S2 L2 := ⟨a2, J1.2.trans b2⟩
  rintro _ rfl
  intro x ex; obtain rfl : x = 2 := ex.trans (by decide)
  refine b_X10_digest_361 ⟨fun z => absurd z (by decide), fun _ => ?_⟩
  refine plan_q J2.1 (fun S3 L3 a3 b3 => ?_)
  have J3 : DJ (t0, t1, g, c, ro, jo, fr, se, fo, le, it, la) S0 S3 L3 := ⟨a3, J2.2.trans b3⟩
  rintro _ rfl
  intro x ex; obtain rfl : x = 3 := ex.trans (by decide)
  refine b_X10_digest_361 ⟨fun _ => ?_, fun z => absurd (by decide) z⟩
  refine spare_q J3.1 (fun S4 L4 a4 b4 => ?_)
  have J4 : DJ (t0, t1, g, c, ro, jo, fr, se, fo, le, it, la) S0 S4 L4 := ⟨a4, J3.2.trans b4⟩
  refine spare_q J4.1 (fun S5 L5 a5 b5 => ?_)
  have J5 : DJ (t0, t1, g, c, ro, jo, fr, se, fo, le, it, la) S0 S5 L5 := ⟨a5, J4.2.trans b5⟩
  rintro _ rfl
  refine never_q J5.1 (fun S6 L6 a6 b6 => ?_)
  have J6 : DJ (t0, t1, g, c, ro, jo, fr, se, fo, le, it, la) S0 S6 L6 := ⟨a6, J5.2.trans b6⟩
  rintro _ rfl
  refine years_q J6.1 (fun S7 L7 a7 b7 => ?_)
  have J7 : DJ (t0, t1, g, c, ro, jo, fr, se, fo, le, it, la) S0 S7 L7 := ⟨a7, J6.2.trans b7⟩
  refine years_q J7.1 (fun S8 L8 a8 b8 => ?_)
  have J8 : DJ (t0, t1, g, c, ro, jo, fr, se, fo, le, it, la) S0 S8 L8 := ⟨a8, J7.2.trans b8⟩
  exact h S8 L8 J8
theorem dCloth_c {b : Int64} {S0 S : zS} {L : zL} (J0 : DJ (t0, t1, g, c, ro, jo, fr, se, fo, le, it, la) S0 S L) (h : ∀ S' L', DJ (t0, t1, g, c, ro, jo, fr, se, fo, le, it, la) S0 S' L' → P (qD6 (t0, t1, g, c, ro, jo, fr, se, fo, le, it, la) (qD5 (t0, t1, g, c, ro, jo, fr, se, fo, le, it, la) (qD4 (t0, t1, g, c, ro, jo, fr, se, fo, le, it, la) b))) S' L') : zU mX10_digest X S L 164 [some (.ref 0), some (.long b), none, some (.int (0 : Int32)), none] [] (zpl P) := by
  refine b_X10_digest_164 ⟨fun z => absurd z (by decide), fun _ => ?_⟩
  refine cloth_q J0.1 (fun S1 L1 a1 b1 => ?_)
  have J1 : DJ (t0, t1, g, c, ro, jo, fr, se, fo, le, it, la) S0 S1 L1 := ⟨a1, J0.2.trans b1⟩
  refine cloth_q J1.1 (fun S2 L2 a2 b2 => ?_)
  have J2 : DJ (t0, t1, g, c, ro, jo, fr, se, fo, le, it, la) S0 S2 L2 := ⟨a2, J1.2.trans b2⟩
  rintro _ rfl
  refine cloth_q J2.1 (fun S3 L3 a3 b3 => ?_)
  have J3 : DJ (t0, t1, g, c, ro, jo, fr, se, fo, le, it, la) S0 S3 L3 := ⟨a3, J2.2.trans b3⟩
  refine cloth_q J3.1 (fun S4 L4 a4 b4 => ?_)
  have J4 : DJ (t0, t1, g, c, ro, jo, fr, se, fo, le, it, la) S0 S4 L4 := ⟨a4, J3.2.trans b4⟩
  rintro _ rfl
  intro x ex; obtain rfl : x = 1 := ex.trans (by decide)
  refine b_X10_digest_164 ⟨fun z => absurd z (by decide), fun _ => ?_⟩
  refine cloth_q J4.1 (fun S5 L5 a5 b5 => ?_)
  have J5 : DJ (t0, t1, g, c, ro, jo, fr, se, fo, le, it, la) S0 S5 L5 := ⟨a5, J4.2.trans b5⟩
  refine cloth_q J5.1 (fun S6 L6 a6 b6 => ?_)
  have J6 : DJ (t0, t1, g, c, ro, jo, fr, se, fo, le, it, la) S0 S6 L6 := ⟨a6, J5.2.trans b6⟩
  rintro _ rfl
  refine cloth_q J6.1 (fun S7 L7 a7 b7 => ?_)
  have J7 : DJ (t0, t1, g, c, ro, jo, fr, se, fo, le, it, la) S0 S7 L7 := ⟨a7, J6.2.trans b7⟩
  refine cloth_q J7.1 (fun S8 L8 a8 b8 => ?_)
  have J8 : DJ (t0, t1, g, c, ro, jo, fr, se, fo, le, it, la) S0 S8 L8 := ⟨a8, J7.2.trans b8⟩
  rintro _ rfl
  intro x ex; obtain rfl : x = 2 := ex.trans (by decide)
  refine b_X10_digest_164 ⟨fun z => absurd z (by decide), fun _ => ?_⟩
  refine cloth_q J8.1 (fun S9 L9 a9 b9 => ?_)
  have J9 : DJ (t0, t1, g, c, ro, jo, fr, se, fo, le, it, la) S0 S9 L9 := ⟨a9, J8.2.trans b9⟩
  refine cloth_q J9.1 (fun S10 L10 a10 b10 => ?_)
  have J10 : DJ (t0, t1, g, c, ro, jo, fr, se, fo, le, it, la) S0 S10 L10 := ⟨a10, J9.2.trans b10⟩
  rintro _ rfl
  refine cloth_q J10.1 (fun S11 L11 a11 b11 => ?_)
  have J11 : DJ (t0, t1, g, c, ro, jo, fr, se, fo, le, it, la) S0 S11 L11 := ⟨a11, J10.2.trans b11⟩
  refine cloth_q J11.1 (fun S12 L12 a12 b12 => ?_)
  have J12 : DJ (t0, t1, g, c, ro, jo, fr, se, fo, le, it, la) S0 S12 L12 := ⟨a12, J11.2.trans b12⟩
  rintro _ rfl
  intro x ex; obtain rfl : x = 3 := ex.trans (by decide)
  refine b_X10_digest_164 ⟨fun z => absurd z (by decide), fun _ => ?_⟩
  refine cloth_q J12.1 (fun S13 L13 a13 b13 => ?_)
  have J13 : DJ (t0, t1, g, c, ro, jo, fr, se, fo, le, it, la) S0 S13 L13 := ⟨a13, J12.2.trans b13⟩
  refine cloth_q J13.1 (fun S14 L14 a14 b14 => ?_)
  have J14 : DJ (t0, t1, g, c, ro, jo, fr, se, fo, le, it, la) S0 S14 L14 := ⟨a14, J13.2.trans b14⟩
  rintro _ rfl
  refine cloth_q J14.1 (fun S15 L15 a15 b15 => ?_)
  have J15 : DJ (t0, t1, g, c, ro, jo, fr, se, fo, le, it, la) S0 S15 L15 := ⟨a15, J14.2.trans b15⟩
  refine cloth_q J15.1 (fun S16 L16 a16 b16 => ?_)
  have J16 : DJ (t0, t1, g, c, ro, jo, fr, se, fo, le, it, la) S0 S16 L16 := ⟨a16, J15.2.trans b16⟩
  rintro _ rfl
  intro x ex; obtain rfl : x = 4 := ex.trans (by decide)
  refine b_X10_digest_164 ⟨fun _ => ?_, fun z => absurd (by decide) z⟩
  refine thorn_q J16.1 (fun S17 L17 a17 b17 => ?_)
  have J17 : DJ (t0, t1, g, c, ro, jo, fr, se, fo, le, it, la) S0 S17 L17 := ⟨a17, J16.2.trans b17⟩
  refine heaviest_q J17.1 (fun S18 L18 a18 b18 => ?_)
  have J18 : DJ (t0, t1, g, c, ro, jo, fr, se, fo, le, it, la) S0 S18 L18 := ⟨a18, J17.2.trans b18⟩
  rintro _ rfl
  refine thorn_q J18.1 (fun S19 L19 a19 b19 => ?_)
  have J19 : DJ (t0, t1, g, c, ro, jo, fr, se, fo, le, it, la) S0 S19 L19 := ⟨a19, J18.2.trans b19⟩
  refine heaviest_q J19.1 (fun S20 L20 a20 b20 => ?_)
  have J20 : DJ (t0, t1, g, c, ro, jo, fr, se, fo, le, it, la) S0 S20 L20 := ⟨a20, J19.2.trans b20⟩
  rintro _ rfl
  refine thorn_q J20.1 (fun S21 L21 a21 b21 => ?_)
  have J21 : DJ (t0, t1, g, c, ro, jo, fr, se, fo, le, it, la) S0 S21 L21 := ⟨a21, J20.2.trans b21⟩
  refine heaviest_q J21.1 (fun S22 L22 a22 b22 => ?_)
  have J22 : DJ (t0, t1, g, c, ro, jo, fr, se, fo, le, it, la) S0 S22 L22 := ⟨a22, J21.2.trans b22⟩
  rintro _ rfl
  refine tax_q J22.1 (fun S23 L23 a23 b23 => ?_)
  have J23 : DJ (t0, t1, g, c, ro, jo, fr, se, fo, le, it, la) S0 S23 L23 := ⟨a23, J22.2.trans b23⟩
  refine tax_q J23.1 (fun S24 L24 a24 b24 => ?_)
  have J24 : DJ (t0, t1, g, c, ro, jo, fr, se, fo, le, it, la) S0 S24 L24 := ⟨a24, J23.2.trans b24⟩
  rintro _ rfl
  refine first_q J24.1 (fun S25 L25 a25 b25 => ?_)
  have J25 : DJ (t0, t1, g, c, ro, jo, fr, se, fo, le, it, la) S0 S25 L25 := ⟨a25, J24.2.trans b25⟩
  refine first_q J25.1 (fun S26 L26 a26 b26 => ?_)
  have J26 : DJ (t0, t1, g, c, ro, jo, fr, se, fo, le, it, la) S0 S26 L26 := ⟨a26, J25.2.trans b26⟩
  rintro _ rfl
  exact dTail_c J26 h
theorem dDeeds_c {S0 : zS} : ∀ (e d : Nat) (b : Int64) (S : zS) (L : zL), d + e = (tL 3 t1).length → (tL 3 t1).length ≤ 10 → DJ (t0, t1, g, c, ro, jo, fr, se, fo, le, it, la) S0 S L → (∀ S' L', DJ (t0, t1, g, c, ro, jo, fr, se, fo, le, it, la) S0 S' L' → P (qD6 (t0, t1, g, c, ro, jo, fr, se, fo, le, it, la) (qD5 (t0, t1, g, c, ro, jo, fr, se, fo, le, it, la) (qD4 (t0, t1, g, c, ro, jo, fr, se, fo, le, it, la) ((List.range' d e).foldl (qDD (t0, t1, g, c, ro, jo, fr, se, fo, le, it, la)) b)))) S' L') → zU mX10_digest X S L 86 [some (.ref 0), some (.long b), none, some (.int (nI d)), none] [] (zpl P) := by
  intro e
  induction e with
  | zero =>
    intro d b S L hd hl J h
    refine b_X10_digest_86 ⟨fun _ => dCloth_c J h, fun z => absurd ?_ z⟩
    rw [J.1.nd]; exact nI_le (by omega) (by omega)
  | succ e ih =>
    intro d b S L hd hl J h
    rw [List.range'_succ, List.foldl_cons] at h
    refine b_X10_digest_86 ⟨fun z => absurd z ?_, fun _ => dDeed_c J (fun S' L' J' => ih (d + 1) _ S' L' (by omega) hl J' h)⟩
    rw [J.1.nd]; exact nI_ge (by omega) (by omega)
theorem dPeople_c {S0 : zS} : ∀ (e p : Nat) (b : Int64) (S : zS) (L : zL), p + e = (tL 0 t0).length → (tL 0 t0).length ≤ 8 ∧ (tL 3 t1).length ≤ 10 → DJ (t0, t1, g, c, ro, jo, fr, se, fo, le, it, la) S0 S L → (∀ S' L', DJ (t0, t1, g, c, ro, jo, fr, se, fo, le, it, la) S0 S' L' → P (qD6 (t0, t1, g, c, ro, jo, fr, se, fo, le, it, la) (qD5 (t0, t1, g, c, ro, jo, fr, se, fo, le, it, la) (qD4 (t0, t1, g, c, ro, jo, fr, se, fo, le, it, la) ((List.range (tL 3 t1).length).foldl (qDD (t0, t1, g, c, ro, jo, fr, se, fo, le, it, la)) ((List.range' p e).foldl (qDP (t0, t1, g, c, ro, jo, fr, se, fo, le, it, la)) b))))) S' L') → zU mX10_digest X S L 57 [some (.ref 0), some (.long b), none, some (.int (nI p)), none] [] (zpl P) := by
  intro e
  induction e with
  | zero =>
    intro p b S L hd hl J h
    refine b_X10_digest_57 ⟨fun _ => dDeeds_c (tL 3 t1).length 0 _ S L (by omega) hl.2 J (fun S' L' J' => ?_), fun z => absurd ?_ z⟩
    · rw [← List.range_eq_range']; exact h S' L' J'
    · rw [J.1.np]; exact nI_le (by omega) (by omega)
  | succ e ih =>
    intro p b S L hd hl J h
    rw [List.range'_succ, List.foldl_cons] at h
    refine b_X10_digest_57 ⟨fun z => absurd z ?_, fun _ => dPerson_c J (fun S' L' J' x ex => ?_)⟩
    · rw [J.1.np]; exact nI_ge (by omega) (by omega)
    · rw [ex, nI_1]
      exact ih (p + 1) _ S' L' (by omega) hl J' h
theorem digest_q {S : zS} {L : zL} (hI : cI (t0, t1, g, c, ro, jo, fr, se, fo, le, it, la) S L) (h : ∀ S' L', cI (t0, t1, g, c, ro, jo, fr, se, fo, le, it, la) S' L' → oM S S' → P (qDg (t0, t1, g, c, ro, jo, fr, se, fo, le, it, la)) S' L') : zCl mX10_digest S L [.ref 0] P := by
  have hl := hI.2.2.2.1.len
  have J0 : DJ (t0, t1, g, c, ro, jo, fr, se, fo, le, it, la) S S L := ⟨hI, oM.rf⟩
  refine e_X10_digest (fun X => b_X10_digest_0 ?_)
  refine b_X10_digest_6 ⟨fun z => absurd z (by decide), fun _ => ?_⟩
  refine count_q J0.1 (fun S1 L1 a1 b1 => ?_)
  have J1 : DJ (t0, t1, g, c, ro, jo, fr, se, fo, le, it, la) S S1 L1 := ⟨a1, J0.2.trans b1⟩
  rintro _ rfl
  intro x ex; obtain rfl : x = 1 := ex.trans (by decide)
  refine b_X10_digest_6 ⟨fun z => absurd z (by decide), fun _ => ?_⟩
  refine count_q J1.1 (fun S2 L2 a2 b2 => ?_)
  have J2 : DJ (t0, t1, g, c, ro, jo, fr, se, fo, le, it, la) S S2 L2 := ⟨a2, J1.2.trans b2⟩
  rintro _ rfl
  intro x ex; obtain rfl : x = 2 := ex.trans (by decide)
  refine b_X10_digest_6 ⟨fun z => absurd z (by decide), fun _ => ?_⟩
  refine count_q J2.1 (fun S3 L3 a3 b3 => ?_)
  have J3 : DJ (t0, t1, g, c, ro, jo, fr, se, fo, le, it, la) S S3 L3 := ⟨a3, J2.2.trans b3⟩
  rintro _ rfl
  intro x ex; obtain rfl : x = 3 := ex.trans (by decide)
  refine b_X10_digest_6 ⟨fun z => absurd z (by decide), fun _ => ?_⟩
  refine count_q J3.1 (fun S4 L4 a4 b4 => ?_)
  have J4 : DJ (t0, t1, g, c, ro, jo, fr, se, fo, le, it, la) S S4 L4 := ⟨a4, J3.2.trans b4⟩
  rintro _ rfl
  intro x ex; obtain rfl : x = 4 := ex.trans (by decide)
  refine b_X10_digest_6 ⟨fun z => absurd z (by decide), fun _ => ?_⟩
  refine count_q J4.1 (fun S5 L5 a5 b5 => ?_)
  have J5 : DJ (t0, t1, g, c, ro, jo, fr, se, fo, le, it, la) S S5 L5 := ⟨a5, J4.2.trans b5⟩
  rintro _ rfl
  intro x ex; obtain rfl : x = 5 := ex.trans (by decide)
  refine b_X10_digest_6 ⟨fun z => absurd z (by decide), fun _ => ?_⟩
  refine count_q J5.1 (fun S6 L6 a6 b6 => ?_)
  have J6 : DJ (t0, t1, g, c, ro, jo, fr, se, fo, le, it, la) S S6 L6 := ⟨a6, J5.2.trans b6⟩
  rintro _ rfl
  intro x ex; obtain rfl : x = 6 := ex.trans (by decide)
  refine b_X10_digest_6 ⟨fun z => absurd z (by decide), fun _ => ?_⟩
  refine count_q J6.1 (fun S7 L7 a7 b7 => ?_)
  have J7 : DJ (t0, t1, g, c, ro, jo, fr, se, fo, le, it, la) S S7 L7 := ⟨a7, J6.2.trans b7⟩
  rintro _ rfl
  intro x ex; obtain rfl : x = 7 := ex.trans (by decide)
  refine b_X10_digest_6 ⟨fun z => absurd z (by decide), fun _ => ?_⟩
  refine count_q J7.1 (fun S8 L8 a8 b8 => ?_)
  have J8 : DJ (t0, t1, g, c, ro, jo, fr, se, fo, le, it, la) S S8 L8 := ⟨a8, J7.2.trans b8⟩
  rintro _ rfl
  intro x ex; obtain rfl : x = 8 := ex.trans (by decide)
  refine b_X10_digest_6 ⟨fun _ => ?_, fun z => absurd (by decide) z⟩
  refine fault_q J8.1 (fun S9 L9 a9 b9 => ?_)
  have J9 : DJ (t0, t1, g, c, ro, jo, fr, se, fo, le, it, la) S S9 L9 := ⟨a9, J8.2.trans b9⟩
  refine fault_q J9.1 (fun S10 L10 a10 b10 => ?_)
  have J10 : DJ (t0, t1, g, c, ro, jo, fr, se, fo, le, it, la) S S10 L10 := ⟨a10, J9.2.trans b10⟩
  rintro _ rfl
  refine dPeople_c (tL 0 t0).length 0 _ S10 L10 (by omega) ⟨hl.1, hl.2.1⟩ J10 (fun S' L' J' => ?_)
  rw [← List.range_eq_range']
  exact h S' L' J'.1 J'.2
end DGC
