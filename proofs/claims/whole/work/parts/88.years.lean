/-! OTHER YEARS -/
def lotN (s : Int32) : Int32 := (1103515245 : Int32) * s + (12345 : Int32)
abbrev lotH (s : Int32) : Int32 := (s.toUInt32 >>> ((16 : Int32).toUInt32 &&& Int32.toUInt32 31)).toInt32
abbrev lotV (s m : Int32) : Int32 := lotH s - lotH s / m * m
def pYd (np : Int32) : Nat → Int32 → List T3
  | 0, _ => []
  | n + 1, s => (lotV (lotN s) 24, lotV (lotN (lotN s)) np, lotV (lotN (lotN (lotN s))) 4) :: pYd np n (lotN (lotN (lotN s)))
theorem lotH_n (s : Int32) : ∃ q, q < 65536 ∧ lotH s = nI q := by
  have h := pk_ushr s 16 16 (by decide)
  refine ⟨s.toBitVec.toNat / 2 ^ 16, ?_, ?_⟩
  · have := s.toBitVec.isLt; omega
  · have hl : s.toBitVec.toNat / 2 ^ 16 < 2 ^ 32 := by have := s.toBitVec.isLt; omega
    refine Int32.toBitVec_inj.mp (BitVec.eq_of_toNat_eq ?_)
    rw [h, pk_tn hl]
theorem lotV_n (s : Int32) {m : Nat} (h0 : 0 < m) (hm : m < 2000) : ∃ q, q < m ∧ lotV s (nI m) = nI q := by
  obtain ⟨q, hq, hqe⟩ := lotH_n s
  refine ⟨q % m, Nat.mod_lt _ h0, ?_⟩
  unfold lotV
  rw [hqe, pk_rem (by omega) h0 (by omega)]
theorem pYd_len (np : Int32) : ∀ n s, (pYd np n s).length = n
  | 0, _ => rfl
  | n + 1, s => by rw [pYd, List.length_cons, pYd_len np n]
theorem pYd_ok (np : Int32) : ∀ n s, ∀ e ∈ pYd np n s, deE e
  | 0, _ => fun e he => by cases he
  | n + 1, s => fun e he => by
    rw [pYd] at he
    rcases List.mem_cons.mp he with rfl | he
    · exact lotV_n (lotN s) (m := 24) (by omega) (by omega)
    · exact pYd_ok np n _ e he
def pYl (np : Nat) (n : Nat) (s : Int32) : List T3 := if np = 0 then [] else pYd (nI np) n s
section YR
variable {pe de ro jo fr se : List T3} {g c : Int32} {L : zL} {X : Nat × (Nat → Int32)}
theorem lot_s {m : Nat} {S : zS} {P : Int32 → zS → zL → Prop} (h0 : 0 < m) (hm : m < 2000) (h : ∀ S', S' 65 = upd (S 65) 5 (lotN (S 65 5)) → (∀ j, j ≠ 65 → S' j = S j) → P (lotV (lotN (S 65 5)) (nI m)) S' L) : zCi mX0_lot S L [.ref 65, .int (nI m)] P := by
  refine e_X0_lot (fun X => b_X0_lot_0 (fun S1 e1 => ?_))
  have a : S1 65 = upd (S 65) 5 (lotN (S 65 5)) := by rw [e1, zc_eq]; rfl
  have b : S1 65 5 = lotN (S 65 5) := by rw [a, upd, if_pos rfl]
  rw [b]
  refine ⟨fun z => absurd z (nI_nle h0 (by omega)), fun _ => ⟨nI_ne0 h0 (by omega), ?_⟩⟩
  exact h S1 a (fun j hj => by rw [e1, zc_ne _ _ hj])
theorem ry_l {S0 : zS} {P : zS → zL → Prop} (hW : xW pe de ro jo fr) {n : Nat} (hn : n ≤ 10) (h : ∀ de' S', de'.length ≤ 10 → (∀ e ∈ de', deE e) → cRun S' 52 pe de' ro jo fr g c 24 → (∀ j, j < 31 ∨ 55 < j → j ≠ 65 → S' j = S0 j) → (∀ i, i ≠ 5 → S' 65 i = S0 65 i) → S' 32 3 = nI pe.length → (∃ s, de' = pYl pe.length n s ∧ s = S0 65 5) → P S' L) : ∀ (d i : Nat) (acc : List T3) (s : Int32) (S : zS), i + d = n → acc.length = i → zT S 31 pe acc ro jo fr g c → (∀ e ∈ acc, deE e) → (∀ j, j < 31 ∨ 55 < j → j ≠ 65 → S j = S0 j) → (∀ i, i ≠ 5 → S 65 i = S0 65 i) → S 65 5 = s → (pe.length = 0 → acc = []) → (¬ pe.length = 0 → pYd (nI pe.length) n (S0 65 5) = acc ++ pYd (nI pe.length) d s) → zU mX0_runYears X S L 43 [some (.ref 65), none, some (.int (nI n)), some (.int (nI pe.length)), some (.int (nI i)), none, none, none] [] (zpv P) := by
  have hlen := hW.1.1
  have fin : ∀ (acc : List T3) (S : zS), acc.length ≤ n → zT S 31 pe acc ro jo fr g c → (∀ e ∈ acc, deE e) → (∀ j, j < 31 ∨ 55 < j → j ≠ 65 → S j = S0 j) → (∀ i, i ≠ 5 → S 65 i = S0 65 i) → acc = pYl pe.length n (S0 65 5) → zCv mX2_run S L [.ref 52, .int (23 : Int32)] (fun S1 L1 => P S1 L1) := by
    intro acc S ha hT hd f1 f2 hacc
    refine run52_s (hW.to_de (by omega) hd) hT (fun S3 hC3 o3 => ?_)
    exact h acc S3 (by omega) hd hC3 (fun j a b => (o3 j (by omega)).trans (f1 j a b)) (fun i hi => by rw [o3 65 (by omega)]; exact f2 i hi) (by rw [o3 32 (by omega)]; exact hT.1.1) ⟨_, hacc, rfl⟩
  intro d
  induction d with
  | zero =>
    intro i acc s S hd hal hT hdd f1 f2 hs h0 h1
    refine b_X0_runYears_43 ⟨fun _ => fin acc S (by omega) hT hdd f1 f2 ?_, fun z => absurd (nI_le (by omega) (by omega)) z⟩
    unfold pYl
    by_cases hz : pe.length = 0
    · rw [if_pos hz]; exact h0 hz
    · rw [if_neg hz, h1 hz, pYd, List.append_nil]
  | succ d ih =>
    intro i acc s S hd hal hT hdd f1 f2 hs h0 h1
    refine b_X0_runYears_43 ⟨fun z => absurd z (nI_ge (by omega) (by omega)), fun _ => ⟨fun z => fin acc S (by omega) hT hdd f1 f2 ?_, fun z => ?_⟩⟩
    · have hz : pe.length = 0 := by
        have : pe.length ≤ 0 := (nI_leI (b := 0) (by omega) (by omega)).mp z
        omega
      unfold pYl
      rw [if_pos hz]; exact h0 hz
    · have hp : 0 < pe.length := by
        rcases Nat.eq_zero_or_pos pe.length with y | y
        · rw [y] at z; exact absurd (by decide) z
        · exact y
      refine lot_s (m := 24) (by omega) (by omega) (fun S1 a1 b1 => ?_)
      have c1 : S1 65 5 = lotN s := by rw [a1, upd, if_pos rfl, hs]
      refine lot_s (m := pe.length) hp (by omega) (fun S2 a2 b2 => ?_)
      have c2 : S2 65 5 = lotN (lotN s) := by rw [a2, upd, if_pos rfl, c1]
      refine lot_s (m := 4) (by omega) (by omega) (fun S3 a3 b3 => ?_)
      have c3 : S3 65 5 = lotN (lotN (lotN s)) := by rw [a3, upd, if_pos rfl, c2]
      have b : ∀ j, j ≠ 65 → S3 j = S j := fun j hj => (b3 j hj).trans ((b2 j hj).trans (b1 j hj))
      rw [hs, c1, c2]
      have hT3 : zT S3 31 pe acc ro jo fr g c := hT.out (fun j a b' => b j (by omega))
      refine rows_append (n := 10) zTo31.2.2.1 hT3.2.1 (by omega) (by omega) (fun S4 hR4 o4 x1 ex1 => ?_)
      rw [ex1, nI_1]
      have hz : ¬ pe.length = 0 := by omega
      refine ih (i + 1) (acc ++ [(lotV (lotN s) (nI 24), lotV (lotN (lotN s)) (nI pe.length), lotV (lotN (lotN (lotN s))) (nI 4))]) (lotN (lotN (lotN s))) S4 (by omega) (by simp; omega) (zT_de hT3 hR4 o4) (fun e he => ?_) (fun j p q => (o4 j (by omega)).trans ((b j q).trans (f1 j p q))) (fun i hi => ?_) (by rw [o4 65 (by omega)]; exact c3) (fun y => absurd y hz) (fun _ => ?_)
      · rcases List.mem_append.mp he with y | y
        · exact hdd e y
        · rw [List.mem_singleton.mp y]; exact lotV_n (lotN s) (m := 24) (by omega) (by omega)
      · rw [o4 65 (by omega), a3, upd, if_neg hi, a2, upd, if_neg hi, a1, upd, if_neg hi]; exact f2 i hi
      · rw [h1 hz, pYd, List.append_cons]; rfl
theorem runYears_s {S : zS} {P : zS → zL → Prop} (hQ : cQ pe de ro jo fr se g c S L) {n : Nat} {seed : Int32} (hn : n ≤ 10) (h : ∀ S', cQ pe de ro jo fr se g c S' L → qF S S' → cRun S' 52 pe (pYl pe.length n seed) ro jo fr g c 24 → S' 32 3 = nI pe.length → P S' L) : zCv mX0_runYears S L [.ref 65, .int seed, .int (nI n)] P := by
  have hQ0 := hQ
  obtain ⟨hT, hW, hR, hA, hM, hB, hH, hWi, hV⟩ := hQ
  refine e_X0_runYears (fun X => b_X0_runYears_0 (afresh_s hW.1.1.1 hT (fun S1 hT1 o1 S2 e2 S3 e3 x1 ex1 => ?_)))
  have n3 : ∀ j, j ≠ 36 → j ≠ 65 → S3 j = S1 j := fun j a b => by rw [e3, zc_ne _ _ b, e2, zc_ne _ _ a]
  have h65 : S3 65 = upd (S 65) 5 seed := by rw [e3, zc_eq, e2, zc_ne _ _ (by omega), o1 65 (by omega)]
  have h36 : S3 36 3 = 0 := by rw [e3, zc_ne _ _ (by omega), e2, zc_eq, upd, if_pos rfl]
  have o13 : zOut 36 39 S1 (zc S1 36 (upd (S1 36) 3 0)) := zOut.zc (by omega) (by omega)
  have hT2 : zT S2 31 pe [] ro jo fr g c := zT_de hT1 (by rw [e2]; exact ⟨by rw [zc_eq, upd, if_pos rfl]; rfl, fun i e he => by simp at he⟩) (by rw [e2]; exact o13)
  have hT3 : zT S3 31 pe [] ro jo fr g c := hT2.out (fun j a b => by rw [e3, zc_ne _ _ (by omega)])
  have hx : x1 = nI pe.length := by rw [ex1]; exact hT3.1.1
  rw [hx]
  refine ry_l (S0 := S3) hW.1 hn (fun de' S' _ _ hC k1 k2 k3 hde => ?_) n 0 [] seed S3 (by omega) rfl hT3 (fun e he => by cases he) (fun _ _ _ => rfl) (fun _ _ => rfl) (by rw [h65, upd, if_pos rfl]) (fun _ => rfl) (fun _ => by rw [h65, upd, if_pos rfl]; rfl)
  obtain ⟨s, hde, hs⟩ := hde
  rw [h65, upd, if_pos rfl] at hs
  subst hs
  rw [hde] at hC
  have o : ∀ j, j < 31 ∨ 55 < j → j ≠ 65 → S' j = S j := fun j a b => (k1 j a b).trans ((n3 j (by omega) b).trans (o1 j (by omega)))
  have o65 : ∀ i, i ≠ 5 → S' 65 i = S 65 i := fun i hi => by rw [k2 i hi, h65, upd, if_neg hi]
  have hq : qF S S' := fun j hj => o j (by omega) (by omega)
  exact h S' (hQ0.keep hq (hA.keep (o _ (by omega) (by omega)) (o _ (by omega) (by omega)) (o _ (by omega) (by omega)) (o _ (by omega) (by omega))) (hM.keep (by rw [o 56 (by omega) (by omega)]) (o _ (by omega) (by omega))) (hB.keep (fun i _ _ => by rw [o 56 (by omega) (by omega)])) (hH.keep (fun i _ => by rw [o 56 (by omega) (by omega)])) (hWi.keep (o _ (by omega) (by omega)) (o _ (by omega) (by omega))) (hV.keep (o65 3 (by omega)) (o65 4 (by omega)) rfl rfl)) hq hC k3
end YR
def aYears (pe ro jo fr : List T3) (g c : Int32) (seed n w : Int32) : Int32 := if ((1 : Int32) ≤ n ∧ n ≤ (10 : Int32)) ∧ ((0 : Int32) ≤ w ∧ w ≤ (1 : Int32)) then (if w = 0 then pWr (pCf pe (pYl pe.length n.toNatClampNeg seed) ro jo fr g c 24).1 else pTx pe.length (pCf pe (pYl pe.length n.toNatClampNeg seed) ro jo fr g c 12) + pTx pe.length (pCf pe (pYl pe.length n.toNatClampNeg seed) ro jo fr g c 24)) else -2
section QY
variable {pe de ro jo fr se : List T3} {g c : Int32} {S : zS} {L : zL} {P : Int32 → zS → zL → Prop}
theorem rng_10 {x : Int32} (h : (1 : Int32) ≤ x ∧ x ≤ (10 : Int32)) : ∃ j, 1 ≤ j ∧ j ≤ 10 ∧ x = nI j := by
  obtain ⟨j, hj, rfl⟩ := rng_lit (n := 10) rfl (by omega) ⟨Int32.le_trans (by decide) h.1, h.2⟩
  exact ⟨j, (nI_leI (a := 1) (by omega) (by omega)).mp h.1, hj, rfl⟩
theorem years_c {seed n w : Int32} (hQ : cQ pe de ro jo fr se g c S L) (h : ∀ S', cQ pe de ro jo fr se g c S' L → qF S S' → P (aYears pe ro jo fr g c seed n w) S' L) : zCi mX10_years S L [.ref 0, .int seed, .int n, .int w] P := by
  have hl := hQ.len
  refine e_X10_years (fun X => b_X10_years_0 ⟨fun q1 => ⟨fun q2 => ?_, fun z => ?_⟩, fun z => ?_⟩)
  · rw [aYears, if_pos ⟨q1, q2⟩] at h
    obtain ⟨n, h1, h2, rfl⟩ := rng_10 q1
    rw [cl_nI (by omega)] at h
    refine runYears_s hQ h2 (fun S' hQ' hq hC h32 => ⟨fun z => ?_, fun z => ?_⟩)
    · rw [if_neg z] at h
      exact tax_s (m := 11) zCo2 hl.1 h32 hC (by omega) (tax_s (m := 23) zCo2 hl.1 h32 hC (by omega) (h S' hQ' hq))
    · rw [if_pos z] at h
      exact worthAll_s zCo2 hC (h S' hQ' hq)
  · rw [aYears, if_neg (fun y => z y.2)] at h; exact h S hQ qF.rf
  · rw [aYears, if_neg (fun y => z y.1)] at h; exact h S hQ qF.rf
end QY
