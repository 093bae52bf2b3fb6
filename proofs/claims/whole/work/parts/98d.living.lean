/-! FROSTS BY CHANCE: who lives -/
theorem pcb_hi {T n : Nat} (hT : T < 2 ^ n) : ∀ d, pcb (n + d) T = pcb n T
  | 0 => rfl
  | d + 1 => by rw [show n + (d + 1) = (n + d) + 1 by omega, pcb, tb_lt hT (by omega)]; exact pcb_hi hT d
theorem sbw_hd (T : Nat) : ∀ n, ∃ r, sbw T n = (0, 0) :: r
  | 0 => ⟨[], rfl⟩
  | n + 1 => by
    obtain ⟨r, hr⟩ := sbw_hd T n
    rw [sbw]
    split
    · exact ⟨_, by rw [hr]; rfl⟩
    · exact ⟨r, hr⟩
def prt (q t : Nat) (A : Nat → Bool) (l : List (Nat × Nat)) : Nat := (l.map (fun x => if A x.1 = true then q ^ x.2 * (16 - q) ^ (t - x.2) else 0)).sum
theorem prt_app {q t : Nat} {A : Nat → Bool} {l : List (Nat × Nat)} {x : Nat × Nat} : prt q t A (l ++ [x]) = prt q t A l + (if A x.1 = true then q ^ x.2 * (16 - q) ^ (t - x.2) else 0) := by
  unfold prt; rw [List.map_append, List.sum_append]; simp
theorem n_sub {a b : Nat} (h : b ≤ a) (ha : a < 2000) : nI a - nI b = nI (a - b) := by
  have : nI a = nI (a - b) + nI b := by rw [nI_add, Nat.sub_add_cancel h]
  rw [this, Int32.add_sub_cancel]
section VF
variable {pe de ro jo fr se : List T3} {g c : Int32} {X : Nat × (Nat → Int32)}
theorem fl_l {q la T : Nat} {S0 : zS} {L0 : zL} {P : zS → zL → Prop} (hW : sW pe de ro jo fr se) (hT5 : zT S0 5 pe de ro jo fr g c) (hq : q ≤ 16) (hla : la ≤ 9) (hT : isT ro T (la + 1)) (h : ∀ S' L', (∀ j, j < 31 ∨ 55 < j → S' j = S0 j) → (∀ j, j ≠ 66 → L' j = L0 j) → (∀ p, p < 8 → L' 66 p = lN (Sb q T (la + 1) (pcb (la + 1) T) (alv pe de ro jo g c p))) → zU mX0_findLiving X S' L' 173 [some (.ref 65), none, none, none, none, none, some (.int (0 : Int32)), none, none, none] [] (zpv P)) : ∀ (rest pre : List (Nat × Nat)) (f : Int32) (S : zS) (L : zL), sbw T (la + 1) = pre ++ rest → (∀ x r, rest = x :: r → f = nI x.1) → chn T rest = true → (∀ j, j < 31 ∨ 55 < j → S j = S0 j) → (∀ j, j ≠ 66 → L j = L0 j) → (∀ p, p < 8 → L 66 p = lN (prt q (pcb (la + 1) T) (alv pe de ro jo g c p) pre)) → zU mX0_findLiving X S L 81 [some (.ref 65), some (.int (nI q)), some (.int (nI la)), some (.int (nI T)), some (.int (nI (pcb (la + 1) T))), some (.int f), some (.int (nI pre.length)), none, none, none] [] (zpv P) := by
  have ht := pcb_le (la + 1) T
  have hp10 : (2 : Nat) ^ (la + 1) ≤ 2 ^ 10 := Nat.pow_le_pow_right (by decide) (by omega)
  have hpt : (2 : Nat) ^ pcb (la + 1) T ≤ 2 ^ 10 := Nat.pow_le_pow_right (by decide) (by omega)
  have hlen := sbw_len T (la + 1)
  intro rest
  induction rest with
  | nil =>
    intro pre f S L hs hf hc h1 h2 h3
    rw [List.append_nil] at hs
    refine b_X0_findLiving_81 ⟨fun _ => h S L h1 h2 (fun p hp => ?_), fun z => absurd ?_ z⟩
    · rw [h3 p hp, ← hs]; rfl
    · rw [shl_tab _ (by omega), ← hlen, hs]
      exact nI_le (Nat.le_refl _) (by rw [← hs, hlen]; omega)
  | cons x rest ih =>
    intro pre f S L hs hf hc h1 h2 h3
    have hx : x ∈ sbw T (la + 1) := by rw [hs]; simp
    have hxl := sbw_lt T (la + 1) x hx
    have hxt := sbw_le T (la + 1) x hx
    have hxs := sbw_sub T (la + 1) x hx
    have hck := chk_ok (T := T) (n := la + 1) (by omega) hT.1
    unfold chk at hck
    have hx2 : pcb 10 x.1 = x.2 := eq_of_beq (List.all_eq_true.mp (Bool.and_eq_true_iff.mp hck).2 x hx)
    have hfe : f = nI x.1 := hf x rest rfl
    have hi : pre.length < 2 ^ pcb (la + 1) T := by
      rw [← hlen, hs, List.length_append, List.length_cons]; omega
    have K : ∀ (S' : zS) (L' : zL), (∀ j, j < 31 ∨ 55 < j → S' j = S0 j) → (∀ j, j ≠ 66 → L' j = L0 j) → (∀ p, p < 8 → L' 66 p = lN (prt q (pcb (la + 1) T) (alv pe de ro jo g c p) (pre ++ [x]))) → zU mX0_findLiving X S' L' 156 [some (.ref 65), some (.int (nI q)), some (.int (nI la)), some (.int (nI T)), some (.int (nI (pcb (la + 1) T))), some (.int (nI x.1)), some (.int (nI pre.length)), none, none, none] [] (zpv P) := by
      intro S' L' k1 k2 k3
      refine b_X0_findLiving_156 (fun x1 e1 x2 e2 => ?_)
      have := ih (pre ++ [x]) x1 S' L' (by rw [hs]; simp) (fun y r hy => ?_) ?_ k1 k2 k3
      · rw [List.length_append] at this
        rw [e2, nI_1]; exact this
      · rw [hy, chn] at hc
        have := eq_of_beq (Bool.and_eq_true_iff.mp hc).1
        rw [e1, sub_and (by omega) (by have := hT.1; omega), this]
      · cases rest with
        | nil => rfl
        | cons y r =>
          rw [chn] at hc
          exact (Bool.and_eq_true_iff.mp hc).2
    refine b_X0_findLiving_81 ⟨fun z => absurd z ?_, fun _ => ?_⟩
    · rw [shl_tab _ (by omega)]; exact nI_ge hi (by omega)
    rw [hfe]
    refine bitCount_s (by omega) ?_
    rw [hx2]
    refine power_s (by omega) (by omega) ?_
    rw [show (16 : Int32) - nI q = nI (16 - q) from n_sub (a := 16) hq (by omega), n_sub hxt (by omega)]
    refine power_s (by omega) (by omega) (fun z1 e1 => ?_)
    rw [lN_mul] at e1
    have hw := wt_le q hq hxt
    have hw2 : (16 : Nat) ^ pcb (la + 1) T ≤ 16 ^ 10 := Nat.pow_le_pow_right (by decide) (by omega)
    have hw3 : q ^ x.2 * (16 - q) ^ (pcb (la + 1) T - x.2) < 2 ^ 63 := Nat.lt_of_le_of_lt (Nat.le_trans hw hw2) (by decide)
    refine ⟨fun z => ?_, fun z => ?_⟩
    · rw [cmp_le0, e1] at z
      have h0 : q ^ x.2 * (16 - q) ^ (pcb (la + 1) T - x.2) = 0 := by
        rcases Nat.eq_zero_or_pos (q ^ x.2 * (16 - q) ^ (pcb (la + 1) T - x.2)) with y | y
        · exact y
        · exact absurd ((pk_lLT (a := 0) (by omega) hw3).mpr y) z
      refine K S L h1 h2 (fun p hp => ?_)
      rw [prt_app, h0, h3 p hp]
      split <;> rfl
    · have hTS : zT S 5 pe de ro jo fr g c := hT5.out (fun j a b => h1 j (by omega))
      refine afresh_s hW.1.1.1 hTS (fun S1 hT1 o1 => ?_)
      have hfl : ∀ k, k ≤ la + 1 → (fsl x.1 k).length ≤ 8 := fun k hk => Nat.le_trans (fsl_le (by omega) (fun m hb hm => ((hT.2 m hm).mp (hxs m hb)).2)) hW.2.1
      refine supposeFrosts_s hla (by omega) hfl (fun S2 hR2 o2 => ?_)
      have hT2 := zT_fr hT1 hR2 o2
      refine run_s zCo2 (hW.1.to_fr (hfl (la + 1) (Nat.le_refl _)) (fsl_ok (by omega))).1 hT2 (n := la + 1) (by omega) (last_nI (q := la) (by omega)) ?_
      generalize hS3 : zRun S2 52 pe de ro jo (fsl x.1 (la + 1)) g c (la + 1) = S3
      have hC3 : cRun S3 52 pe de ro jo (fsl x.1 (la + 1)) g c (la + 1) := by rw [← hS3]; exact cRun_of
      have o3 : zOut 52 55 S2 S3 := by rw [← hS3]; exact zRun_out
      have o : zOut 31 55 S S3 := ((o1.mono (by omega) (by omega)).trans (o2.mono (by omega) (by omega))).trans (o3.mono (by omega) (by omega))
      refine addToLiving_s hC3 (fun L1 k1 k2 => K S3 L1 (fun j hj => (o j (by omega)).trans (h1 j hj)) (fun j hj => (k1 j hj).trans (h2 j hj)) (fun p hp => ?_))
      rw [k2 p hp, h3 p hp, prt_app]
      by_cases y : alv pe de ro jo g c p x.1 = true
      · rw [if_pos y, if_pos ((alv_f hxl (by omega)).mpr y), e1, lN_add]
      · rw [if_neg y, if_neg (fun w => y ((alv_f hxl (by omega)).mp w))]
        exact lN_add _ 0
theorem rr_l {k : Nat} {a : Nat → Nat} {S : zS} {L0 : zL} {P : zS → zL → Prop} (hk : k < 63) (ha : ∀ p, p < 8 → a p < 2 ^ 63) (h : ∀ L', (∀ p, p < 8 → L' 66 p = lN (a p / Nat.gcd (a p) (2 ^ k)) ∧ L' 67 p = lN (2 ^ k / Nat.gcd (a p) (2 ^ k))) → P S L') : ∀ (d p : Nat) (L : zL), p + d = 8 → (∀ p', p' < p → L 66 p' = lN (a p' / Nat.gcd (a p') (2 ^ k)) ∧ L 67 p' = lN (2 ^ k / Nat.gcd (a p') (2 ^ k))) → (∀ p', p ≤ p' → p' < 8 → L 66 p' = lN (a p') ∧ L 67 p' = lN (2 ^ k)) → zU mX0_findLiving X S L 173 [some (.ref 65), none, none, none, none, none, some (.int (nI p)), none, none, none] [] (zpv P) := by
  intro d
  induction d with
  | zero =>
    intro p L hd h1 h2
    obtain rfl : p = 8 := by omega
    exact b_X0_findLiving_173 ⟨fun _ => h L h1, fun z => absurd (by decide) z⟩
  | succ d ih =>
    intro p L hd h1 h2
    refine b_X0_findLiving_173 ⟨fun z => absurd z (nI_ge (b := 8) (by omega) (by omega)), fun _ => ?_⟩
    obtain ⟨a1, a2⟩ := h2 p (Nat.le_refl _) (by omega)
    refine reduce_s (by omega) hk (ha p (by omega)) a1 a2 (fun L1 k1 k2 k3 k4 x1 ex1 => ?_)
    rw [ex1, nI_1]
    refine ih (p + 1) L1 (by omega) (fun p' hp' => ?_) (fun p' hp' h8 => ?_)
    · by_cases hpp : p' = p
      · rw [hpp]; exact ⟨k3, k4⟩
      · rw [(k2 p' hpp).1, (k2 p' hpp).2]; exact h1 p' (by omega)
    · rw [(k2 p' (by omega)).1, (k2 p' (by omega)).2]; exact h2 p' (by omega) h8
theorem findLiving_s {q la : Nat} {S : zS} {L : zL} {P : zS → zL → Prop} (hQ : cQ pe de ro jo fr se g c S L) (hq : q ≤ 16) (hla : la ≤ 9) (h : ∀ S' L', cQ pe de ro jo fr se g c S' L' → qF S S' → (∀ p, p < pe.length → L' 66 p = (pVi pe de ro jo g c q la p).1 ∧ L' 67 p = (pVi pe de ro jo g c q la p).2) → P S' L') : zCv mX0_findLiving S L [.ref 65, .int (nI q), .int (nI la)] P := by
  have hQ0 := hQ
  have hl := hQ.len
  obtain ⟨hT, hW, hR, hA, hM, hB, hH, hWi, hV⟩ := hQ
  refine e_X0_findLiving (fun X => ?_)
  have fresh : zU mX0_findLiving X S L 17 [some (.ref 65), some (.int (nI q)), some (.int (nI la)), none, none, none, none, none, none, none] [] (zpv P) := by
    refine b_X0_findLiving_17 (fun S1 e1 S2 e2 => ?_)
    have n2 : ∀ j, j ≠ 65 → S2 j = S j := fun j a => by rw [e2, zc_ne _ _ a, e1, zc_ne _ _ a]
    have h65 : S2 65 = upd (upd (S 65) 3 (nI q)) 4 (nI la) := by rw [e2, zc_eq, e1, zc_eq]
    have hT2 : zT S2 5 pe de ro jo fr g c := hT.out (fun j a b => n2 j (by omega))
    refine monthsOf_s zTo5.2.2.2.1 hT2.2.2.1 ⟨by omega, by omega⟩ (fun x1 ex1 => ?_)
    obtain ⟨T, t1, t2, t3⟩ := msk_T (ro := ro) hla hW.1.1.2.2.2.2.2.1
    have hTT : isT ro T (la + 1) := ⟨t1, t3⟩
    have hp10 : (2 : Nat) ^ (la + 1) ≤ 2 ^ 10 := Nat.pow_le_pow_right (by decide) (by omega)
    have ht := pcb_le (la + 1) T
    rw [ex1, t2]
    refine bitCount_s (by omega) ?_
    have e10 : pcb 10 T = pcb (la + 1) T := by
      have := pcb_hi t1 (10 - (la + 1))
      rw [show la + 1 + (10 - (la + 1)) = 10 by omega] at this
      exact this
    rw [e10]
    refine fillL_s (r := 66) (n := 8) rfl (by omega) (fun L1 a1 a2 => ?_)
    refine power_s (b := 16) (by omega) (by omega) ?_
    refine fillL_s (r := 67) (n := 8) rfl (by omega) (fun L2 b1 b2 => ?_)
    have hck := chk_ok (T := T) (n := la + 1) (by omega) t1
    unfold chk at hck
    obtain ⟨r, hr⟩ := sbw_hd T (la + 1)
    have e16 : (16 : Nat) ^ pcb (la + 1) T = 2 ^ (4 * pcb (la + 1) T) := by rw [Nat.pow_mul]
    refine fl_l (S0 := S2) (L0 := L2) hW hT2 hq hla hTT (fun S' L' k1 k2 k3 => ?_) (sbw T (la + 1)) [] 0 S2 L2 rfl (fun x r' hx => ?_) (Bool.and_eq_true_iff.mp hck).1 (fun _ _ => rfl) (fun _ _ => rfl) (fun p hp => ?_)
    · refine rr_l (k := 4 * pcb (la + 1) T) (a := fun p => Sb q T (la + 1) (pcb (la + 1) T) (alv pe de ro jo g c p)) (L0 := L') (by omega) (fun p _ => Nat.lt_trans (Sb_lt hq hla hTT) (by decide)) (fun L3 m1 => ?_) 8 0 L' (by omega) (fun p hp => absurd hp (Nat.not_lt_zero _)) (fun p _ hp => ⟨k3 p hp, by rw [k2 67 (by omega), b2 p hp, e16]⟩)
      have o : ∀ j, j < 31 ∨ 55 < j → j ≠ 65 → S' j = S j := fun j a b => (k1 j a).trans (n2 j b)
      have hq2 : qF S S' := fun j hj => o j (by omega) (by omega)
      have v : ∀ p, p < pe.length → L3 66 p = (pVi pe de ro jo g c q la p).1 ∧ L3 67 p = (pVi pe de ro jo g c q la p).2 := fun p hp => by
        rw [pVi_T hq hTT]; exact m1 p (by omega)
      exact h S' L3 (hQ0.keep hq2 (hA.keep (o _ (by omega) (by omega)) (o _ (by omega) (by omega)) (o _ (by omega) (by omega)) (o _ (by omega) (by omega))) (hM.keep (by rw [o 56 (by omega) (by omega)]) (o _ (by omega) (by omega))) (hB.keep (fun i _ _ => by rw [o 56 (by omega) (by omega)])) (hH.keep (fun i _ => by rw [o 56 (by omega) (by omega)])) (hWi.keep (o _ (by omega) (by omega)) (o _ (by omega) (by omega))) (Or.inr ⟨q, la, hq, hla, by rw [k1 65 (by omega), h65, upd, if_neg (by omega), upd, if_pos rfl], by rw [k1 65 (by omega), h65, upd, if_pos rfl], v⟩)) hq2 v
    · rw [hr] at hx
      have := (List.cons.inj hx).1
      rw [← this]; rfl
    · rw [b1 66 (by omega), a2 p hp]; rfl
  refine b_X0_findLiving_0 ⟨fun _ => fresh, fun z1 => ⟨fun _ => fresh, fun z2 => ?_⟩⟩
  rcases hV with y | ⟨q', la', y1, y2, y3, y4, y5⟩
  · rw [z1] at y; exact absurd y (nI_n1 (by omega))
  · rw [z1] at y3
    rw [z2] at y4
    have e1 : q = q' := nI_inj (by omega) (by omega) y3
    have e2 : la = la' := nI_inj (by omega) (by omega) y4
    subst e1 e2
    exact h S L hQ0 qF.rf y5
def aVirt (pe de ro jo : List T3) (g c : Int32) (q la p w : Int32) : Int64 := if ((0 : Int32) ≤ q ∧ q ≤ (16 : Int32)) ∧ ((0 : Int32) ≤ la ∧ la ≤ (9 : Int32)) ∧ okN pe.length p ∧ ((0 : Int32) ≤ w ∧ w ≤ (1 : Int32)) then (if w = 0 then (pVi pe de ro jo g c q.toNatClampNeg la.toNatClampNeg p.toNatClampNeg).1 else (pVi pe de ro jo g c q.toNatClampNeg la.toNatClampNeg p.toNatClampNeg).2) else -9223372036854775806
theorem above_s {p : Nat} {S : zS} {L : zL} {P : Int64 → zS → zL → Prop} (hp : p < 8) (h : P (L 66 p) S L) : zCl mX0_above S L [.ref 65, .int (nI p)] P := by
  refine e_X0_above (fun X => b_X0_above_0 ⟨fun z => absurd z (nI_pos (by omega)), fun _ => ⟨fun z => absurd z (nI_ge (b := 8) (by omega) (by omega)), fun _ => ?_⟩⟩)
  rw [cl_nI (by omega)]
  exact ⟨vp_in_nI (by omega) (by omega), h⟩
theorem below_s {p : Nat} {S : zS} {L : zL} {P : Int64 → zS → zL → Prop} (hp : p < 8) (h : P (L 67 p) S L) : zCl mX0_below S L [.ref 65, .int (nI p)] P := by
  refine e_X0_below (fun X => b_X0_below_0 ⟨fun z => absurd z (nI_pos (by omega)), fun _ => ⟨fun z => absurd z (nI_ge (b := 8) (by omega) (by omega)), fun _ => ?_⟩⟩)
  rw [cl_nI (by omega)]
  exact ⟨vp_in_nI (by omega) (by omega), h⟩
theorem virtue_c {q la p w : Int32} {S : zS} {L : zL} {P : Int64 → zS → zL → Prop} (hQ : cQ pe de ro jo fr se g c S L) (h : ∀ S' L', cQ pe de ro jo fr se g c S' L' → qF S S' → P (aVirt pe de ro jo g c q la p w) S' L') : zCl mX10_virtue S L [.ref 0, .int q, .int la, .int p, .int w] P := by
  have hl := hQ.len
  refine e_X10_virtue (fun X => b_X10_virtue_0 ?_)
  rw [hQ.1.1.1]
  refine ⟨fun q1 => ⟨fun q2 => ⟨fun q3 => ⟨fun q4 => ?_, fun z => ?_⟩, fun z => ?_⟩, fun z => ?_⟩, fun z => ?_⟩
  · rw [aVirt, if_pos ⟨q1, q2, q3, q4⟩] at h
    obtain ⟨q, hq, rfl⟩ := rng_lit (n := 16) rfl (by omega) q1
    obtain ⟨la, hla, rfl⟩ := rng_lit (n := 9) rfl (by omega) q2
    obtain ⟨p, hp, rfl⟩ := rng_ix (by omega) q3
    rw [cl_nI (by omega), cl_nI (by omega), cl_nI (by omega)] at h
    refine findLiving_s hQ hq hla (fun S' L' hQ' hq' hv => ⟨fun z => ?_, fun z => ?_⟩)
    · rw [if_neg z] at h
      refine below_s (by omega) ?_
      rw [(hv p hp).2]; exact h S' L' hQ' hq'
    · rw [if_pos z] at h
      refine above_s (by omega) ?_
      rw [(hv p hp).1]; exact h S' L' hQ' hq'
  · rw [aVirt, if_neg (fun y => z y.2.2.2)] at h; exact h S L hQ qF.rf
  · rw [aVirt, if_neg (fun y => z y.2.2.1)] at h; exact h S L hQ qF.rf
  · rw [aVirt, if_neg (fun y => z y.2.1)] at h; exact h S L hQ qF.rf
  · rw [aVirt, if_neg (fun y => z y.1)] at h; exact h S L hQ qF.rf
end VF
def qVirt (q la' p w : Int32) : sg → Int64
  | (t0, t1, g, c, ro, jo, _, _, _, _, _, _) => aVirt (tL 0 t0) (tL 3 t1) ro jo g c q la' p w
theorem virtue_q {t0 t1 : List Int32} {g c : Int32} {ro jo fr se : List T3} {fo le it : pF} {la : Int32} {q n p w : Int32} {S : zS} {L : zL} {P : Int64 → zS → zL → Prop} (hI : cI (t0, t1, g, c, ro, jo, fr, se, fo, le, it, la) S L) (h : ∀ S' L', cI (t0, t1, g, c, ro, jo, fr, se, fo, le, it, la) S' L' → oM S S' → P (qVirt q n p w (t0, t1, g, c, ro, jo, fr, se, fo, le, it, la)) S' L') : zCl mX10_virtue S L [.ref 0, .int q, .int n, .int p, .int w] P :=
  virtue_c hI.2.2.2.1 (fun S' L' hQ hq => h S' L' (cI_q hI hQ hq) hq.m)
