/-! FROSTS BY CHANCE: the months, long numbers, tables -/
theorem cmp_eq0 {x y : Int64} : lg_cmp x y = (0 : Int32) ↔ x = y := by
  unfold lg_cmp
  split
  · rename_i h
    refine ⟨fun z => absurd z (by decide), fun z => ?_⟩
    rw [z] at h
    exact absurd h Int64.lt_irrefl
  · split
    · rename_i h; exact ⟨fun _ => h, fun _ => rfl⟩
    · rename_i h; exact ⟨fun z => absurd z (by decide), fun z => absurd z h⟩
theorem l_tn {n : Nat} (h : n < 2 ^ 64) : (lN n).toBitVec.toNat = n := Nat.mod_eq_of_lt h
theorem l_shr {a : Nat} (h : a < 2 ^ 63) : lN a >>> ((1 : Int32).toInt64 &&& 63) = lN (a / 2) := by
  refine Int64.toBitVec_inj.mp (BitVec.eq_of_toNat_eq ?_)
  rw [Int64.toBitVec_shiftRight]
  show ((lN a).toBitVec.sshiftRight (((1 : Int32).toInt64 &&& 63).toBitVec.smod 64).toNat).toNat = _
  rw [show (((1 : Int32).toInt64 &&& 63).toBitVec.smod 64).toNat = 1 by decide +kernel]
  have hm : (lN a).toBitVec.msb = false := by
    rw [BitVec.msb_eq_false_iff_two_mul_lt, l_tn (by omega)]; omega
  rw [BitVec.sshiftRight_eq_of_msb_false hm, BitVec.toNat_ushiftRight, l_tn (by omega), l_tn (by omega), Nat.shiftRight_eq_div_pow]
theorem l_and {a : Nat} (h : a < 2 ^ 63) : lN a &&& (1 : Int64) = lN (a % 2) := by
  refine Int64.toBitVec_inj.mp (BitVec.eq_of_toNat_eq ?_)
  rw [Int64.toBitVec_and, BitVec.toNat_and, l_tn (by omega), show (1 : Int64).toBitVec.toNat = 1 by decide, Nat.and_one_is_mod, l_tn (by omega)]
theorem shl_tab : ∀ t, t < 11 → ((1 : Int32) <<< (nI t &&& 31)) = nI (2 ^ t) := by decide +kernel
theorem msk_tab : ∀ t, t < 10 → ((2 : Int32) <<< (nI t &&& 31)) - (1 : Int32) = nI (2 ^ (t + 1) - 1) := by decide +kernel
theorem lsh_tab : ∀ t, t < 10 → ((1 : Int64) <<< (((4 : Int32) * (nI t + (1 : Int32))).toInt64 &&& 63)) = lN (2 ^ (4 * (t + 1))) := by decide +kernel
/-! the months do not look at frosts where no round is -/
theorem pRds_fr {pe ro : List T3} {c mo : Int32} {fr fr' : Prop} [Decidable fr] [Decidable fr'] (h : fr ↔ fr') (s : pZ) : ro.foldl (pRd pe c mo fr) s = ro.foldl (pRd pe c mo fr') s := by
  rw [pRd_fr h]
section VM
variable {pe de ro jo : List T3} {fb fb' g c : Int32}
theorem pMs_fb {m : Nat} {s : pZ} (h : (∃ e ∈ ro, e.1 = nI m) → (pFr fb m ↔ pFr fb' m)) : pMs pe de ro jo fb g c m s = pMs pe de ro jo fb' g c m s := by
  by_cases y : ∃ e ∈ ro, e.1 = nI m
  · exact pRds_fr (h y) _
  · have n : ∀ e ∈ ro, ¬ e.1 = nI m := fun e he z => y ⟨e, he, z⟩
    exact (pRds_no n).trans (pRds_no n).symm
theorem pC_fb : ∀ n, (∀ m, m < n → (∃ e ∈ ro, e.1 = nI m) → (pFr fb m ↔ pFr fb' m)) → pC pe de ro jo fb g c n = pC pe de ro jo fb' g c n
  | 0, _ => rfl
  | n + 1, h => by
    rw [pC, pC, pC_fb n (fun m hm => h m (by omega)), pMs_fb (h n (by omega))]
theorem pRn_D {mo cty : Int32} {fr : Prop} [Decidable fr] (h : ¬ fr) (s : pZ) : (pRn pe c mo fr cty s).2.1 = s.2.1 := by
  unfold pRn
  split
  · rfl
  · show (if fr ∧ _ then _ else s.2.1) = _
    rw [if_neg (fun z => h z.1)]
theorem pIt_D {mo cty : Int32} {fr : Prop} [Decidable fr] (h : ¬ fr) : ∀ (n : Nat) (s : pZ), (pIt (pRn pe c mo fr cty) n s).2.1 = s.2.1
  | 0, _ => rfl
  | n + 1, s => by rw [pIt, pIt_D h n, pRn_D h]
theorem pRds_D {mo : Int32} {fr : Prop} [Decidable fr] (h : ¬ fr) : ∀ (l : List T3) (s : pZ), (l.foldl (pRd pe c mo fr) s).2.1 = s.2.1
  | [], _ => rfl
  | e :: l, s => by
    rw [List.foldl_cons, pRds_D h l, pRd]
    split
    · exact pIt_D h _ _
    · rfl
theorem pMs_D {m : Nat} {s : pZ} (h : ¬ pFr fb m) : (pMs pe de ro jo fb g c m s).2.1 = s.2.1 := pRds_D h ro _
theorem pC_D {n : Nat} : ∀ d, (∀ m, n ≤ m → m < n + d → ¬ pFr fb m) → (pC pe de ro jo fb g c (n + d)).2.1 = (pC pe de ro jo fb g c n).2.1
  | 0, _ => rfl
  | d + 1, h => by
    rw [show n + (d + 1) = (n + d) + 1 by omega, pC, pMs_D (h (n + d) (by omega) (by omega))]
    exact pC_D d (fun m a b => h m a (by omega))
end VM
theorem bt_n {s m : Nat} (hm : m < 32) : bt (nI s) m = s.testBit m := by
  unfold bt
  show (BitVec.ofNat 32 s).getLsbD m = _
  rw [BitVec.getLsbD_ofNat]; simp [hm]
theorem pFr_n {s m : Nat} (hm : m < 31) : pFr (nI s) m ↔ s.testBit m = true := by
  rw [← bt_n (show m < 32 by omega)]; exact b_low1 hm
theorem nI_inj {a b : Nat} (ha : a < 2000) (hb : b < 2000) (h : nI a = nI b) : a = b := (nI_eq (by omega) (by omega)).mp h
/-- frosts supposed -/
def fsl (f : Nat) : Nat → List T3
  | 0 => []
  | k + 1 => if f.testBit k = true then fsl f k ++ [(nI k, 0, 0)] else fsl f k
theorem fsl_mem {f : Nat} {e : T3} : ∀ k, e ∈ fsl f k ↔ ∃ m, m < k ∧ f.testBit m = true ∧ e = (nI m, 0, 0)
  | 0 => ⟨fun h => (by cases h), fun ⟨m, hm, _⟩ => absurd hm (Nat.not_lt_zero _)⟩
  | k + 1 => by
    rw [fsl]
    constructor
    · intro h
      by_cases y : f.testBit k = true
      · rw [if_pos y] at h
        rcases List.mem_append.mp h with z | z
        · obtain ⟨m, a, b⟩ := (fsl_mem k).mp z
          exact ⟨m, by omega, b⟩
        · exact ⟨k, by omega, y, List.mem_singleton.mp z⟩
      · rw [if_neg y] at h
        obtain ⟨m, a, b⟩ := (fsl_mem k).mp h
        exact ⟨m, by omega, b⟩
    · intro ⟨m, a, b, d⟩
      by_cases hmk : m = k
      · rw [hmk] at b d
        rw [if_pos b]
        exact List.mem_append.mpr (Or.inr (List.mem_singleton.mpr d))
      · have := (fsl_mem (f := f) (e := e) k).mpr ⟨m, by omega, b, d⟩
        split
        · exact List.mem_append.mpr (Or.inl this)
        · exact this
def nb (l : List T3) : Nat → Nat
  | 0 => 0
  | k + 1 => nb l k + (if l.any (fun e => decide (e.1 = nI k)) = true then 1 else 0)
theorem nb_cons {e : T3} {l : List T3} : ∀ k, k ≤ 24 → ((∃ j, j < k ∧ e.1 = nI j) → nb (e :: l) k ≤ nb l k + 1) ∧ (¬ (∃ j, j < k ∧ e.1 = nI j) → nb (e :: l) k = nb l k)
  | 0, _ => ⟨fun ⟨j, hj, _⟩ => absurd hj (Nat.not_lt_zero _), fun _ => rfl⟩
  | k + 1, hk => by
    have ih := nb_cons (e := e) (l := l) k (by omega)
    rw [nb, nb]
    by_cases y : e.1 = nI k
    · have hn : ¬ (∃ j, j < k ∧ e.1 = nI j) := fun ⟨j, hj, hje⟩ => by
        rw [y] at hje
        have := nI_inj (by omega) (by omega) hje
        omega
      have := ih.2 hn
      refine ⟨fun _ => ?_, fun z => absurd ⟨k, by omega, y⟩ z⟩
      rw [this]
      split <;> split <;> omega
    · have e1 : (e :: l).any (fun e => decide (e.1 = nI k)) = l.any (fun e => decide (e.1 = nI k)) := by
        rw [List.any_cons, decide_eq_false y, Bool.false_or]
      rw [e1]
      refine ⟨fun ⟨j, hj, hje⟩ => ?_, fun z => ?_⟩
      · have hjk : j < k := by
          rcases Nat.lt_or_ge j k with w | w
          · exact w
          · have : j = k := by omega
            rw [this] at hje; exact absurd hje y
        have := ih.1 ⟨j, hjk, hje⟩
        omega
      · have := ih.2 (fun ⟨j, hj, hje⟩ => z ⟨j, by omega, hje⟩)
        omega
theorem nb_nil : ∀ k, nb [] k = 0
  | 0 => rfl
  | k + 1 => by rw [nb, nb_nil k]; rfl
theorem nb_le : ∀ (l : List T3) (k : Nat), k ≤ 24 → nb l k ≤ l.length
  | [], k, _ => by rw [nb_nil]; exact Nat.le_refl _
  | e :: l, k, hk => by
    have h1 := nb_le l k hk
    have h2 := nb_cons (e := e) (l := l) k hk
    rw [List.length_cons]
    by_cases y : ∃ j, j < k ∧ e.1 = nI j
    · have := h2.1 y; omega
    · have := h2.2 y; omega
theorem fsl_nb {f : Nat} {ro : List T3} : ∀ k, (∀ m, m < k → f.testBit m = true → ∃ e ∈ ro, e.1 = nI m) → (fsl f k).length ≤ nb ro k
  | 0, _ => Nat.le_refl _
  | k + 1, h => by
    have ih := fsl_nb (f := f) (ro := ro) k (fun m hm => h m (by omega))
    rw [fsl, nb]
    by_cases y : f.testBit k = true
    · obtain ⟨e, he, hek⟩ := h k (by omega) y
      have : ro.any (fun e => decide (e.1 = nI k)) = true := List.any_eq_true.mpr ⟨e, he, decide_eq_true hek⟩
      rw [if_pos y, if_pos this, List.length_append]
      exact Nat.add_le_add_right ih 1
    · rw [if_neg y]
      exact Nat.le_trans ih (Nat.le_add_right _ _)
theorem fsl_le {f k : Nat} {ro : List T3} (hk : k ≤ 24) (h : ∀ m, f.testBit m = true → m < 24 → ∃ e ∈ ro, e.1 = nI m) : (fsl f k).length ≤ ro.length :=
  Nat.le_trans (fsl_nb k (fun m hm hb => h m hb (by omega))) (nb_le ro k hk)
theorem fsl_ok {f k : Nat} (hk : k ≤ 24) : ∀ e ∈ fsl f k, deE e := fun e he => by
  obtain ⟨m, hm, -, rfl⟩ := (fsl_mem k).mp he
  exact ⟨m, by omega, rfl⟩
theorem fsl_fr {f k m : Nat} (hk : k ≤ 24) (hm : m < 24) : pFr (pMk (fsl f k) 0) m ↔ (m < k ∧ f.testBit m = true) := by
  have h1 := b_pMk (fsl f k) 0 m hm (fsl_ok hk)
  have h2 : pFr (pMk (fsl f k) 0) m ↔ bt (pMk (fsl f k) 0) m = true := b_low1 (by omega)
  rw [h2, h1]
  constructor
  · rintro (y | ⟨e, he, hem⟩)
    · rw [b_0] at y; exact absurd y (by decide)
    · obtain ⟨m', hm', hb, rfl⟩ := (fsl_mem k).mp he
      have : m' = m := nI_inj (by omega) (by omega) hem
      rw [← this]; exact ⟨hm', hb⟩
  · intro y
    exact Or.inr ⟨(nI m, 0, 0), (fsl_mem k).mpr ⟨m, y.1, y.2, rfl⟩, rfl⟩
/-- the months that tell -/
theorem msk_T {ro : List T3} {la : Nat} (hl : la ≤ 9) (hro : ∀ e ∈ ro, ∃ q, q < 24 ∧ e.1 = nI q) : ∃ T, T < 2 ^ (la + 1) ∧ (pMk ro 0 &&& (((2 : Int32) <<< (nI la &&& 31)) - (1 : Int32))) = nI T ∧ ∀ m, m < 24 → (T.testBit m = true ↔ (m < la + 1 ∧ ∃ e ∈ ro, e.1 = nI m)) := by
  rw [msk_tab la (by omega)]
  have hp : (2 : Nat) ^ (la + 1) ≤ 2 ^ 10 := Nat.pow_le_pow_right (by decide) (by omega)
  have h0 : 0 < 2 ^ (la + 1) := Nat.two_pow_pos _
  have e : (pMk ro 0 &&& nI (2 ^ (la + 1) - 1)).toBitVec.toNat = (pMk ro 0).toBitVec.toNat &&& (2 ^ (la + 1) - 1) := by
    rw [Int32.toBitVec_and, BitVec.toNat_and, pk_tn (by omega)]
  refine ⟨(pMk ro 0).toBitVec.toNat &&& (2 ^ (la + 1) - 1), ?_, ?_, fun m hm => ?_⟩
  · have := @Nat.and_le_right (pMk ro 0).toBitVec.toNat (2 ^ (la + 1) - 1)
    omega
  · refine Int32.toBitVec_inj.mp (BitVec.eq_of_toNat_eq ?_)
    rw [e, pk_tn (by have := @Nat.and_le_right (pMk ro 0).toBitVec.toNat (2 ^ (la + 1) - 1); omega)]
  · rw [Nat.testBit_and, Nat.testBit_two_pow_sub_one]
    have h1 := b_pMk ro 0 m hm hro
    have h2 : (pMk ro 0).toBitVec.toNat.testBit m = bt (pMk ro 0) m := rfl
    rw [h2, Bool.and_eq_true, h1, decide_eq_true_iff, b_0]
    constructor
    · rintro ⟨y | y, z⟩
      · exact absurd y (by decide)
      · exact ⟨z, y⟩
    · intro ⟨y, z⟩
      exact ⟨Or.inr z, y⟩
theorem sub_and {a T : Nat} (ha : a < 4294967296) (hT : T < 4294967296) : (nI a - nI T) &&& nI T = nI (((4294967296 - T + a) % 4294967296) &&& T) := by
  refine Int32.toBitVec_inj.mp (BitVec.eq_of_toNat_eq ?_)
  have hle := @Nat.and_le_right ((4294967296 - T + a) % 4294967296) T
  rw [Int32.toBitVec_and, BitVec.toNat_and, Int32.toBitVec_sub, BitVec.toNat_sub, pk_tn (by omega), pk_tn (by omega), pk_tn (by omega)]
/-- how many bits are set -/
def bcF (x : Int32) : Int32 :=
  let x1 := (x - ((x.toUInt32 >>> ((1 : Int32).toUInt32 &&& Int32.toUInt32 31)).toInt32 &&& (1431655765 : Int32)))
  let x2 := ((x1 &&& (858993459 : Int32)) + ((x1.toUInt32 >>> ((2 : Int32).toUInt32 &&& Int32.toUInt32 31)).toInt32 &&& (858993459 : Int32)))
  let x3 := ((x2 + (x2.toUInt32 >>> ((4 : Int32).toUInt32 &&& Int32.toUInt32 31)).toInt32) &&& (252645135 : Int32))
  let x4 := (x3 + (x3.toUInt32 >>> ((8 : Int32).toUInt32 &&& Int32.toUInt32 31)).toInt32)
  let x5 := (x4 + (x4.toUInt32 >>> ((16 : Int32).toUInt32 &&& Int32.toUInt32 31)).toInt32)
  x5 &&& (63 : Int32)
theorem bc_tab : (List.range 1024).all (fun f => decide (bcF (nI f) = nI (pcb 10 f))) = true := by decide +kernel
theorem bc_ok {f : Nat} (h : f < 1024) : bcF (nI f) = nI (pcb 10 f) := of_decide_eq_true (List.all_eq_true.mp bc_tab f (List.mem_range.mpr h))
