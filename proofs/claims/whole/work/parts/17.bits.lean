/-! bits (the first family is the kit's starting text, kit/laws/BITS) -/
def bt (x : Int32) (i : Nat) : Bool := x.toBitVec.getLsbD i
theorem b_ext {x y : Int32} (h : ∀ i, i < 32 → bt x i = bt y i) : x = y := Int32.toBitVec_inj.mp (BitVec.eq_of_getLsbD_eq (fun i hi => h i hi))
theorem b_or (x y : Int32) (i : Nat) : bt (x ||| y) i = (bt x i || bt y i) := by unfold bt; rw [Int32.toBitVec_or, BitVec.getLsbD_or]
theorem b_and (x y : Int32) (i : Nat) : bt (x &&& y) i = (bt x i && bt y i) := by unfold bt; rw [Int32.toBitVec_and, BitVec.getLsbD_and]
theorem b_xor (x y : Int32) (i : Nat) : bt (x ^^^ y) i = (bt x i ^^ bt y i) := by unfold bt; rw [Int32.toBitVec_xor, BitVec.getLsbD_xor]
theorem b_big {x : Int32} {i : Nat} (h : 32 ≤ i) : bt x i = false := BitVec.getLsbD_of_ge _ _ h
theorem b_255 (i : Nat) : bt 255 i = decide (i < 8) := by
  rcases Nat.lt_or_ge i 32 with h | h
  · exact (by decide +kernel : ∀ i, i < 32 → bt 255 i = decide (i < 8)) i h
  · rw [b_big h, decide_eq_false (by omega)]
theorem b_65535 (i : Nat) : bt 65535 i = decide (i < 16) := by
  rcases Nat.lt_or_ge i 32 with h | h
  · exact (by decide +kernel : ∀ i, i < 32 → bt 65535 i = decide (i < 16)) i h
  · rw [b_big h, decide_eq_false (by omega)]
theorem b_m1 : ∀ i, i < 32 → bt (-1) i = true := by decide +kernel
theorem b_0 (i : Nat) : bt 0 i = false := BitVec.getLsbD_zero
theorem s_l : ∀ n, n < 32 → ((nI n &&& 31).toBitVec.smod 32).toNat = n := by decide +kernel
theorem s_u : ∀ n, n < 32 → (((nI n).toUInt32 &&& Int32.toUInt32 31).toBitVec % 32).toNat = n := by decide +kernel
theorem b_shl (n : Nat) (hn : n < 32) (x : Int32) {i : Nat} (hi : i < 32) : bt (x <<< (nI n &&& 31)) i = (decide (n ≤ i) && bt x (i - n)) := by
  unfold bt
  rw [Int32.toBitVec_shiftLeft]
  show (x.toBitVec <<< ((nI n &&& 31).toBitVec.smod 32).toNat).getLsbD i = _
  rw [s_l n hn, BitVec.getLsbD_shiftLeft]
  rcases Nat.lt_or_ge i n with h | h
  · simp [h, Nat.not_le.mpr h]
  · simp [hi, h, Nat.not_lt.mpr h]
theorem b_ushr (n : Nat) (hn : n < 32) (x : Int32) (i : Nat) : bt ((x.toUInt32 >>> ((nI n).toUInt32 &&& Int32.toUInt32 31)).toInt32) i = bt x (n + i) := by
  show (x.toUInt32 >>> ((nI n).toUInt32 &&& Int32.toUInt32 31)).toBitVec.getLsbD i = x.toUInt32.toBitVec.getLsbD (n + i)
  rw [UInt32.toBitVec_shiftRight]
  show (x.toUInt32.toBitVec >>> (((nI n).toUInt32 &&& Int32.toUInt32 31).toBitVec % 32).toNat).getLsbD i = _
  rw [s_u n hn, BitVec.getLsbD_ushiftRight]
theorem b_sshr (n : Nat) (hn : n < 32) (x : Int32) {i : Nat} (hi : i < 32) : bt (x >>> (nI n &&& 31)) i = if n + i < 32 then bt x (n + i) else bt x 31 := by
  unfold bt
  rw [Int32.toBitVec_shiftRight]
  show (x.toBitVec.sshiftRight ((nI n &&& 31).toBitVec.smod 32).toNat).getLsbD i = _
  rw [s_l n hn, BitVec.getLsbD_sshiftRight, BitVec.msb_eq_getLsbD_last]
  simp [hi]
theorem b_1 (i : Nat) : bt 1 i = decide (i = 0) := by
  rcases Nat.lt_or_ge i 32 with h | h
  · exact (by decide +kernel : ∀ i, i < 32 → bt 1 i = decide (i = 0)) i h
  · rw [b_big h, decide_eq_false (by omega)]
theorem b_one {m i : Nat} (hm : m < 32) (hi : i < 32) : bt ((1 : Int32) <<< (nI m &&& 31)) i = decide (i = m) := by
  rw [b_shl m hm 1 hi, b_1]
  by_cases h : i = m
  · subst h; simp
  · by_cases h2 : m ≤ i
    · simp [h, h2]; omega
    · simp [h, h2]
theorem b_low {x : Int32} {m : Nat} (hm : m < 31) : (x >>> (nI m &&& 31)) &&& 1 = (if bt x m = true then 1 else 0) := by
  apply b_ext
  intro i hi
  rw [b_and, b_sshr m (by omega) x hi, b_1]
  by_cases h0 : i = 0
  · subst h0
    rw [if_pos (by omega)]
    by_cases hb : bt x m = true
    · rw [if_pos hb]; simp [hb, b_1]
    · rw [if_neg hb]; simp at hb; simp [hb, b_0]
  · rw [decide_eq_false h0, Bool.and_false]
    split
    · rw [b_1, decide_eq_false h0]
    · rw [b_0]
theorem b_low1 {x : Int32} {m : Nat} (hm : m < 31) : (x >>> (nI m &&& 31)) &&& 1 = 1 ↔ bt x m = true := by
  rw [b_low hm]
  by_cases h : bt x m = true
  · simp [h]
  · simp [h]
theorem b_low0 {x : Int32} {m : Nat} (hm : m < 31) : (x >>> (nI m &&& 31)) &&& 1 = 0 ↔ bt x m = false := by
  rw [b_low hm]
  cases h : bt x m <;> simp
theorem b_msk {x : Int32} {m : Nat} (hm : m < 32) : x &&& ((1 : Int32) <<< (nI m &&& 31)) = 0 ↔ bt x m = false := by
  constructor
  · intro h
    have := congrArg (fun z => bt z m) h
    simp only [b_and, b_one hm hm, b_0] at this
    simpa using this
  · intro h
    apply b_ext
    intro i hi
    rw [b_and, b_one hm hi, b_0]
    by_cases e : i = m
    · subst e; simp [h]
    · simp [e]
theorem b_put {x : Int32} {m i : Nat} (hm : m < 32) (hi : i < 32) : bt (x ||| ((1 : Int32) <<< (nI m &&& 31))) i = (bt x i || decide (i = m)) := by rw [b_or, b_one hm hi]
/-- which months a mask of months has -/
theorem b_pMk : ∀ (l : List T3) (b : Int32) (m : Nat), m < 24 → (∀ e ∈ l, ∃ q, q < 24 ∧ e.1 = nI q) → (bt (pMk l b) m = true ↔ bt b m = true ∨ ∃ e ∈ l, e.1 = nI m) := by
  intro l
  induction l with
  | nil => intro b m hm h; simp [pMk]
  | cons e l ih =>
    intro b m hm h
    obtain ⟨q, hq, he⟩ := h e List.mem_cons_self
    have := ih (b ||| ((1 : Int32) <<< (e.1 &&& 31))) m hm (fun x hx => h x (List.mem_cons_of_mem _ hx))
    rw [show pMk (e :: l) b = pMk l (b ||| ((1 : Int32) <<< (e.1 &&& 31))) from rfl, this, he, b_put (by omega) (by omega)]
    simp only [Bool.or_eq_true, decide_eq_true_eq, List.mem_cons, exists_eq_or_imp, he, nI_eq (show q < 2 ^ 31 by omega) (show m < 2 ^ 31 by omega)]
    constructor
    · rintro ((h1 | h1) | h1)
      · exact Or.inl h1
      · exact Or.inr (Or.inl h1.symm)
      · exact Or.inr (Or.inr h1)
    · rintro (h1 | h1 | h1)
      · exact Or.inl (Or.inl h1)
      · exact Or.inl (Or.inr h1.symm)
      · exact Or.inr h1
