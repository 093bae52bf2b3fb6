/-! FROSTS BY CHANCE: the class -/
section VC
variable {pe de ro jo fr se : List T3} {g c : Int32} {X : Nat × (Nat → Int32)}
theorem bitCount_s {f : Nat} {S : zS} {L : zL} {P : Int32 → zS → zL → Prop} (hf : f < 1024) (h : P (nI (pcb 10 f)) S L) : zCi mJ6_bitCount_0f7a4 S L [.int (nI f)] P := by
  rw [← bc_ok hf] at h
  refine e_J6_bitCount_0f7a4 (fun X => b_J6_bitCount_0f7a4_0 (fun x1 e1 x2 e2 x3 e3 x4 e4 x5 e5 => ?_))
  subst e1 e2 e3 e4 e5
  exact h
theorem pow_l {b t : Nat} {S : zS} {L : zL} {P : Int64 → zS → zL → Prop} (hb : b < 2000) (ht : t < 2000) (h : P (lN (b ^ t)) S L) : ∀ (d i : Nat), i + d = t → zU mX0_power X S L 5 [some (.int (nI b)), some (.int (nI t)), some (.long (lN (b ^ i))), none, some (.int (nI i))] [] (zpl P) := by
  intro d
  induction d with
  | zero =>
    intro i hi
    obtain rfl : i = t := by omega
    exact b_X0_power_5 ⟨fun _ => h, fun z => absurd (nI_le (Nat.le_refl _) (by omega)) z⟩
  | succ d ih =>
    intro i hi
    refine b_X0_power_5 ⟨fun z => absurd z (nI_ge (by omega) (by omega)), fun _ z1 e1 x1 ex1 => ?_⟩
    rw [e1, ex1, nI_1, nI_l (by omega), lN_mul, ← Nat.pow_succ]
    exact ih (i + 1) (by omega)
theorem power_s {b t : Nat} {S : zS} {L : zL} {P : Int64 → zS → zL → Prop} (hb : b < 2000) (ht : t < 2000) (h : P (lN (b ^ t)) S L) : zCl mX0_power S L [.int (nI b), .int (nI t)] P :=
  e_X0_power (fun X => b_X0_power_0 (pow_l hb ht h t 0 (by omega)))
theorem fillL_l {r n : Nat} (hr : SK[r]? = some (.inl (1, n))) (hn : n < 2000) {x : Int64} {S : zS} {L0 : zL} {P : zS → zL → Prop} (h : ∀ L', (∀ j, j ≠ r → L' j = L0 j) → (∀ p, p < n → L' r p = x) → P S L') : ∀ (d i : Nat) (L : zL), i + d = n → (∀ j, j ≠ r → L j = L0 j) → (∀ p, p < i → L r p = x) → zU mJ7_fill_d0a16 X S L 6 [some (.ref r), some (.long x), none, some (.int (nI i)), some (.int (nI n))] [] (zpv P) := by
  intro d
  induction d with
  | zero =>
    intro i L hd h1 h2
    exact b_J7_fill_d0a16_6 hr ⟨fun _ => h L h1 (fun p hp => h2 p (by omega)), fun q => absurd (nI_le (by omega) (by omega)) q⟩
  | succ d ih =>
    intro i L hd h1 h2
    refine b_J7_fill_d0a16_6 hr ⟨fun q => absurd q (nI_ge (by omega) (by omega)), fun _ => ⟨vp_in_nI (by omega) (by omega), fun L1 e1 x1 ex1 => ?_⟩⟩
    rw [cl_nI (by omega)] at e1
    rw [ex1, nI_1]
    refine ih (i + 1) L1 (by omega) (fun j hj => by rw [e1, zc_ne _ _ hj]; exact h1 j hj) (fun p hp => ?_)
    rw [e1, zc_eq]
    by_cases hpi : p = i
    · rw [hpi, pk_uLs]
    · rw [pk_uLn hpi]; exact h2 p (by omega)
theorem fillL_s {r n : Nat} (hr : SK[r]? = some (.inl (1, n))) (hn : n < 2000) {x : Int64} {S : zS} {L : zL} {P : zS → zL → Prop} (h : ∀ L', (∀ j, j ≠ r → L' j = L j) → (∀ p, p < n → L' r p = x) → P S L') : zCv mJ7_fill_d0a16 S L [.ref r, .long x] P := by
  refine e_J7_fill_d0a16 (fun X => b_J7_fill_d0a16_0 hr (fun x1 e1 => ?_))
  rw [e1]
  exact fillL_l hr hn h n 0 L (by omega) (fun _ _ => rfl) (fun p hp => absurd hp (Nat.not_lt_zero _))
theorem sf_l {f la : Nat} {S0 : zS} {L : zL} {P : zS → zL → Prop} (hla : la ≤ 9) (hf : f < 1024) (hlen : ∀ k, k ≤ la + 1 → (fsl f k).length ≤ 8) (h : ∀ S', zR S' 48 (fsl f (la + 1)) → zOut 48 51 S0 S' → P S' L) : ∀ (d k : Nat) (S : zS), k + d = la + 1 → zR S 48 (fsl f k) → zOut 48 51 S0 S → zU mX0_supposeFrosts X S L 16 [some (.ref 65), some (.int (nI f)), some (.int (nI la)), some (.int (nI k))] [] (zpv P) := by
  intro d
  induction d with
  | zero =>
    intro k S hd hR ho
    obtain rfl : k = la + 1 := by omega
    exact b_X0_supposeFrosts_16 ⟨fun _ => h S hR ho, fun z => absurd (nI_lt (by omega) (by omega)) z⟩
  | succ d ih =>
    intro k S hd hR ho
    refine b_X0_supposeFrosts_16 ⟨fun z => absurd z (nI_nlt (by omega) (by omega)), fun _ => ⟨fun z x1 ex1 => ?_, fun z => ?_⟩⟩
    · have hb : ¬ f.testBit k = true := by
        rw [← bt_n (show k < 32 by omega)]; exact (bt0 (by omega)).mp z
      rw [ex1, nI_1]
      refine ih (k + 1) S (by omega) ?_ ho
      rw [fsl, if_neg hb]; exact hR
    · have hb : f.testBit k = true := by
        rcases Decidable.em (f.testBit k = true) with y | y
        · exact y
        · rw [← bt_n (show k < 32 by omega)] at y
          exact absurd ((bt0 (by omega)).mpr y) z
      have e : fsl f (k + 1) = fsl f k ++ [(nI k, 0, 0)] := by rw [fsl, if_pos hb]
      have hl := hlen (k + 1) (by omega)
      rw [e, List.length_append] at hl
      refine rows_append (n := 8) zTo31.2.2.2.2.2 hR (Nat.lt_of_succ_le hl) (by omega) (fun S1 hR1 o1 x1 ex1 => ?_)
      rw [ex1, nI_1]
      refine ih (k + 1) S1 (by omega) ?_ (ho.trans o1)
      rw [e]; exact hR1
theorem supposeFrosts_s {f la : Nat} {S : zS} {L : zL} {P : zS → zL → Prop} (hla : la ≤ 9) (hf : f < 1024) (hlen : ∀ k, k ≤ la + 1 → (fsl f k).length ≤ 8) (h : ∀ S', zR S' 48 (fsl f (la + 1)) → zOut 48 51 S S' → P S' L) : zCv mX0_supposeFrosts S L [.ref 65, .int (nI f), .int (nI la)] P := by
  refine e_X0_supposeFrosts (fun X => b_X0_supposeFrosts_0 (fun S1 e1 => ?_))
  refine sf_l (S0 := S) hla hf hlen h (la + 1) 0 S1 (by omega) ?_ (by rw [e1]; exact zOut.zc (by omega) (by omega))
  rw [e1]
  exact ⟨by rw [zc_eq, upd, if_pos rfl]; rfl, fun i e he => by simp [fsl] at he⟩
theorem al_l {n : Nat} {w : Int64} {S : zS} {L0 : zL} {P : zS → zL → Prop} {fs : List T3} (hR : cRun S 52 pe de ro jo fs g c n) (h : ∀ L', (∀ j, j ≠ 66 → L' j = L0 j) → (∀ p, p < 8 → L' 66 p = L0 66 p + (if (pCf pe de ro jo fs g c n).2.1 p = -1 then w else 0)) → P S L') : ∀ (d p : Nat) (L : zL), p + d = 8 → (∀ j, j ≠ 66 → L j = L0 j) → (∀ p', p' < p → L 66 p' = L0 66 p' + (if (pCf pe de ro jo fs g c n).2.1 p' = -1 then w else 0)) → (∀ p', p ≤ p' → L 66 p' = L0 66 p') → zU mX0_addToLiving X S L 2 [some (.ref 65), some (.long w), none, some (.int (nI p))] [] (zpv P) := by
  intro d
  induction d with
  | zero =>
    intro p L hd h1 h2 h3
    obtain rfl : p = 8 := by omega
    exact b_X0_addToLiving_2 ⟨fun _ => h L h1 h2, fun z => absurd (by decide) z⟩
  | succ d ih =>
    intro p L hd h1 h2 h3
    refine b_X0_addToLiving_2 ⟨fun z => absurd z (nI_ge (b := 8) (by omega) (by omega)), fun _ => ?_⟩
    rw [cl_nI (by omega)]
    refine ⟨vp_in_nI (by omega) (by omega), deathOf_s zCo2 hR (by omega) ?_⟩
    have go : ∀ y : Int64, y = (if (pCf pe de ro jo fs g c n).2.1 p = -1 then w else 0) → ∀ L2 : zL, L2 = zc L 66 (vp_updL (L 66) p ((L 66 p) + y)) → ∀ x1 : Int32, x1 = nI p + (1 : Int32) → zU mX0_addToLiving X S L2 2 [some (.ref 65), some (.long w), none, some (.int x1)] [] (zpv P) := by
      intro y hy L2 e2 x1 ex1
      rw [ex1, nI_1]
      refine ih (p + 1) L2 (by omega) (fun j hj => by rw [e2, zc_ne _ _ hj]; exact h1 j hj) (fun p' hp' => ?_) (fun p' hp' => ?_)
      · rw [e2, zc_eq]
        by_cases hpp : p' = p
        · rw [hpp, pk_uLs, h3 p (Nat.le_refl _), hy]
        · rw [pk_uLn hpp]; exact h2 p' (by omega)
      · rw [e2, zc_eq, pk_uLn (by omega)]; exact h3 p' (by omega)
    refine ⟨fun z => ⟨vp_in_nI (by omega) (by omega), go 0 (by rw [if_neg z])⟩, fun z => ⟨vp_in_nI (by omega) (by omega), go w (by rw [if_pos z])⟩⟩
theorem addToLiving_s {n : Nat} {w : Int64} {S : zS} {L : zL} {P : zS → zL → Prop} {fs : List T3} (hR : cRun S 52 pe de ro jo fs g c n) (h : ∀ L', (∀ j, j ≠ 66 → L' j = L j) → (∀ p, p < 8 → L' 66 p = L 66 p + (if (pCf pe de ro jo fs g c n).2.1 p = -1 then w else 0)) → P S L') : zCv mX0_addToLiving S L [.ref 65, .long w] P :=
  e_X0_addToLiving (fun X => b_X0_addToLiving_0 (al_l hR h 8 0 L (by omega) (fun _ _ => rfl) (fun p hp => absurd hp (Nat.not_lt_zero _)) (fun _ _ => rfl)))
theorem rd_l {p : Nat} {S : zS} {L0 : zL} {P : zS → zL → Prop} {A B : Nat} (hp : p < 8) (h : ∀ L', (∀ j, j ≠ 66 → j ≠ 67 → L' j = L0 j) → (∀ p', p' ≠ p → L' 66 p' = L0 66 p' ∧ L' 67 p' = L0 67 p') → L' 66 p = lN A → L' 67 p = lN B → P S L') : ∀ (k i a : Nat) (L : zL), i + k < 63 → a < 2 ^ 63 → L 66 p = lN a → L 67 p = lN (2 ^ k) → (∀ j, j ≠ 66 → j ≠ 67 → L j = L0 j) → (∀ p', p' ≠ p → L 66 p' = L0 66 p' ∧ L 67 p' = L0 67 p') → a / Nat.gcd a (2 ^ k) = A → 2 ^ k / Nat.gcd a (2 ^ k) = B → zU mX0_reduce X S L 2 [some (.ref 65), some (.int (nI p)), some (.int (nI i))] [] (zpv P) := by
  intro k
  induction k with
  | zero =>
    intro i a L hi ha h1 h2 h3 h4 hA hB
    have hP : P S L := by
      rw [Nat.pow_zero, Nat.gcd_one_right, Nat.div_one] at hA
      rw [Nat.pow_zero, Nat.gcd_one_right, Nat.div_one] at hB
      rw [Nat.pow_zero] at h2
      exact h L h3 h4 (by rw [h1, hA]) (by rw [h2, hB])
    refine b_X0_reduce_2 ⟨fun _ => hP, fun _ => ?_⟩
    rw [cl_nI (by omega)]
    refine ⟨vp_in_nI (by omega) (by omega), fun _ => hP, fun z => absurd ?_ z⟩
    rw [cmp_le0, h2]
    decide
  | succ k ih =>
    intro i a L hi ha h1 h2 h3 h4 hA hB
    have hk : (2 : Nat) ^ (k + 1) ≤ 2 ^ 62 := Nat.pow_le_pow_right (by decide) (by omega)
    have hk1 : 1 < (2 : Nat) ^ (k + 1) := Nat.one_lt_two_pow (by omega)
    refine b_X0_reduce_2 ⟨fun z => absurd z (nI_ge (b := 64) (by omega) (by omega)), fun _ => ?_⟩
    rw [cl_nI (by omega)]
    refine ⟨vp_in_nI (by omega) (by omega), fun z => absurd z ?_, fun _ => ⟨vp_in_nI (by omega) (by omega), fun z => ?_, fun z => ⟨vp_in_nI (by omega) (by omega), vp_in_nI (by omega) (by omega), fun L1 e1 => ⟨vp_in_nI (by omega) (by omega), vp_in_nI (by omega) (by omega), fun L2 e2 x1 ex1 => ?_⟩⟩⟩⟩
    · rw [cmp_le0, h2]
      exact fun y => y ((pk_lLT (a := 1) (by omega) (by omega)).mpr hk1)
    · rw [cmp_eq0, h1, l_and ha] at z
      have ho : ¬ a % 2 = 0 := fun y => z (by rw [y]; rfl)
      rw [gcd_o ho, Nat.div_one] at hA
      rw [gcd_o ho, Nat.div_one] at hB
      exact h L h3 h4 (by rw [h1, hA]) (by rw [h2, hB])
    · rw [cmp_eq0, h1, l_and ha] at z
      have he : a % 2 = 0 := (pk_lEQ (b := 0) (by omega) (by omega)).mp z
      have e67 : L1 67 = L 67 := by rw [e1, zc_ne _ _ (by omega)]
      have v66 : L2 66 p = lN (a / 2) := by rw [e2, zc_ne _ _ (by omega), e1, zc_eq, pk_uLs, h1, l_shr ha]
      have v67 : L2 67 p = lN (2 ^ k) := by
        rw [e2, zc_eq, pk_uLs, e67, h2, l_shr (by omega)]
        congr 1
        rw [Nat.pow_succ]; omega
      rw [gcd_h he] at hA hB
      have hg : 0 < Nat.gcd (a / 2) (2 ^ k) := Nat.gcd_pos_of_pos_right _ (Nat.two_pow_pos _)
      rw [ex1, nI_1]
      refine ih (i + 1) (a / 2) L2 (by omega) (by omega) v66 v67 (fun j a b => by rw [e2, zc_ne _ _ b, e1, zc_ne _ _ a]; exact h3 j a b) (fun p' hp' => ?_) ?_ ?_
      · rw [e2, zc_eq, zc_ne _ _ (by omega), e67, pk_uLn hp', e1, zc_eq, pk_uLn hp']
        exact h4 p' hp'
      · rw [← hA, ← Nat.div_div_eq_div_mul]
      · rw [← hB, ← Nat.div_div_eq_div_mul, Nat.pow_succ, Nat.mul_div_cancel _ (by decide)]
theorem reduce_s {p k a : Nat} {S : zS} {L : zL} {P : zS → zL → Prop} (hp : p < 8) (hk : k < 63) (ha : a < 2 ^ 63) (h1 : L 66 p = lN a) (h2 : L 67 p = lN (2 ^ k)) (h : ∀ L', (∀ j, j ≠ 66 → j ≠ 67 → L' j = L j) → (∀ p', p' ≠ p → L' 66 p' = L 66 p' ∧ L' 67 p' = L 67 p') → L' 66 p = lN (a / Nat.gcd a (2 ^ k)) → L' 67 p = lN (2 ^ k / Nat.gcd a (2 ^ k)) → P S L') : zCv mX0_reduce S L [.ref 65, .int (nI p)] P :=
  e_X0_reduce (fun X => b_X0_reduce_0 (rd_l hp h k 0 a L (by omega) ha h1 h2 (fun _ _ _ => rfl) (fun _ _ => ⟨rfl, rfl⟩) rfl rfl))
/-! the sums, as the months have them -/
abbrev alv (pe de ro jo : List T3) (g c : Int32) (p s : Nat) : Bool := decide ((pC pe de ro jo (nI s) g c 24).2.1 p = -1)
theorem pVs_Sm {q n p : Nat} : pVs pe de ro jo g c q n p = Sm q n (alv pe de ro jo g c p) := by
  unfold pVs Sm
  rw [show pVs1 pe de ro jo g c q n p = (fun a s => a + (if alv pe de ro jo g c p s = true then pWg q n s else 0)) from ?_, foldl_sum, Nat.zero_add]
  funext a s
  unfold pVs1
  by_cases y : (pC pe de ro jo (nI s) g c 24).2.1 p = -1
  · rw [if_pos y, if_pos (decide_eq_true y)]
  · rw [if_neg y, if_neg (by rw [alv, decide_eq_false y]; decide)]
def isT (ro : List T3) (T n : Nat) : Prop := T < 2 ^ n ∧ ∀ m, m < 24 → (T.testBit m = true ↔ (m < n ∧ ∃ e ∈ ro, e.1 = nI m))
theorem tb_lt {s n m : Nat} (hs : s < 2 ^ n) (hm : n ≤ m) : s.testBit m = false := Nat.testBit_lt_two_pow (Nat.lt_of_lt_of_le hs (Nat.pow_le_pow_right (by decide) hm))
theorem alv_in {T n p : Nat} (hT : isT ro T n) : inT T n (alv pe de ro jo g c p) := by
  intro s s' hs hs' h
  have : pC pe de ro jo (nI s) g c 24 = pC pe de ro jo (nI s') g c 24 := by
    refine pC_fb 24 (fun m hm he => ?_)
    rw [pFr_n (by omega), pFr_n (by omega)]
    by_cases hmn : m < n
    · rw [h m hmn ((hT.2 m hm).mpr ⟨hmn, he⟩)]
    · rw [tb_lt hs (by omega), tb_lt hs' (by omega)]
  show decide _ = decide _
  rw [this]
theorem alv_f {f n p : Nat} (hf : f < 2 ^ n) (hn : n ≤ 24) : ((pCf pe de ro jo (fsl f n) g c n).2.1 p = -1) ↔ alv pe de ro jo g c p f = true := by
  have e1 : pC pe de ro jo (pMk (fsl f n) 0) g c n = pC pe de ro jo (nI f) g c n := by
    refine pC_fb n (fun m hm _ => ?_)
    rw [fsl_fr hn (by omega), pFr_n (by omega)]
    exact ⟨fun z => z.2, fun z => ⟨hm, z⟩⟩
  have e2 : (pC pe de ro jo (nI f) g c 24).2.1 = (pC pe de ro jo (nI f) g c n).2.1 := by
    have := pC_D (pe := pe) (de := de) (ro := ro) (jo := jo) (g := g) (c := c) (fb := nI f) (n := n) (24 - n) (fun m a b => by
      rw [pFr_n (by omega), tb_lt hf a]; decide)
    rw [show n + (24 - n) = 24 by omega] at this
    exact this
  unfold alv
  rw [decide_eq_true_iff, e2, ← e1]
theorem pVi_T {T q la p : Nat} (hq : q ≤ 16) (hT : isT ro T (la + 1)) : pVi pe de ro jo g c q la p = (lN (Sb q T (la + 1) (pcb (la + 1) T) (alv pe de ro jo g c p) / Nat.gcd (Sb q T (la + 1) (pcb (la + 1) T) (alv pe de ro jo g c p)) (2 ^ (4 * pcb (la + 1) T))), lN (2 ^ (4 * pcb (la + 1) T) / Nat.gcd (Sb q T (la + 1) (pcb (la + 1) T) (alv pe de ro jo g c p)) (2 ^ (4 * pcb (la + 1) T)))) := by
  unfold pVi
  have hle := pcb_le (la + 1) T
  have e1 : pVs pe de ro jo g c q (la + 1) p = 16 ^ (la + 1 - pcb (la + 1) T) * Sb q T (la + 1) (pcb (la + 1) T) (alv pe de ro jo g c p) := by
    rw [pVs_Sm]; exact Sm_Sb q hq (la + 1) _ (alv_in hT)
  have e2 : (2 : Nat) ^ (4 * (la + 1)) = 16 ^ (la + 1 - pcb (la + 1) T) * 2 ^ (4 * pcb (la + 1) T) := by
    rw [Nat.pow_mul, Nat.pow_mul, ← Nat.pow_add]
    congr 1
    omega
  have h0 : 0 < 16 ^ (la + 1 - pcb (la + 1) T) := Nat.pow_pos (by decide)
  rw [e1, e2, Nat.gcd_mul_left, Nat.mul_div_mul_left _ _ h0, Nat.mul_div_mul_left _ _ h0]
theorem pVs_lt {q la p : Nat} (hq : q ≤ 16) (hla : la ≤ 9) : pVs pe de ro jo g c q (la + 1) p < 2 ^ 62 := by
  have h1 := Sm_le q hq (la + 1) (alv pe de ro jo g c p)
  rw [pVs_Sm]
  have h2 : (2 : Nat) ^ (la + 1) ≤ 2 ^ 10 := Nat.pow_le_pow_right (by decide) (by omega)
  have h3 : (16 : Nat) ^ (la + 1) ≤ 16 ^ 10 := Nat.pow_le_pow_right (by decide) (by omega)
  have h4 := Nat.mul_le_mul h2 h3
  exact Nat.lt_of_le_of_lt (Nat.le_trans h1 h4) (by decide)
theorem Sb_lt {T q la p : Nat} (hq : q ≤ 16) (hla : la ≤ 9) (hT : isT ro T (la + 1)) : Sb q T (la + 1) (pcb (la + 1) T) (alv pe de ro jo g c p) < 2 ^ 62 := by
  have e1 : pVs pe de ro jo g c q (la + 1) p = 16 ^ (la + 1 - pcb (la + 1) T) * Sb q T (la + 1) (pcb (la + 1) T) (alv pe de ro jo g c p) := by
    rw [pVs_Sm]; exact Sm_Sb q hq (la + 1) _ (alv_in hT)
  have h := pVs_lt (pe := pe) (de := de) (ro := ro) (jo := jo) (g := g) (c := c) (p := p) hq hla
  have h0 : 0 < 16 ^ (la + 1 - pcb (la + 1) T) := Nat.pow_pos (by decide)
  rw [e1] at h
  exact Nat.lt_of_le_of_lt (Nat.le_mul_of_pos_left _ h0) h
end VC
