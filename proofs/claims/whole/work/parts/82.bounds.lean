/-! WHAT IS TOLD IS SOUND; how much there may be -/
theorem pIxF_ix {c : Int32} : ∀ (l : List Int32) (k : Nat), pIxF c l k = -1 ∨ ∃ q, q < k + l.length ∧ pIxF c l k = nI q
  | [], _ => Or.inl rfl
  | b :: l, k => by
    rw [pIxF]
    split
    · exact Or.inr ⟨k, by simp, rfl⟩
    · rcases pIxF_ix (c := c) l (k + 1) with h | ⟨q, h1, h2⟩
      · exact Or.inl h
      · exact Or.inr ⟨q, by simp at h1 ⊢; omega, h2⟩
theorem pIx_ix {x n : Nat} {c : Int32} (hx : (zSb.getD x []).length = n) (h : ¬ pIx x c < 0) : ∃ q, q < n ∧ pIx x c = nI q := by
  rcases pIxF_ix (c := c) (zSb.getD x []) 0 with z | ⟨q, h1, h2⟩
  · exact absurd (by unfold pIx; rw [z]; decide) h
  · exact ⟨q, by omega, h2⟩
theorem nI_n1 {j : Nat} (hj : j < 2000) : ¬ nI j = -1 := fun z => absurd (by rw [z]; decide) (nI_pos (n := j) (by omega))
theorem tLs_ok {x : Nat} (hx : x < 4) : ∀ (n i : Nat) (l : List Int32), l.length ≤ n → i + l.length < 1000 → i % 4 = 0 → tFs x i l = -1 → ∀ e ∈ tLs x l, ¬ e.1 < 0 ∧ ¬ e.2.1 < 0 ∧ ¬ e.2.2 < 0 := by
  intro n
  induction n with
  | zero =>
    intro i l hl _ _ _ e he
    have : l = [] := List.length_eq_zero_iff.mp (by omega)
    subst this
    cases he
  | succ n ih =>
    intro i l hl hb hi hf e he
    by_cases h0 : 0 < l.length
    · by_cases h1 : pIx x (l.getD 0 (-1)) < 0
      · rw [tFs_a hi (Or.inr h0) h1] at hf; exact absurd hf (nI_n1 (by omega))
      by_cases h2 : pIx (x + 1) (l.getD 1 (-1)) < 0
      · rw [tFs_b hx hi h1 h2] at hf; exact absurd hf (nI_n1 (by omega))
      by_cases h3 : pIx (x + 2) (l.getD 2 (-1)) < 0
      · rw [tFs_c hx hi h1 h2 h3] at hf; exact absurd hf (nI_n1 (by omega))
      obtain ⟨r, hr, k1, k2⟩ := tFs_d hx hi h1 h2 h3
      rw [hr, tLs_cons] at he
      rcases List.mem_cons.mp he with rfl | he
      · exact ⟨h1, h2, h3⟩
      · have hrl : l.length = r.length + 3 := by rw [hr]; simp
        cases r with
        | nil => cases he
        | cons d r' =>
          obtain ⟨k3, k4⟩ := k2 d r' rfl
          by_cases hd : d = 59
          · rw [k3 hd] at hf
            simp at hrl
            exact ih (i + 4) r' (by omega) (by omega) (by omega) hf e he
          · rw [k4 hd] at hf; exact absurd hf (nI_n1 (by omega))
    · have : l = [] := List.length_eq_zero_iff.mp (by omega)
      subst this
      cases he
theorem tLs_len {x : Nat} : ∀ (n : Nat) (l : List Int32), l.length ≤ n → 4 * (tLs x l).length ≤ l.length + 1 := by
  intro n
  induction n with
  | zero =>
    intro l hl
    have : l = [] := List.length_eq_zero_iff.mp (by omega)
    subst this
    simp [tLs]
  | succ n ih =>
    intro l hl
    by_cases h2 : l.length ≤ 2
    · rw [tLs_short h2]; simp
    · match l, h2 with
      | [], h2 => exact absurd (by simp) h2
      | [_], h2 => exact absurd (by simp) h2
      | [_, _], h2 => exact absurd (by simp) h2
      | a :: b :: c :: r, _ =>
        rw [tLs_cons]
        have h3 := ih (r.drop 1) (by simp at hl ⊢; omega)
        simp only [List.length_cons, List.length_drop] at h3 ⊢
        omega
theorem tLs_mem {x : Nat} : ∀ (n : Nat) (l : List Int32), l.length ≤ n → ∀ e ∈ tLs x l, ∃ a b c, e = (pIx x a, pIx (x + 1) b, pIx (x + 2) c) := by
  intro n
  induction n with
  | zero =>
    intro l hl e he
    have : l = [] := List.length_eq_zero_iff.mp (by omega)
    subst this
    cases he
  | succ n ih =>
    intro l hl e he
    by_cases h2 : l.length ≤ 2
    · rw [tLs_short h2] at he; cases he
    · match l, h2 with
      | [], h2 => exact absurd (by simp) h2
      | [_], h2 => exact absurd (by simp) h2
      | [_, _], h2 => exact absurd (by simp) h2
      | a :: b :: c :: r, _ =>
        rw [tLs_cons] at he
        rcases List.mem_cons.mp he with rfl | he
        · exact ⟨a, b, c, rfl⟩
        · exact ih (r.drop 1) (by simp at hl ⊢; omega) e he
theorem tL_0 {l : List Int32} (hl : l.length ≤ 31) : (tL 0 l).length ≤ 8 ∧ ∀ e ∈ tL 0 l, (∃ q, q < 3 ∧ e.1 = nI q) ∧ (∃ q, q < 4 ∧ e.2.1 = nI q) ∧ (∃ q, q < 10 ∧ e.2.2 = nI q) := by
  unfold tL
  split
  · rename_i hf
    refine ⟨?_, fun e he => ?_⟩
    · have := tLs_len (x := 0) _ l (Nat.le_refl _); omega
    · obtain ⟨h1, h2, h3⟩ := tLs_ok (x := 0) (by omega) _ 0 l (Nat.le_refl _) (by omega) rfl hf e he
      obtain ⟨a, b, c, rfl⟩ := tLs_mem _ l (Nat.le_refl _) e he
      exact ⟨pIx_ix (x := 0) rfl h1, pIx_ix (x := 1) rfl h2, pIx_ix (x := 2) rfl h3⟩
  · exact ⟨by simp, fun e he => by cases he⟩
theorem tL_1 {l : List Int32} (hl : l.length ≤ 39) : (tL 3 l).length ≤ 10 ∧ ∀ e ∈ tL 3 l, (∃ q, q < 24 ∧ e.1 = nI q) ∧ (∃ q, q < 8 ∧ e.2.1 = nI q) ∧ (∃ q, q < 4 ∧ e.2.2 = nI q) := by
  unfold tL
  split
  · rename_i hf
    refine ⟨?_, fun e he => ?_⟩
    · have := tLs_len (x := 3) _ l (Nat.le_refl _); omega
    · obtain ⟨h1, h2, h3⟩ := tLs_ok (x := 3) (by omega) _ 0 l (Nat.le_refl _) (by omega) rfl hf e he
      obtain ⟨a, b, c, rfl⟩ := tLs_mem _ l (Nat.le_refl _) e he
      exact ⟨pIx_ix (x := 3) rfl h1, pIx_ix (x := 4) rfl h2, pIx_ix (x := 5) rfl h3⟩
  · exact ⟨by simp, fun e he => by cases he⟩
/-! sums that stay within -/
theorem i_add {a b : Int32} (h1 : -2147483648 ≤ a.toInt + b.toInt) (h2 : a.toInt + b.toInt < 2147483648) : (a + b).toInt = a.toInt + b.toInt := by
  rw [Int32.toInt_add]; exact Int.bmod_eq_of_le (by simpa using h1) (by simpa using h2)
theorem i_sub {a b : Int32} (h1 : -2147483648 ≤ a.toInt - b.toInt) (h2 : a.toInt - b.toInt < 2147483648) : (a - b).toInt = a.toInt - b.toInt := by
  rw [Int32.toInt_sub]; exact Int.bmod_eq_of_le (by simpa using h1) (by simpa using h2)
theorem i_mul {a b : Int32} (h1 : -2147483648 ≤ a.toInt * b.toInt) (h2 : a.toInt * b.toInt < 2147483648) : (a * b).toInt = a.toInt * b.toInt := by
  rw [Int32.toInt_mul]; exact Int.bmod_eq_of_le (by simpa using h1) (by simpa using h2)
theorem pGr_b (w x : Int32) : 0 ≤ (pGr w x).toInt ∧ (pGr w x).toInt ≤ 18 := by
  unfold pGr pWt
  (repeat' split) <;> decide
theorem pWm_b (w : Int32) : 0 ≤ (pWm w).toInt ∧ (pWm w).toInt ≤ 3 := by
  unfold pWm
  (repeat' split) <;> decide
/-- wool within W, all that is shorn within T -/
def pBd (np : Nat) (W T : Int) (N : pF) : Prop := pOk np N ∧ (∀ p, p < np → 0 ≤ (N p).toInt ∧ (N p).toInt ≤ W) ∧ ∀ j, 24 ≤ j → j < 41 → j ≠ 32 → 0 ≤ (N j).toInt ∧ (N j).toInt ≤ T
theorem foldl_cnt {α β : Type} {f : α → β → α} (I : Nat → α → Prop) : ∀ (l : List β) (a : α) (k : Nat), I k a → (∀ k a b, b ∈ l → k < 10 + l.length + k → I k a → I (k + 1) (f a b)) → I (k + l.length) (l.foldl f a)
  | [], _, _, h, _ => h
  | b :: l, a, k, h, hs => by
    have := foldl_cnt I l (f a b) (k + 1) (hs k a b List.mem_cons_self (by omega) h) (fun k' a' b' hb _ h' => hs k' a' b' (List.mem_cons_of_mem _ hb) (by omega) h')
    rw [List.foldl_cons, List.length_cons, show k + (l.length + 1) = k + 1 + l.length by omega]
    exact this
theorem pBd_upd {np w : Nat} {W W' T : Int} {N : pF} {x : Int32} (h : pBd np W T N) (hn : np ≤ 8) (hw : w < 8) (hW : W ≤ W') (hx : 0 ≤ x.toInt ∧ x.toInt ≤ W') : pBd np W' T (upd N w x) := by
  obtain ⟨h1, h2, h3⟩ := h
  refine ⟨pOk_upd h1 hn (by omega), fun p hp => ?_, fun j a b c => ?_⟩
  · simp only [upd]
    split
    · exact hx
    · have := h2 p hp; omega
  · simp only [upd]
    rw [if_neg (by omega)]
    exact h3 j a b c
theorem pBd_dds {pe de : List T3} {D N : pF} {mo : Int32} {W T : Int} (hn : pe.length ≤ 8 ∧ de.length ≤ 10) (hW : 0 ≤ W ∧ W < 100000) (h : pBd pe.length W T N) : pBd pe.length (W + 180) T (pDds pe de D mo N).1 := by
  have key := foldl_cnt (f := pDd pe D mo) (fun k (s : pF × Int32) => k ≤ 10 → pBd pe.length (W + 18 * k) T s.1) de (N, 0) 0 (by intro _; simpa using h) (by
    intro k s d _ _ hs hk
    have hs := hs (by omega)
    unfold pDd
    split
    · rename_i z
      obtain ⟨w, hw, hwe, -⟩ := pLv_ix z.2 (by omega)
      rw [hwe, cl_nI (by omega)]
      have hg := pGr_b (pWl pe w) d.2.2
      have hb := hs.2.1 w hw
      refine pBd_upd hs hn.1 (by omega) (by omega) ?_
      rw [i_add (by omega) (by omega)]
      omega
    · obtain ⟨a, b, c⟩ := hs
      exact ⟨a, fun p hp => by have := b p hp; omega, c⟩)
  obtain ⟨a, b, c⟩ := key (by omega)
  unfold pDds
  exact ⟨a, fun p hp => by have := b p hp; omega, c⟩
theorem pBd_mo {np : Nat} {D N : pF} {g b : Int32} {W T : Int} (hn : np ≤ 8) (hW : W < 100000) (h : pBd np W T N) : pBd np W T (pMo np D g b N) := by
  refine foldl_inv (I := fun s : pF => pBd np W T s) _ N h ?_
  intro s p hp hs
  unfold pMo1
  split
  · rename_i z
    have hb := hs.2.1 p (List.mem_range.mp hp)
    have hz : 0 < (s p).toInt := by
      have := Int32.lt_iff_toInt_lt.mp (i32_lt z.1)
      simpa using this
    have e1 : (1 : Int32).toInt = 1 := by decide
    refine pBd_upd hs hn (by have := List.mem_range.mp hp; omega) (Int.le_refl _) ?_
    rw [i_sub (by omega) (by omega), e1]
    omega
  · exact hs
theorem pCa_b {x : Int32} (h : 0 ≤ x.toInt) : 0 ≤ (pCa x).toInt ∧ (pCa x).toInt ≤ x.toInt := by
  unfold pCa
  have e2 : (2 : Int32).toInt = 2 := by decide
  split
  · exact ⟨h, Int.le_refl _⟩
  · rename_i z
    have : ¬ x.toInt < 2 := fun y => z (Int32.lt_iff_toInt_lt.mpr (by rw [e2]; exact y))
    rw [e2]; omega
theorem pBd_trs {np : Nat} {jo : List T3} {D N : pF} {mo : Int32} {W T : Int} (hn : np ≤ 8) (hW : W < 100000) (hj : ∀ e ∈ jo, ∃ q, q < 4 ∧ e.2.2 = nI q) (h : pBd np W T N) : pBd np W T (pTrs np jo D mo N) := by
  refine ⟨pOk_trs hn hj h.1, ?_⟩
  have key := foldl_inv (f := pTr np D mo) (I := fun s : pF => (∀ p, p < np → 0 ≤ (s p).toInt ∧ (s p).toInt ≤ W) ∧ ∀ j, 24 ≤ j → j < 41 → j ≠ 32 → 0 ≤ (s j).toInt ∧ (s j).toInt ≤ T) jo N h.2 (by
    intro s e _ hs
    unfold pTr
    split
    · rename_i z
      obtain ⟨w, hw, hwe, -⟩ := pLv_ix z.2.1 (by omega)
      rw [hwe, cl_nI (by omega)]
      have hb := hs.1 w hw
      have hc := pCa_b hb.1
      refine ⟨fun p hp => ?_, fun j a b c => ?_⟩
      · simp only [pTrN, upd]
        rw [if_neg (by omega), if_neg (by omega)]
        split
        · rw [i_sub (by omega) (by omega)]; omega
        · exact hs.1 p hp
      · simp only [pTrN, upd]
        rw [if_neg (by omega), if_neg (by omega), if_neg (by omega)]
        exact hs.2 j a b c
    · exact hs)
  exact key
theorem pBd_rn {pe : List T3} {cold mo cty : Int32} {fr : Prop} [Decidable fr] {s : pZ} {W T : Int} (hn : pe.length ≤ 8) (hW : 0 ≤ W ∧ W < 100000) (hT : 0 ≤ T ∧ T < 100000000) (h : pBd pe.length W T s.1) : pBd pe.length W (T + 3 * W) (pRn pe cold mo fr cty s).1 := by
  unfold pRn
  split
  · exact ⟨h.1, h.2.1, fun j a b c => by have := h.2.2 j a b c; omega⟩
  · rename_i z
    rcases pWo_ix (np := pe.length) (N := s.1) (D := s.2.1) (cty := cty) with h1 | ⟨w, hw, h1, -⟩
    · exact absurd h1 z
    · rw [h1, cl_nI (by omega)]
      obtain ⟨cy, hcy, hcye⟩ := h.1 w hw
      have hcl : (s.1 (8 + w)).toNatClampNeg = cy := by rw [hcye, cl_nI (by omega)]
      obtain ⟨v1, v2, v3, v4, v5, v6, v7⟩ := pShN_vals (pe := pe) (N := s.1) (by omega) hcl hcy
      have hb := h.2.1 w hw
      have hm := pWm_b (pWl pe w)
      have hmul1 : 0 ≤ (s.1 w).toInt * (pWm (pWl pe w)).toInt := Int.mul_nonneg hb.1 hm.1
      have hmul2 : (s.1 w).toInt * (pWm (pWl pe w)).toInt ≤ W * 3 := Int.mul_le_mul hb.2 hm.2 hm.1 hW.1
      refine ⟨pOk_shN hn hw h.1, fun p hp => ?_, fun j a b c => ?_⟩
      · show 0 ≤ (pShN pe s.1 w p).toInt ∧ _
        have e : (pSh pe cold mo fr s w).1 p = pShN pe s.1 w p := rfl
        rw [e, v1 p (by omega)]
        split
        · have : (0 : Int32).toInt = 0 := by decide
          rw [this]; omega
        · exact h.2.1 p hp
      · have e : (pSh pe cold mo fr s w).1 j = pShN pe s.1 w j := rfl
        rw [e]
        have hj := h.2.2 j a b c
        by_cases j1 : j < 28
        · obtain ⟨q, rfl⟩ : ∃ q, j = 24 + q := ⟨j - 24, by omega⟩
          rw [v5 q (by omega)]
          split
          · rw [i_add (by omega) (by omega)]; omega
          · omega
        · by_cases j2 : j < 32
          · obtain ⟨q, rfl⟩ : ∃ q, j = 28 + q := ⟨j - 28, by omega⟩
            rw [v6 q (by omega)]
            split
            · have em := i_mul (a := s.1 w) (b := pWm (pWl pe w)) (by omega) (by omega)
              rw [i_add (by omega) (by omega), em]; omega
            · omega
          · obtain ⟨q, rfl⟩ : ∃ q, j = 33 + q := ⟨j - 33, by omega⟩
            rw [v4 q (by omega)]
            split
            · rw [i_add (by omega) (by omega)]; omega
            · omega
theorem pBd_it {pe : List T3} {cold mo cty : Int32} {fr : Prop} [Decidable fr] {W : Int} (hn : pe.length ≤ 8) (hW : 0 ≤ W ∧ W < 100000) : ∀ (n : Nat) (s : pZ) (T : Int), 0 ≤ T ∧ T + 3 * W * n < 100000000 → pBd pe.length W T s.1 → pBd pe.length W (T + 3 * W * n) (pIt (pRn pe cold mo fr cty) n s).1
  | 0, s, T, _, h => by simpa [pIt] using h
  | n + 1, s, T, hT, h => by
    have e : T + 3 * W * ((n + 1 : Nat) : Int) = T + 3 * W + 3 * W * (n : Int) := by
      rw [Int.natCast_add, Int.mul_add]; simp; omega
    have hp : 0 ≤ 3 * W * (n : Int) := Int.mul_nonneg (by omega) (by omega)
    have := pBd_it (cold := cold) (mo := mo) (cty := cty) (fr := fr) hn hW n (pRn pe cold mo fr cty s) (T + 3 * W) (by omega) (pBd_rn hn hW (by omega) h)
    rw [pIt, e]; exact this
theorem pBd_mono {np : Nat} {W T W' T' : Int} {N : pF} (h : pBd np W T N) (h1 : W ≤ W') (h2 : T ≤ T') : pBd np W' T' N := ⟨h.1, fun p hp => by have := h.2.1 p hp; omega, fun j a b c => by have := h.2.2 j a b c; omega⟩
theorem pBd_rds {pe ro : List T3} {cold mo : Int32} {fr : Prop} [Decidable fr] {s : pZ} {W T : Int} (hn : pe.length ≤ 8 ∧ ro.length ≤ 9) (hp : ∀ e ∈ ro, ∃ q, q ≤ 4 ∧ e.2.2 = nI q) (hW : 0 ≤ W ∧ W < 5000) (hT : 0 ≤ T ∧ T < 50000000) (h : pBd pe.length W T s.1) : pBd pe.length W (T + 108 * W) (ro.foldl (pRd pe cold mo fr) s).1 := by
  have key := foldl_cnt (f := pRd pe cold mo fr) (fun k (s : pZ) => k ≤ 9 → pBd pe.length W (T + 12 * W * k) s.1) ro s 0 (by intro _; simpa using h) (by
    intro k a r hr _ ha hk
    have ha := ha (by omega)
    have e : T + 12 * W * ((k + 1 : Nat) : Int) = T + 12 * W * (k : Int) + 12 * W := by
      rw [Int.natCast_add, Int.mul_add]; simp; omega
    have b0 : 0 ≤ 12 * W * (k : Int) := Int.mul_nonneg (by omega) (by omega)
    have b1 : 12 * W * (k : Int) ≤ 12 * W * 9 := Int.mul_le_mul_of_nonneg_left (by omega) (by omega)
    rw [e]
    unfold pRd
    split
    · obtain ⟨q, hq, hqe⟩ := hp r hr
      rw [hqe, cl_nI (by omega)]
      have c0 : 0 ≤ 3 * W * (q : Int) := Int.mul_nonneg (by omega) (by omega)
      have c1 : 3 * W * (q : Int) ≤ 3 * W * 4 := Int.mul_le_mul_of_nonneg_left (by omega) (by omega)
      exact pBd_mono (pBd_it hn.1 (by omega) q a _ (by omega) ha) (Int.le_refl _) (by omega)
    · exact pBd_mono ha (Int.le_refl _) (by omega))
  have b1 : 12 * W * ((0 + ro.length : Nat) : Int) ≤ 12 * W * 9 := Int.mul_le_mul_of_nonneg_left (by omega) (by omega)
  exact pBd_mono (key (by omega)) (Int.le_refl _) (by omega)
/-- the lists are such as may be told, or planned -/
def xW (pe de ro jo fs : List T3) : Prop := pWf pe de ro jo fs ∧ (∀ e ∈ pe, ∃ q, q < 10 ∧ e.2.2 = nI q) ∧ (∀ e ∈ ro, ∃ q, q ≤ 4 ∧ e.2.2 = nI q)
theorem xW.m {pe de ro jo fs : List T3} (h : xW pe de ro jo fs) : mWf pe de ro jo := by
  obtain ⟨⟨⟨a, b, c, d, -⟩, h1, h2, -, -, -, -, h3⟩, -⟩ := h
  exact ⟨⟨a, b, c, d⟩, h1, h2, h3⟩
theorem pBd_C {pe de ro jo fs : List T3} {fb g c : Int32} (hW : xW pe de ro jo fs) : ∀ m : Nat, m ≤ 24 → pBd pe.length (9 + 180 * (m : Int)) (467532 * (m : Int)) (pC pe de ro jo fb g c m).1
  | 0, _ => by
    obtain ⟨⟨⟨l1, -⟩, w1, -⟩, w2, -⟩ := hW
    have hv := pN0_vals l1
    have z0 : (0 : Int32).toInt = 0 := by decide
    refine ⟨pOk_0 l1 w1, fun p hp => ?_, fun j a b d => ?_⟩
    · have e : (pC pe de ro jo fb g c 0).1 p = (pe.getD p (0, 0, 0)).2.2 := (hv.1 p hp).1
      obtain ⟨q, hq, hqe⟩ := w2 _ (List.mem_of_getElem? (getD_at (l := pe) hp))
      rw [e, hqe, nI_toInt (by omega)]; omega
    · have e : (pC pe de ro jo fb g c 0).1 j = 0 := by
        show pN0 pe j = 0
        simp only [pN0]
        rw [if_neg (by omega), if_neg (by omega)]
      rw [e, z0]; omega
  | m + 1, hm => by
    have h := pBd_C (fb := fb) (g := g) (c := c) hW m (by omega)
    obtain ⟨⟨⟨l1, l2, l3, l4, -⟩, w1, w2, -⟩, -, w3⟩ := hW
    rw [pC, pMs]
    have h1 := pBd_dds (de := de) (D := (pC pe de ro jo fb g c m).2.1) (mo := nI m) ⟨l1, l2⟩ (by omega) h
    have h2 := pBd_trs (jo := jo) (D := (pC pe de ro jo fb g c m).2.1) (mo := nI m) l1 (by omega) w2 (pBd_mo (D := (pC pe de ro jo fb g c m).2.1) (g := g) (b := (pDds pe de (pC pe de ro jo fb g c m).2.1 (nI m) (pC pe de ro jo fb g c m).1).2) l1 (by omega) h1)
    exact pBd_mono (pBd_rds (ro := ro) (cold := c) (mo := nI m) (fr := pFr fb m) (s := (_, (pC pe de ro jo fb g c m).2)) ⟨l1, l3⟩ w3 (by omega) (by omega) h2) (by omega) (by omega)
/-! deaths -/
def pDi (n : Nat) (D : pF) : Prop := ∀ p, D p = -1 ∨ ∃ q, q < n ∧ D p = nI q
/-- D' comes out of D in month m -/
def pDs (m : Nat) (D D' : pF) : Prop := ∀ p, D' p = D p ∨ (D p = -1 ∧ D' p = nI m)
theorem pDs.trans {m : Nat} {D D' D'' : pF} (h1 : pDs m D D') (h2 : pDs m D' D'') (hm : m < 2000) : pDs m D D'' := by
  intro p
  rcases h1 p with a | ⟨a, b⟩ <;> rcases h2 p with c | ⟨c, d⟩
  · exact Or.inl (c.trans a)
  · exact Or.inr ⟨by rw [← a]; exact c, d⟩
  · exact Or.inr ⟨a, by rw [c]; exact b⟩
  · exact absurd (b.symm.trans c) (nI_n1 hm)
theorem pDs_rn {pe : List T3} {cold cty : Int32} {m : Nat} {fr : Prop} [Decidable fr] {s : pZ} (hn : pe.length ≤ 8) : pDs m s.2.1 (pRn pe cold (nI m) fr cty s).2.1 := by
  unfold pRn
  split
  · exact fun p => Or.inl rfl
  · rename_i z
    rcases pWo_ix (np := pe.length) (N := s.1) (D := s.2.1) (cty := cty) with h1 | ⟨w, hw, h1, -, h2⟩
    · exact absurd h1 z
    · rw [h1, cl_nI (by omega)]
      intro p
      simp only [pSh]
      split
      · by_cases hp : p = w
        · subst hp; exact Or.inr ⟨h2, by simp [upd]⟩
        · exact Or.inl (by simp [upd, hp])
      · exact Or.inl rfl
theorem pDs_C {pe de ro jo : List T3} {fb g c : Int32} (hn : pe.length ≤ 8) (m : Nat) (hm : m < 2000) : pDs m (pC pe de ro jo fb g c m).2.1 (pC pe de ro jo fb g c (m + 1)).2.1 := by
  rw [pC, pMs]
  generalize hz : (pTrs pe.length jo (pC pe de ro jo fb g c m).2.1 (nI m) (pMo pe.length (pC pe de ro jo fb g c m).2.1 g (pDds pe de (pC pe de ro jo fb g c m).2.1 (nI m) (pC pe de ro jo fb g c m).1).2 (pDds pe de (pC pe de ro jo fb g c m).2.1 (nI m) (pC pe de ro jo fb g c m).1).1), (pC pe de ro jo fb g c m).2) = s0
  have e0 : (pC pe de ro jo fb g c m).2.1 = s0.2.1 := by rw [← hz]
  rw [e0]
  refine foldl_inv (f := pRd pe c (nI m) (pFr fb m)) (I := fun s : pZ => pDs m s0.2.1 s.2.1) ro s0 (fun p => Or.inl rfl) ?_
  intro a r _ ha
  unfold pRd
  split
  · exact pIt_inv (I := fun s : pZ => pDs m s0.2.1 s.2.1) (fun s hs => hs.trans (pDs_rn hn) hm) _ _ ha
  · exact ha
theorem pDi_C {pe de ro jo : List T3} {fb g c : Int32} (hn : pe.length ≤ 8) : ∀ m, m < 2000 → pDi m (pC pe de ro jo fb g c m).2.1
  | 0, _ => fun p => Or.inl rfl
  | m + 1, hm => by
    intro p
    rcases pDs_C (de := de) (ro := ro) (jo := jo) (fb := fb) (g := g) (c := c) hn m (by omega) p with h | ⟨-, h⟩
    · rcases pDi_C (de := de) (ro := ro) (jo := jo) (fb := fb) (g := g) (c := c) hn m (by omega) p with h2 | ⟨q, hq, h2⟩
      · exact Or.inl (h.trans h2)
      · exact Or.inr ⟨q, by omega, h.trans h2⟩
    · exact Or.inr ⟨m, by omega, h⟩
/-- who lives behind a month, by the deaths at the end -/
theorem pD_24 {pe de ro jo : List T3} {fb g c : Int32} (hn : pe.length ≤ 8) {m p : Nat} : ∀ d, m + 1 + d ≤ 24 → ((pC pe de ro jo fb g c (m + 1)).2.1 p = -1 ↔ ((pC pe de ro jo fb g c (m + 1 + d)).2.1 p = -1 ∨ nI m < (pC pe de ro jo fb g c (m + 1 + d)).2.1 p)) := by
  intro d
  induction d with
  | zero =>
    intro hm
    rw [Nat.add_zero]
    constructor
    · exact Or.inl
    · rintro (h | h)
      · exact h
      · rcases pDi_C (de := de) (ro := ro) (jo := jo) (fb := fb) (g := g) (c := c) hn (m + 1) (by omega) p with z | ⟨q, hq, z⟩
        · exact z
        · rw [z] at h; exact absurd ((nI_ltI (by omega) (by omega)).mp h) (by omega)
  | succ d ih =>
    intro hm
    rw [ih (by omega)]
    rcases pDs_C (de := de) (ro := ro) (jo := jo) (fb := fb) (g := g) (c := c) hn (m + 1 + d) (by omega) p with h | ⟨h1, h2⟩
    · rw [show m + 1 + (d + 1) = m + 1 + d + 1 by omega, h]
    · rw [show m + 1 + (d + 1) = m + 1 + d + 1 by omega, h1, h2]
      exact ⟨fun _ => Or.inr (nI_lt (by omega) (by omega)), fun _ => Or.inl rfl⟩
