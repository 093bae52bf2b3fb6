/-! FROSTS BY CHANCE: the sums -/
def pcb : Nat → Nat → Nat
  | 0, _ => 0
  | n + 1, f => pcb n f + (if f.testBit n = true then 1 else 0)
def sbw (T : Nat) : Nat → List (Nat × Nat)
  | 0 => [(0, 0)]
  | n + 1 => if T.testBit n = true then sbw T n ++ (sbw T n).map (fun x => (2 ^ n + x.1, x.2 + 1)) else sbw T n
def chn (T : Nat) : List (Nat × Nat) → Bool
  | a :: b :: l => ((((4294967296 - T + a.1) % 4294967296) &&& T) == b.1) && chn T (b :: l)
  | _ => true
def chk (T n : Nat) : Bool := chn T (sbw T n) && (sbw T n).all (fun x => pcb 10 x.1 == x.2)
def chAll : Bool := (List.range 11).all (fun n => (List.range (2 ^ n)).all (fun T => chk T n))
theorem chAll_ok : chAll = true := by decide +kernel
theorem chk_ok {T n : Nat} (hn : n ≤ 10) (hT : T < 2 ^ n) : chk T n = true := by
  have h := chAll_ok
  unfold chAll at h
  have h1 := List.all_eq_true.mp h n (List.mem_range.mpr (by omega))
  exact List.all_eq_true.mp h1 T (List.mem_range.mpr hT)
theorem pcb_le : ∀ (n f : Nat), pcb n f ≤ n
  | 0, _ => Nat.le_refl _
  | n + 1, f => by
    have := pcb_le n f
    rw [pcb]; split <;> omega
theorem sbw_len (T : Nat) : ∀ n, (sbw T n).length = 2 ^ pcb n T
  | 0 => rfl
  | n + 1 => by
    rw [sbw, pcb]
    split
    · rw [List.length_append, List.length_map, sbw_len T n, Nat.pow_succ]; omega
    · rw [Nat.add_zero]; exact sbw_len T n
theorem sbw_le (T : Nat) : ∀ n, ∀ x ∈ sbw T n, x.2 ≤ pcb n T
  | 0 => fun x hx => by
    rw [sbw, List.mem_singleton] at hx
    rw [hx]; exact Nat.zero_le _
  | n + 1 => fun x hx => by
    rw [sbw] at hx
    rw [pcb]
    by_cases h : T.testBit n = true
    · rw [if_pos h] at hx ⊢
      rcases List.mem_append.mp hx with y | y
      · have := sbw_le T n x y; omega
      · obtain ⟨z, hz, rfl⟩ := List.mem_map.mp y
        have := sbw_le T n z hz
        show z.2 + 1 ≤ _
        omega
    · rw [if_neg h] at hx ⊢
      exact sbw_le T n x hx
theorem sbw_lt (T : Nat) : ∀ n, ∀ x ∈ sbw T n, x.1 < 2 ^ n
  | 0 => fun x hx => by
    rw [sbw, List.mem_singleton] at hx
    rw [hx]; decide
  | n + 1 => fun x hx => by
    rw [sbw] at hx
    rw [Nat.pow_succ]
    by_cases h : T.testBit n = true
    · rw [if_pos h] at hx
      rcases List.mem_append.mp hx with y | y
      · have := sbw_lt T n x y; omega
      · obtain ⟨z, hz, rfl⟩ := List.mem_map.mp y
        have := sbw_lt T n z hz
        show 2 ^ n + z.1 < _
        omega
    · rw [if_neg h] at hx
      have := sbw_lt T n x hx; omega
theorem sbw_sub (T : Nat) : ∀ n, ∀ x ∈ sbw T n, ∀ m, x.1.testBit m = true → T.testBit m = true
  | 0 => fun x hx m hm => by
    rw [sbw, List.mem_singleton] at hx
    rw [hx, Nat.zero_testBit] at hm
    exact absurd hm (by decide)
  | n + 1 => fun x hx m hm => by
    rw [sbw] at hx
    by_cases h : T.testBit n = true
    · rw [if_pos h] at hx
      rcases List.mem_append.mp hx with y | y
      · exact sbw_sub T n x y m hm
      · obtain ⟨z, hz, rfl⟩ := List.mem_map.mp y
        have hz2 := sbw_lt T n z hz
        rcases Nat.lt_trichotomy m n with a | a | a
        · exact sbw_sub T n z hz m (by rw [← Nat.testBit_two_pow_add_gt a]; exact hm)
        · rw [a]; exact h
        · have : 2 ^ n + z.1 < 2 ^ m := Nat.lt_of_lt_of_le (show 2 ^ n + z.1 < 2 ^ (n + 1) by rw [Nat.pow_succ]; omega) (Nat.pow_le_pow_right (by decide) a)
          have e := Nat.testBit_lt_two_pow this
          rw [show (2 ^ n + z.1, z.2 + 1).1 = 2 ^ n + z.1 from rfl, e] at hm
          exact absurd hm (by decide)
    · rw [if_neg h] at hx
      exact sbw_sub T n x hx m hm
theorem sum_mul {α : Type} (k : Nat) (f : α → Nat) : ∀ l : List α, (l.map (fun x => f x * k)).sum = (l.map f).sum * k
  | [] => by simp
  | a :: l => by rw [List.map_cons, List.sum_cons, sum_mul k f l, List.map_cons, List.sum_cons, Nat.add_mul]
theorem sum_congr {α : Type} {f g : α → Nat} {l : List α} (h : ∀ x ∈ l, f x = g x) : (l.map f).sum = (l.map g).sum := by
  rw [List.map_congr_left h]
theorem sum_le {α : Type} {f : α → Nat} {k : Nat} : ∀ l : List α, (∀ x ∈ l, f x ≤ k) → (l.map f).sum ≤ l.length * k
  | [], _ => Nat.zero_le _
  | a :: l, h => by
    have h1 := sum_le l (fun x hx => h x (List.mem_cons_of_mem _ hx))
    have h2 := h a (List.mem_cons_self ..)
    rw [List.map_cons, List.sum_cons, List.length_cons, Nat.add_mul, Nat.one_mul]
    omega
theorem foldl_sum {α : Type} (g : α → Nat) : ∀ (l : List α) (a : Nat), l.foldl (fun a s => a + g s) a = a + (l.map g).sum
  | [], a => by simp
  | x :: l, a => by rw [List.foldl_cons, foldl_sum g l, List.map_cons, List.sum_cons]; omega
section SUM
variable (q : Nat)
def Sm (n : Nat) (A : Nat → Bool) : Nat := ((List.range (2 ^ n)).map (fun s => if A s = true then pWg q n s else 0)).sum
def Sb (T n t : Nat) (A : Nat → Bool) : Nat := ((sbw T n).map (fun x => if A x.1 = true then q ^ x.2 * (16 - q) ^ (t - x.2) else 0)).sum
theorem pWg_add {n s : Nat} : ∀ k, k ≤ n → pWg q k (2 ^ n + s) = pWg q k s
  | 0, _ => rfl
  | k + 1, h => by rw [pWg, pWg, pWg_add k (by omega), Nat.testBit_two_pow_add_gt (by omega)]
theorem Sm_succ (n : Nat) (A : Nat → Bool) : Sm q (n + 1) A = Sm q n A * (16 - q) + Sm q n (fun s => A (2 ^ n + s)) * q := by
  have e : (2 : Nat) ^ (n + 1) = 2 ^ n + 2 ^ n := by rw [Nat.pow_succ]; omega
  unfold Sm
  rw [e, List.range_add, List.map_append, List.sum_append, List.map_map, ← sum_mul, ← sum_mul]
  congr 1
  · refine sum_congr (fun s hs => ?_)
    have hs : s < 2 ^ n := List.mem_range.mp hs
    split
    · rw [pWg, Nat.testBit_lt_two_pow hs]; rfl
    · rw [Nat.zero_mul]
  · refine sum_congr (fun s hs => ?_)
    have hs : s < 2 ^ n := List.mem_range.mp hs
    show (if A (2 ^ n + s) = true then pWg q (n + 1) (2 ^ n + s) else 0) = _
    split
    · rw [pWg, pWg_add q n (Nat.le_refl _), Nat.testBit_two_pow_add_eq, Nat.testBit_lt_two_pow hs]; rfl
    · rw [Nat.zero_mul]
theorem Sm_congr {n : Nat} {A B : Nat → Bool} (h : ∀ s, s < 2 ^ n → A s = B s) : Sm q n A = Sm q n B := by
  unfold Sm
  refine sum_congr (fun s hs => ?_)
  rw [h s (List.mem_range.mp hs)]
def inT (T n : Nat) (A : Nat → Bool) : Prop := ∀ s s', s < 2 ^ n → s' < 2 ^ n → (∀ m, m < n → T.testBit m = true → s.testBit m = s'.testBit m) → A s = A s'
theorem Sm_Sb {T : Nat} (hq : q ≤ 16) : ∀ (n : Nat) (A : Nat → Bool), inT T n A → Sm q n A = 16 ^ (n - pcb n T) * Sb q T n (pcb n T) A
  | 0, A, _ => by
    unfold Sm Sb
    simp [sbw, pcb, pWg]
  | n + 1, A, h => by
    have e2 : (2 : Nat) ^ (n + 1) = 2 ^ n + 2 ^ n := by rw [Nat.pow_succ]; omega
    have h1 : inT T n A := fun s s' a b hm => h s s' (by omega) (by omega) (fun m hm1 hm2 => by
      by_cases hmn : m = n
      · rw [hmn, Nat.testBit_lt_two_pow a, Nat.testBit_lt_two_pow b]
      · exact hm m (by omega) hm2)
    have h2 : inT T n (fun s => A (2 ^ n + s)) := fun s s' a b hm => h _ _ (by omega) (by omega) (fun m hm1 hm2 => by
      by_cases hmn : m = n
      · rw [hmn, Nat.testBit_two_pow_add_eq, Nat.testBit_two_pow_add_eq, Nat.testBit_lt_two_pow a, Nat.testBit_lt_two_pow b]
      · rw [Nat.testBit_two_pow_add_gt (by omega), Nat.testBit_two_pow_add_gt (by omega)]; exact hm m (by omega) hm2)
    have hle := pcb_le n T
    rw [Sm_succ, pcb]
    by_cases ht : T.testBit n = true
    · rw [if_pos ht, Sm_Sb hq n A h1, Sm_Sb hq n _ h2, show n + 1 - (pcb n T + 1) = n - pcb n T by omega, Nat.mul_assoc, Nat.mul_assoc, ← Nat.mul_add]
      congr 1
      unfold Sb
      rw [show sbw T (n + 1) = sbw T n ++ (sbw T n).map (fun x => (2 ^ n + x.1, x.2 + 1)) by rw [sbw, if_pos ht], List.map_append, List.sum_append, List.map_map, ← sum_mul, ← sum_mul]
      congr 1
      · refine sum_congr (fun x hx => ?_)
        have := sbw_le T n x hx
        split
        · rw [show pcb n T + 1 - x.2 = (pcb n T - x.2) + 1 by omega, Nat.pow_succ, Nat.mul_assoc]
        · rw [Nat.zero_mul]
      · refine sum_congr (fun x hx => ?_)
        show _ = (if A (2 ^ n + x.1) = true then q ^ (x.2 + 1) * (16 - q) ^ (pcb n T + 1 - (x.2 + 1)) else 0)
        split
        · rw [show pcb n T + 1 - (x.2 + 1) = pcb n T - x.2 by omega, Nat.pow_succ, Nat.mul_assoc, Nat.mul_assoc, Nat.mul_comm q]
        · rw [Nat.zero_mul]
    · rw [if_neg ht]
      simp only [Nat.add_zero]
      have e : Sm q n (fun s => A (2 ^ n + s)) = Sm q n A := Sm_congr q (fun s hs => h _ _ (by omega) (by omega) (fun m hm1 hm2 => by
        by_cases hmn : m = n
        · rw [hmn] at hm2; exact absurd hm2 ht
        · rw [Nat.testBit_two_pow_add_gt (by omega)]))
      rw [e, ← Nat.mul_add, show 16 - q + q = 16 by omega, Sm_Sb hq n A h1, show n + 1 - pcb n T = (n - pcb n T) + 1 by omega, Nat.pow_succ]
      have : Sb q T (n + 1) (pcb n T) A = Sb q T n (pcb n T) A := by unfold Sb; rw [sbw, if_neg ht]
      rw [this, Nat.mul_right_comm]
theorem pWg_le (hq : q ≤ 16) : ∀ n s, pWg q n s ≤ 16 ^ n
  | 0, _ => Nat.le_refl _
  | n + 1, s => by
    rw [pWg, Nat.pow_succ]
    exact Nat.mul_le_mul (pWg_le hq n s) (by split <;> omega)
theorem wt_le (hq : q ≤ 16) {k t : Nat} (hk : k ≤ t) : q ^ k * (16 - q) ^ (t - k) ≤ 16 ^ t := by
  have e : (16 : Nat) ^ t = 16 ^ k * 16 ^ (t - k) := by rw [← Nat.pow_add]; congr 1; omega
  rw [e]
  exact Nat.mul_le_mul (Nat.pow_le_pow_left hq k) (Nat.pow_le_pow_left (by omega) _)
theorem Sm_le (hq : q ≤ 16) (n : Nat) (A : Nat → Bool) : Sm q n A ≤ 2 ^ n * 16 ^ n := by
  have := sum_le (f := fun s => if A s = true then pWg q n s else 0) (k := 16 ^ n) (List.range (2 ^ n)) (fun s _ => by
    show (if A s = true then pWg q n s else 0) ≤ 16 ^ n
    split
    · exact pWg_le q hq n s
    · exact Nat.zero_le _)
  rw [List.length_range] at this
  exact this
end SUM
/-- lowest terms -/
theorem gcd_h {a k : Nat} (h : a % 2 = 0) : Nat.gcd a (2 ^ (k + 1)) = 2 * Nat.gcd (a / 2) (2 ^ k) := by
  rw [Nat.pow_succ, Nat.mul_comm (2 ^ k) 2]
  have : a = 2 * (a / 2) := by omega
  conv => lhs; rw [this]
  exact Nat.gcd_mul_left _ _ _
theorem gcd_o {a k : Nat} (h : ¬ a % 2 = 0) : Nat.gcd a (2 ^ k) = 1 := by
  have h1 : Nat.Coprime a 2 := by
    rw [Nat.coprime_comm, Nat.Coprime, Nat.gcd_rec]
    have : a % 2 = 1 := by omega
    rw [this]; decide
  exact Nat.Coprime.pow_right k h1
