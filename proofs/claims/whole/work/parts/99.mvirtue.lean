/-! FROSTS BY CHANCE: the reference -/
theorem low_l {top bot : Nat} {w : Int32} {X : Nat × (Nat → Int32)} {S : zS} {L : zL} {P : Int64 → zS → zL → Prop} (ht : top < 2 ^ 63) (hb : bot < 2 ^ 63) (hg : 0 < Nat.gcd top bot) (h : P (if w = 0 then lN (top / Nat.gcd top bot) else lN (bot / Nat.gcd top bot)) S L) : ∀ (N x y : Nat), y ≤ N → x < 2 ^ 63 → y < 2 ^ 63 → Nat.gcd x y = Nat.gcd top bot → zU mX11_lowest X S L 6 [some (.long (lN top)), none, some (.long (lN bot)), none, some (.int w), some (.long (lN x)), none, some (.long (lN y)), none, none, none] [] (zpl P) := by
  intro N
  have fin : ∀ x y, y = 0 → x < 2 ^ 63 → Nat.gcd x y = Nat.gcd top bot → zU mX11_lowest X S L 6 [some (.long (lN top)), none, some (.long (lN bot)), none, some (.int w), some (.long (lN x)), none, some (.long (lN y)), none, none, none] [] (zpl P) := by
    intro x y hy hx hxy
    subst hy
    rw [Nat.gcd_zero_right] at hxy
    have hx0 : 0 < x := by omega
    have hne : ¬ lN x = 0 := fun z => by
      have := (pk_lEQ (b := 0) hx (by omega)).mp z
      omega
    refine b_X11_lowest_6 ⟨fun _ => ⟨fun z => ⟨hne, ?_⟩, fun z => ⟨hne, ?_⟩⟩, fun z => absurd (cmp_eq0.mpr rfl) z⟩
    · rw [if_neg z, ← hxy] at h
      rw [pk_lDiv hb hx0 hx]; exact h
    · rw [if_pos z, ← hxy] at h
      rw [pk_lDiv ht hx0 hx]; exact h
  induction N with
  | zero =>
    intro x y hN hx hy hxy
    exact fin x y (by omega) hx hxy
  | succ N ih =>
    intro x y hN hx hy hxy
    by_cases hy0 : y = 0
    · exact fin x y hy0 hx hxy
    · have hne : ¬ lN y = 0 := fun z => hy0 ((pk_lEQ (b := 0) hy (by omega)).mp z)
      refine b_X11_lowest_6 ⟨fun z => absurd (cmp_eq0.mp z) hne, fun _ => ⟨hne, fun z1 e1 => ?_⟩⟩
      rw [pk_lRem hx (by omega) hy] at e1
      rw [e1]
      have hlt := Nat.mod_lt x (show 0 < y by omega)
      refine ih y (x % y) (by omega) hy (by omega) ?_
      rw [← hxy, Nat.gcd_comm y, ← Nat.gcd_rec, Nat.gcd_comm]
theorem lowest_s {top bot : Nat} {w : Int32} {S : zS} {L : zL} {P : Int64 → zS → zL → Prop} (ht : top < 2 ^ 63) (hb : bot < 2 ^ 63) (hg : 0 < Nat.gcd top bot) (h : P (if w = 0 then lN (top / Nat.gcd top bot) else lN (bot / Nat.gcd top bot)) S L) : zCl mX11_lowest S L [.long (lN top), .long (lN bot), .int w] P :=
  e_X11_lowest (fun X => b_X11_lowest_0 (low_l ht hb hg h bot top bot (Nat.le_refl _) ht hb rfl))
theorem no_s {S : zS} {L : zL} {P : Int64 → zS → zL → Prop} (h : P (-9223372036854775806) S L) : zCl mX11_no S L [.int (-2 : Int32)] P :=
  e_X11_no (fun X => b_X11_no_0 (by
    rw [show (-9223372036854775808 : Int64) - (-2 : Int32).toInt64 = -9223372036854775806 by decide]; exact h))
section MVT
variable {t0 t1 : List Int32} {g c : Int32} {ro jo fr se : List T3} {fo le it : pF} {la : Int32} {L : zL} {P : Int64 → zS → zL → Prop} {X : Nat × (Nat → Int32)}
abbrev fV (pe de ro jo : List T3) (g c : Int32) (q n p k : Nat) : Nat := (List.range k).foldl (pVs1 pe de ro jo g c q n p) 0
theorem fV_succ {pe de ro jo : List T3} {g c : Int32} {q n p k : Nat} : fV pe de ro jo g c q n p (k + 1) = pVs1 pe de ro jo g c q n p (fV pe de ro jo g c q n p k) k := by
  unfold fV; rw [List.range_succ, List.foldl_append, List.foldl_cons, List.foldl_nil]
def VJ (σ : sg) (pe de : List T3) (S0 S : zS) : Prop := mK σ S ∧ mT pe de S ∧ S 72 22 = 0 ∧ S 72 23 = 0 ∧ oC S0 S
theorem vi_in {q n p s : Nat} {w : Int32} {S0 S : zS} {a : Nat} (hK0 : mK (t0, t1, g, c, ro, jo, fr, se, fo, le, it, la) S0) (hq : q ≤ 16) (hn : n ≤ 9) (hs : s < 2 ^ (n + 1)) (hp : p < (tL 0 t0).length) (hI : VJ (t0, t1, g, c, ro, jo, fr, se, fo, le, it, la) (tL 0 t0) (tL 3 t1) S0 S) (K : ∀ S', VJ (t0, t1, g, c, ro, jo, fr, se, fo, le, it, la) (tL 0 t0) (tL 3 t1) S0 S' → zU mX11_virtueOf X S' L 10 [some (.ref 72), some (.int (nI q)), some (.int (nI n)), some (.int (nI p)), some (.int w), some (.long (lN (pVs1 (tL 0 t0) (tL 3 t1) ro jo g c q (n + 1) p a s))), none, some (.int (nI (s + 1))), none, none, none] [] (zpl P)) : ∀ (d m : Nat), m + d = n + 1 → zU mX11_virtueOf X S L 26 [some (.ref 72), some (.int (nI q)), some (.int (nI n)), some (.int (nI p)), some (.int w), some (.long (lN a)), none, some (.int (nI s)), some (.long (lN (pWg q m s))), none, some (.int (nI m))] [] (zpl P) := by
  have hl := hK0.lp
  have hp10 : (2 : Nat) ^ (n + 1) ≤ 2 ^ 10 := Nat.pow_le_pow_right (by decide) (by omega)
  intro d
  induction d with
  | zero =>
    intro m hd
    obtain rfl : m = n + 1 := by omega
    have hw := pWg_le q hq (n + 1) s
    have hw2 : (16 : Nat) ^ (n + 1) ≤ 16 ^ 10 := Nat.pow_le_pow_right (by decide) (by omega)
    have hw3 : pWg q (n + 1) s < 2 ^ 63 := Nat.lt_of_le_of_lt (Nat.le_trans hw hw2) (by decide)
    refine b_X11_virtueOf_26 (np := (tL 0 t0).length) ⟨fun _ => ⟨fun z x1 ex1 => ?_, fun z S1 f1 => ?_⟩, fun z => absurd (nI_lt (by omega) (by omega)) z⟩
    · rw [cmp_le0] at z
      have h0 : pWg q (n + 1) s = 0 := by
        rcases Nat.eq_zero_or_pos (pWg q (n + 1) s) with y | y
        · exact y
        · exact absurd ((pk_lLT (a := 0) (by omega) hw3).mpr y) z
      rw [ex1, nI_1]
      have := K S hI
      rw [pVs1, h0, ite_self, Nat.add_zero] at this
      exact this
    · obtain ⟨h1, h2, h3, h4, h5⟩ := hI
      have o1 : ∀ j, j ≠ 72 → S1 j = S j := fun j hj => by rw [f1, zc_ne _ _ hj]
      have g1 : ∀ i, i ≠ 24 → S1 72 i = S 72 i := fun i hi => by rw [f1, zc_eq, upd, if_neg hi]
      have n1 : nF S S1 := ⟨fun j a _ => o1 j a, fun i _ _ d _ => g1 i (by omega)⟩
      have hT1 : mT (tL 0 t0) (tL 3 t1) S1 := ⟨h2.1.keep (o1 _ (by omega)) (o1 _ (by omega)) (o1 _ (by omega)) (g1 _ (by omega)), h2.2.keep (o1 _ (by omega)) (o1 _ (by omega)) (o1 _ (by omega)) (g1 _ (by omega))⟩
      have hm1 := mI_of (h1.keep n1) hT1 (nd := 0) (nr := 0) (fb := nI s) (by rw [g1 _ (by omega)]; exact h3) (by rw [g1 _ (by omega)]; exact h4) (by rw [f1, zc_eq, upd, if_pos rfl])
      refine runs_s hK0.x.m hm1 (fun S2 hZ hR hG => ?_)
      simp only [mC, pFl_0] at hZ
      have hI2 : VJ (t0, t1, g, c, ro, jo, fr, se, fo, le, it, la) (tL 0 t0) (tL 3 t1) S0 S2 := ⟨(h1.keep n1).keep hG.n, hT1.keep hG, by rw [hG.2 _ (by omega), g1 _ (by omega)]; exact h3, by rw [hG.2 _ (by omega), g1 _ (by omega)]; exact h4, (h5.trans n1.c).trans hG.n.c⟩
      have hD : S2 92 p = (pC (tL 0 t0) (tL 3 t1) ro jo (nI s) g c 24).2.1 p := (hZ.1 p hp).2.2.2.2
      have hk := K S2 hI2
      rw [pVs1] at hk
      rw [pLv_nI hl.1 hp, hD]
      refine ⟨⟨hI2.2.1.1.2, hl.1⟩, fun z z1 e1 x1 ex1 => ?_, fun z z1 e1 x1 ex1 => ?_⟩
      · rw [if_pos z] at hk
        rw [ex1, nI_1, e1, lN_add]; exact hk
      · rw [if_neg z] at hk
        rw [ex1, nI_1, e1, show lN a + (0 : Int64) = lN (a + 0) from lN_add a 0]; exact hk
  | succ d ih =>
    intro m hd
    refine b_X11_virtueOf_26 (np := (tL 0 t0).length) ⟨fun z => absurd z (nI_nlt (by omega) (by omega)), fun _ => ⟨fun z z1 e1 x1 ex1 => ?_, fun z z1 e1 x1 ex1 => ?_⟩⟩
    · have hb : s.testBit m = true := by rw [← bt_n (show m < 32 by omega)]; exact (b_low1 (by omega)).mp z
      rw [ex1, nI_1, e1, nI_l (by omega), lN_mul]
      have := ih (m + 1) (by omega)
      rw [pWg, if_pos hb] at this
      exact this
    · have hb : ¬ s.testBit m = true := fun y => by
        rw [← bt_n (show m < 32 by omega)] at y
        exact z ((b_low1 (by omega)).mpr y)
      rw [ex1, nI_1, e1, show (16 : Int32) - nI q = nI (16 - q) from n_sub (a := 16) hq (by omega), nI_l (by omega), lN_mul]
      have := ih (m + 1) (by omega)
      rw [pWg, if_neg hb] at this
      exact this
theorem vi_out {q n p : Nat} {w : Int32} {S0 : zS} (hK0 : mK (t0, t1, g, c, ro, jo, fr, se, fo, le, it, la) S0) (hq : q ≤ 16) (hn : n ≤ 9) (hp : p < (tL 0 t0).length) (h : ∀ S', mK (t0, t1, g, c, ro, jo, fr, se, fo, le, it, la) S' → mT (tL 0 t0) (tL 3 t1) S' → oC S0 S' → P (if w = 0 then (pVi (tL 0 t0) (tL 3 t1) ro jo g c q n p).1 else (pVi (tL 0 t0) (tL 3 t1) ro jo g c q n p).2) S' L) : ∀ (d s : Nat) (S : zS), s + d = 2 ^ (n + 1) → VJ (t0, t1, g, c, ro, jo, fr, se, fo, le, it, la) (tL 0 t0) (tL 3 t1) S0 S → zU mX11_virtueOf X S L 10 [some (.ref 72), some (.int (nI q)), some (.int (nI n)), some (.int (nI p)), some (.int w), some (.long (lN (fV (tL 0 t0) (tL 3 t1) ro jo g c q (n + 1) p s))), none, some (.int (nI s)), none, none, none] [] (zpl P) := by
  have hp10 : (2 : Nat) ^ (n + 1) ≤ 2 ^ 10 := Nat.pow_le_pow_right (by decide) (by omega)
  intro d
  induction d with
  | zero =>
    intro s S hd hI
    obtain rfl : s = 2 ^ (n + 1) := by omega
    refine b_X11_virtueOf_10 (np := 0) ⟨fun _ => ?_, fun z => absurd ?_ z⟩
    · rw [lsh_tab n (by omega)]
      have hb : (2 : Nat) ^ (4 * (n + 1)) < 2 ^ 63 := Nat.pow_lt_pow_right (by decide) (by omega)
      refine lowest_s (top := pVs (tL 0 t0) (tL 3 t1) ro jo g c q (n + 1) p) (Nat.lt_trans (pVs_lt hq hn) (by decide)) hb (Nat.gcd_pos_of_pos_right _ (Nat.two_pow_pos _)) ?_
      exact h S hI.1 hI.2.1 hI.2.2.2.2
    · rw [nI_1, shl_tab _ (by omega)]; exact nI_le (Nat.le_refl _) (by omega)
  | succ d ih =>
    intro s S hd hI
    refine b_X11_virtueOf_10 (np := 0) ⟨fun z => absurd z ?_, fun _ => ?_⟩
    · rw [nI_1, shl_tab _ (by omega)]; exact nI_ge (by omega) (by omega)
    refine vi_in hK0 hq hn (by omega) hp hI (fun S' hI' => ?_) (n + 1) 0 (by omega)
    have := ih (s + 1) S' (by omega) hI'
    rw [fV_succ] at this
    exact this
theorem virtueOf_m {q n p : Nat} {w : Int32} {S : zS} (hK : mK (t0, t1, g, c, ro, jo, fr, se, fo, le, it, la) S) (hq : q ≤ 16) (hn : n ≤ 9) (hp : p < (tL 0 t0).length) (h : ∀ S', mK (t0, t1, g, c, ro, jo, fr, se, fo, le, it, la) S' → mT (tL 0 t0) (tL 3 t1) S' → oC S S' → P (if w = 0 then (pVi (tL 0 t0) (tL 3 t1) ro jo g c q n p).1 else (pVi (tL 0 t0) (tL 3 t1) ro jo g c q n p).2) S' L) : zCl mX11_virtueOf S L [.ref 72, .int (nI q), .int (nI n), .int (nI p), .int w] P :=
  e_X11_virtueOf (fun X => b_X11_virtueOf_0 (np := 0) (asTold_m hK (fun S1 hK1 hI1 n1 => vi_out (S0 := S) hK hq hn hp h (2 ^ (n + 1)) 0 S1 (by omega) ⟨hK1, hI1.t, hI1.2.2.2.2.1, hI1.2.2.2.2.2.1, n1.c⟩)))
theorem virtue_m {q n p w : Int32} {S : zS} (hK : mK (t0, t1, g, c, ro, jo, fr, se, fo, le, it, la) S) (h : ∀ S', mK (t0, t1, g, c, ro, jo, fr, se, fo, le, it, la) S' → oC S S' → P (qVirt q n p w (t0, t1, g, c, ro, jo, fr, se, fo, le, it, la)) S' L) : zCl mX11_virtue S L [.ref 72, .int q, .int n, .int p, .int w] P := by
  simp only [qVirt, aVirt] at h
  have hl := hK.lp
  refine e_X11_virtue (fun X => b_X11_virtue_0 ⟨fun q1 => ⟨fun q2 => ?_, fun z => ?_⟩, fun z => ?_⟩)
  · refine isPerson_m hK (fun S1 hK1 hT1 o1 => ⟨fun z => ?_, fun z => ⟨fun q4 => ?_, fun z4 => ?_⟩⟩)
    · rw [if_neg (fun y => if01 z y.2.2.1)] at h; exact no_s (h S1 hK1 o1)
    · rw [if_pos ⟨q1, q2, if11 z, q4⟩] at h
      obtain ⟨q, hq, rfl⟩ := rng_lit (n := 16) rfl (by omega) q1
      obtain ⟨n, hn, rfl⟩ := rng_lit (n := 9) rfl (by omega) q2
      obtain ⟨p, hp, rfl⟩ := rng_ix (by omega) (if11 z)
      rw [cl_nI (by omega), cl_nI (by omega), cl_nI (by omega)] at h
      exact virtueOf_m hK1 hq hn hp (fun S' a _ b => h S' a (o1.trans b))
    · rw [if_neg (fun y => z4 y.2.2.2)] at h; exact no_s (h S1 hK1 o1)
  · rw [if_neg (fun y => z y.2.1)] at h; exact no_s (h S hK oC.rf)
  · rw [if_neg (fun y => z y.1)] at h; exact no_s (h S hK oC.rf)
end MVT
