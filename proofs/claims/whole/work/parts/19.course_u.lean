/-! counties stay counties -/
theorem foldl_inv {α β : Type} {f : α → β → α} {I : α → Prop} : ∀ (l : List β) (a : α), I a → (∀ a b, b ∈ l → I a → I (f a b)) → I (l.foldl f a)
  | [], _, h, _ => h
  | b :: l, a, h, hs => foldl_inv l (f a b) (hs a b List.mem_cons_self h) (fun a' b' hb h' => hs a' b' (List.mem_cons_of_mem _ hb) h')
theorem pOk_upd {np w : Nat} {N : pF} {x : Int32} (h : pOk np N) (hn : np ≤ 8) (hw : w < 8 ∨ 16 ≤ w) : pOk np (upd N w x) := by
  intro p hp
  obtain ⟨q, hq, e⟩ := h p hp
  exact ⟨q, hq, by rw [upd, if_neg (by omega), e]⟩
theorem pOk_dds {pe de : List T3} {D N : pF} {mo : Int32} (hn : pe.length ≤ 8) (h : pOk pe.length N) : pOk pe.length (pDds pe de D mo N).1 := by
  refine foldl_inv (I := fun s : pF × Int32 => pOk pe.length s.1) de (N, 0) h ?_
  intro s d _ hs
  unfold pDd
  split
  · rename_i z
    obtain ⟨w, hw, hwe, -⟩ := pLv_ix z.2 (by omega)
    rw [hwe, cl_nI (by omega)]
    exact pOk_upd hs hn (by omega)
  · exact hs
theorem pOk_mo {np : Nat} {D N : pF} {g b : Int32} (hn : np ≤ 8) (h : pOk np N) : pOk np (pMo np D g b N) := by
  refine foldl_inv (I := fun s : pF => pOk np s) _ N h ?_
  intro s p hp hs
  unfold pMo1
  split
  · exact pOk_upd hs hn (by have := List.mem_range.mp hp; omega)
  · exact hs
theorem pOk_trs {np : Nat} {jo : List T3} {D N : pF} {mo : Int32} (hn : np ≤ 8) (hj : ∀ e ∈ jo, ∃ q, q < 4 ∧ e.2.2 = nI q) (h : pOk np N) : pOk np (pTrs np jo D mo N) := by
  refine foldl_inv (I := fun s : pF => pOk np s) jo N h ?_
  intro s e he hs
  unfold pTr
  split
  · rename_i z
    obtain ⟨w, hw, hwe, -⟩ := pLv_ix z.2.1 (by omega)
    obtain ⟨q, hq, hqe⟩ := hj e he
    rw [hwe, cl_nI (by omega), hqe]
    have h2 : pOk np (upd (upd s w (s w - pCa (s w))) 32 (upd s w (s w - pCa (s w)) 32 + pCa (s w))) := pOk_upd (pOk_upd hs hn (by omega)) hn (by omega)
    intro p hp
    simp only [pTrN]
    by_cases hpw : 8 + p = 8 + w
    · exact ⟨q, hq, by rw [upd, if_pos hpw]⟩
    · obtain ⟨q', hq', e'⟩ := h2 p hp
      exact ⟨q', hq', by rw [upd, if_neg hpw]; exact e'⟩
  · exact hs
theorem pWo_ix {np : Nat} {N D : pF} {cty : Int32} : pWo np N D cty = -1 ∨ ∃ w, w < np ∧ pWo np N D cty = nI w ∧ N (8 + w) = cty ∧ D w = -1 := by
  have := foldl_inv (f := pWo1 N D cty) (I := fun b : Int32 × Int32 => b.1 = -1 ∨ ∃ w, w < np ∧ b.1 = nI w ∧ N (8 + w) = cty ∧ D w = -1) (List.range np) (-1, 0) (Or.inl rfl) (by
    intro b p hp hb
    unfold pWo1
    split
    · rename_i z
      exact Or.inr ⟨p, List.mem_range.mp hp, rfl, z.2.1, z.2.2⟩
    · exact hb)
  exact this
theorem pOk_shN {pe : List T3} {N : pF} {w : Nat} (hn : pe.length ≤ 8) (hw : w < pe.length) (h : pOk pe.length N) : pOk pe.length (pShN pe N w) := by
  obtain ⟨c, hc, hce⟩ := h w hw
  have hcl : (N (8 + w)).toNatClampNeg = c := by rw [hce, cl_nI (by omega)]
  simp only [pShN, hcl]
  exact pOk_upd (pOk_upd (pOk_upd (pOk_upd (pOk_upd h hn (by omega)) hn (by omega)) hn (by omega)) hn (by omega)) hn (by omega)
theorem pOk_rn {pe : List T3} {cold mo cty : Int32} {fr : Prop} [Decidable fr] {s : pZ} (hn : pe.length ≤ 8) (h : pOk pe.length s.1) : pOk pe.length (pRn pe cold mo fr cty s).1 := by
  unfold pRn
  split
  · exact h
  · rename_i z
    rcases pWo_ix (np := pe.length) (N := s.1) (D := s.2.1) (cty := cty) with h1 | ⟨w, hw, h1, -⟩
    · exact absurd h1 z
    · rw [h1, cl_nI (by omega)]
      exact pOk_shN hn hw h
theorem pIt_inv {α : Type} {f : α → α} {I : α → Prop} (hf : ∀ s, I s → I (f s)) : ∀ (n : Nat) (s : α), I s → I (pIt f n s)
  | 0, _, h => h
  | n + 1, s, h => pIt_inv hf n (f s) (hf s h)
theorem pIt_fix {α : Type} {f : α → α} {s : α} (h : f s = s) : ∀ n, pIt f n s = s
  | 0 => rfl
  | n + 1 => by rw [pIt, h]; exact pIt_fix h n
theorem pOk_rds {pe ro : List T3} {cold mo : Int32} {fr : Prop} [Decidable fr] {s : pZ} (hn : pe.length ≤ 8) (h : pOk pe.length s.1) : pOk pe.length (ro.foldl (pRd pe cold mo fr) s).1 := by
  refine foldl_inv (I := fun s : pZ => pOk pe.length s.1) ro s h ?_
  intro a r _ ha
  unfold pRd
  split
  · exact pIt_inv (I := fun s : pZ => pOk pe.length s.1) (fun s hs => pOk_rn hn hs) _ _ ha
  · exact ha
theorem pOk_0 {pe : List T3} (hn : pe.length ≤ 8) (h : ∀ e ∈ pe, ∃ q, q < 4 ∧ e.2.1 = nI q) : pOk pe.length (pN0 pe) := by
  intro p hp
  obtain ⟨q, hq, e⟩ := h _ (List.mem_of_getElem? (getD_at (l := pe) hp))
  refine ⟨q, hq, ?_⟩
  have n1 : ¬ 8 + p < pe.length := by omega
  have n2 : 8 ≤ 8 + p ∧ 8 + p - 8 < pe.length := by omega
  simp only [pN0, if_neg n1, if_pos n2]
  rw [show 8 + p - 8 = p by omega, e]
theorem pOk_C {pe de ro jo : List T3} {fb g c : Int32} (hn : pe.length ≤ 8) (hp : ∀ e ∈ pe, ∃ q, q < 4 ∧ e.2.1 = nI q) (hj : ∀ e ∈ jo, ∃ q, q < 4 ∧ e.2.2 = nI q) : ∀ m, pOk pe.length (pC pe de ro jo fb g c m).1
  | 0 => pOk_0 hn hp
  | m + 1 => by
    have h := pOk_C (de := de) (ro := ro) (fb := fb) (g := g) (c := c) hn hp hj m
    rw [pC, pMs]
    exact pOk_rds hn (pOk_trs hn hj (pOk_mo hn (pOk_dds hn h)))
/-! the rounds of a month -/
section RD
variable {k t : Nat} {mo fr cold : Int32} {pe de ro jo fs : List T3} {g : Int32} {L : zL} {X : Nat × (Nat → Int32)} {P : zS → zL → Prop}
theorem mr_in (hC : zCo k t) (hn : pe.length ≤ 8 ∧ ro.length ≤ 9) {i q : Nat} {e : T3} (he : ro[i]? = some e) (hq : e.2.2 = nI q) (hq2 : q < 2000) : ∀ (n d : Nat) (S : zS), d + n = q → zT S t pe de ro jo fs g cold → pOk pe.length (S (k + 1)) → (∀ S', S' = zpu S k (pIt (pRn pe cold mo (¬ fr = 0) e.2.1) n (zst S k)) → zU mX2_makeRounds X S' L 11 [some (.ref k), some (.int mo), some (.int fr), some (.ref (t + 9)), some (.int (nI (i + 1))), none, none] [] (zpv P)) →
    zU mX2_makeRounds X S L 50 [some (.ref k), some (.int mo), some (.int fr), some (.ref (t + 9)), some (.int (nI i)), some (.int (pWo pe.length (S (k + 1)) (S (k + 3)) e.2.1)), some (.int (nI d))] [] (zpv P) := by
  have hdis := hC.2.2.2.2.2.2.2
  have hi : i < ro.length := (List.getElem?_eq_some_iff.mp he).1
  intro n
  induction n with
  | zero =>
    intro d S hd hT hO K
    have a3 : S (t + 9 + 3) i = nI q := by rw [(hT.2.2.1.2 i e he).2.2, hq]
    refine b_X2_makeRounds_50 (np := pe.length) hC ?_
    rw [cl_nI (n := i) (by omega), a3]
    refine ⟨vp_in_nI (by omega) (by omega), fun _ x1 e1 => ?_, fun z => absurd (nI_le (by omega) (by omega)) z⟩
    rw [e1, nI_1]
    exact K S (by rw [pIt, zpu_self])
  | succ n ih =>
    intro d S hd hT hO K
    have a2 : S (t + 9 + 2) i = e.2.1 := (hT.2.2.1.2 i e he).2.1
    have a3 : S (t + 9 + 3) i = nI q := by rw [(hT.2.2.1.2 i e he).2.2, hq]
    refine b_X2_makeRounds_50 (np := pe.length) hC ?_
    rw [cl_nI (n := i) (by omega), a3]
    refine ⟨vp_in_nI (by omega) (by omega), fun z => absurd z (nI_ge (by omega) (by omega)), fun _ => ⟨fun z x1 e1 => ?_, fun z => ?_⟩⟩
    · rw [e1, nI_1]
      refine K S ?_
      have fx : pRn pe cold mo (¬ fr = 0) e.2.1 (zst S k) = zst S k := by
        unfold pRn
        rw [if_pos]
        exact z
      rw [pIt_fix fx, zpu_self]
    · rcases pWo_ix (np := pe.length) (N := S (k + 1)) (D := S (k + 3)) (cty := e.2.1) with h1 | ⟨w, hw, h1, -⟩
      · exact absurd h1 z
      · rw [h1]
        obtain ⟨cy, hcy, hcye⟩ := hO w hw
        refine shear_s (cold := cold) hC hT.1 hn.1 hT.2.2.2.2.2.2 hw hcye hcy ?_
        have fx : pRn pe cold mo (¬ fr = 0) e.2.1 (zst S k) = pSh pe cold mo (¬ fr = 0) (zst S k) w := by
          unfold pRn
          rw [if_neg (by exact z)]
          show pSh pe cold mo (¬ fr = 0) (zst S k) (pWo pe.length (S (k + 1)) (S (k + 3)) e.2.1).toNatClampNeg = _
          rw [h1, cl_nI (by omega)]
        show vp_in (nI i) 9 ∧ _
        generalize hz : pSh pe cold mo (¬ fr = 0) (S (k + 1), S (k + 3), S k 4, S k 5) w = z1
        have hS1 : zMm S k z1.1 z1.2.1 (S (k + 2)) z1.2.2.1 z1.2.2.2 = zpu S k z1 := rfl
        rw [hS1]
        have hT1 : zT (zpu S k z1) t pe de ro jo fs g cold := zT_pu hdis hT
        have hO1 : pOk pe.length (zpu S k z1 (k + 1)) := by
          rw [zpu_N, ← hz]
          exact pOk_shN hn.1 hw hO
        refine ⟨vp_in_nI (by omega) (by omega), ⟨hT1.1.1, hn.1⟩, fun y2 ey2 x1 ex1 => ?_⟩
        rw [(hT1.2.2.1.2 i e he).2.1] at ey2
        rw [ex1, nI_1, ey2]
        refine ih (d + 1) (zpu S k z1) (by omega) hT1 hO1 (fun S' e' => K S' ?_)
        rw [e', zpu_st, zpu_pu, pIt, fx]
        show zpu S k (pIt _ n z1) = zpu S k (pIt _ n (pSh pe cold mo (¬ fr = 0) (S (k + 1), S (k + 3), S k 4, S k 5) w))
        rw [hz]
theorem mr_l (hC : zCo k t) (hn : pe.length ≤ 8 ∧ ro.length ≤ 9) (hpace : ∀ e ∈ ro, ∃ q, q < 2000 ∧ e.2.2 = nI q) : ∀ (rest : List T3) (i : Nat) (S : zS), ro.drop i = rest → i ≤ ro.length → zT S t pe de ro jo fs g cold → pOk pe.length (S (k + 1)) → P (zpu S k (rest.foldl (pRd pe cold mo (¬ fr = 0)) (zst S k))) L → zU mX2_makeRounds X S L 11 [some (.ref k), some (.int mo), some (.int fr), some (.ref (t + 9)), some (.int (nI i)), none, none] [] (zpv P) := by
  have hdis := hC.2.2.2.2.2.2.2
  intro rest
  induction rest with
  | nil =>
    intro i S hd hi hT hO h
    have hl : ro.length ≤ i := List.drop_eq_nil_iff.mp hd
    refine b_X2_makeRounds_11 (np := pe.length) hC ⟨fun _ => ?_, fun q => absurd ?_ q⟩
    · rw [List.foldl_nil, zpu_self] at h; exact h
    · rw [hT.2.2.1.1]; exact nI_le hl (by omega)
  | cons e rest ih =>
    intro i S hd hi hT hO h
    obtain ⟨hl, he, hd2⟩ := drop_cons hd
    obtain ⟨d1, d2, d3⟩ := hT.2.2.1.2 i e he
    obtain ⟨q, hq, hqe⟩ := hpace e (List.mem_of_getElem? he)
    rw [List.foldl_cons] at h
    refine b_X2_makeRounds_11 (np := pe.length) hC ⟨fun z => absurd z ?_, fun _ => ?_⟩
    · rw [hT.2.2.1.1]; exact nI_ge hl (by omega)
    rw [cl_nI (n := i) (by omega), d1, d2]
    refine ⟨vp_in_nI (by omega) (by omega), fun z => ⟨vp_in_nI (by omega) (by omega), ⟨hT.1.1, hn.1⟩, fun y1 ey1 => ?_⟩, fun z x1 ex1 => ?_⟩
    · rw [ey1]
      refine mr_in hC hn he hqe hq q 0 S (by omega) hT hO (fun S' e' => ?_)
      rw [pRd, if_pos z, hqe, cl_nI (by omega)] at h
      rw [e']
      refine ih (i + 1) _ hd2 (by omega) (zT_pu hdis hT) ?_ ?_
      · rw [zpu_N]
        exact pIt_inv (I := fun s : pZ => pOk pe.length s.1) (fun s hs => pOk_rn hn.1 hs) _ _ hO
      · rw [zpu_st, zpu_pu]; exact h
    · rw [pRd, if_neg z] at h
      rw [ex1, nI_1]
      exact ih (i + 1) S hd2 (by omega) hT hO h
theorem makeRounds_s (hC : zCo k t) (hn : pe.length ≤ 8 ∧ ro.length ≤ 9) (hpace : ∀ e ∈ ro, ∃ q, q < 2000 ∧ e.2.2 = nI q) {S : zS} (hT : zT S t pe de ro jo fs g cold) (hO : pOk pe.length (S (k + 1))) (h : P (zpu S k (ro.foldl (pRd pe cold mo (¬ fr = 0)) (zst S k))) L) : zCv mX2_makeRounds S L [.ref k, .int mo, .int fr] P :=
  e_X2_makeRounds (fun X => b_X2_makeRounds_0 (np := 0) hC (mr_l hC hn hpace ro 0 S rfl (Nat.zero_le _) hT hO h))
end RD
