/-! WHAT A COURSE's SMALL METHODS DO -/
theorem of0 (i : Nat) : (0 : Int32) + nI i = nI i := Int32.zero_add _
theorem of8 (i : Nat) : (8 : Int32) + nI i = nI (8 + i) := by rw [show (8 : Int32) = nI 8 by decide, nI_add]
theorem of16 (i : Nat) : (16 : Int32) + nI i = nI (16 + i) := by rw [show (16 : Int32) = nI 16 by decide, nI_add]
theorem of24 (i : Nat) : (24 : Int32) + nI i = nI (24 + i) := by rw [show (24 : Int32) = nI 24 by decide, nI_add]
theorem of28 (i : Nat) : (28 : Int32) + nI i = nI (28 + i) := by rw [show (28 : Int32) = nI 28 by decide, nI_add]
theorem of33 (i : Nat) : (33 : Int32) + nI i = nI (33 + i) := by rw [show (33 : Int32) = nI 33 by decide, nI_add]
theorem ix_of {x : Int32} {np : Nat} (h0 : ¬ x < 0) (h1 : ¬ nI np ≤ x) (hb : np < 2 ^ 31) : ∃ j, j < np ∧ x = nI j := by
  rcases pk_ix x hb with h | h | h
  · exact absurd h h0
  · exact absurd h h1
  · exact h
theorem cl_nI {n : Nat} (h : n < 2000) : (nI n).toNatClampNeg = n := nI_clamp (by omega)
theorem i32_le {a b : Int32} (h : ¬ a < b) : b ≤ a := Int32.not_lt.mp h
theorem i32_lt {a b : Int32} (h : ¬ a ≤ b) : b < a := Int32.not_le.mp h
theorem i32_nle {a b : Int32} (h : a < b) : ¬ b ≤ a := Int32.not_le.mpr h
theorem i32_nlt {a b : Int32} (h : a ≤ b) : ¬ b < a := Int32.not_lt.mpr h
theorem lives_s {k t np : Nat} {who : Int32} (hC : zCo k t) {S : zS} {L : zL} (hp : S (t + 1) 3 = nI np) (hn : np ≤ 8) {P : Int32 → zS → zL → Prop} (h : P (if pLv np (S (k + 3)) who then 1 else 0) S L) : zCi mX2_lives S L [.ref k, .int who] P := by
  refine e_X2_lives (fun X => b_X2_lives_0 hC ?_)
  rw [hp]
  refine ⟨fun q => ?_, fun q0 => ⟨fun q => ?_, fun q1 => ?_⟩⟩
  · rw [if_neg (fun z => z.1 q)] at h; exact h
  · rw [if_neg (fun z => i32_nle z.2.1 q)] at h; exact h
  · obtain ⟨j, hj, rfl⟩ := ix_of q0 q1 (by omega)
    refine ⟨vp_in_nI (by omega) (by omega), fun q => ?_, fun q => ?_⟩
    · rw [if_neg (fun z => q z.2.2)] at h; exact h
    · rw [if_pos ⟨q0, i32_lt q1, q⟩] at h; exact h
theorem growth_s {w what : Int32} {S : zS} {L : zL} {P : Int32 → zS → zL → Prop} (h : P (pGr w what) S L) : zCi mX2_growth S L [.int w, .int what] P := by
  refine e_X2_growth (fun X => b_X2_growth_0 ?_)
  have key : ∀ x, x = pWt what → zU mX2_growth X S L 28 [some (.int w), none, none] [.int x] (zpi P) := by
    intro x hx
    subst hx
    unfold pGr at h
    refine b_X2_growth_28 ⟨fun q => ?_, fun q => ?_, fun q0 q1 => ?_⟩
    · rw [if_pos q] at h; exact h
    · rw [if_neg (by rw [q]; decide), if_pos q] at h; exact h
    · rw [if_neg q0, if_neg q1] at h; exact h
  refine ⟨fun q0 => ⟨fun q1 => ⟨fun q2 => key _ ?_, fun q2 => key _ ?_⟩, fun q1 => key _ ?_⟩, fun q0 => key _ ?_⟩
  · rw [pWt, if_neg q0, if_neg q1, if_neg q2]
  · rw [pWt, if_neg q0, if_neg q1, if_pos q2]
  · rw [pWt, if_neg q0, if_pos q1]
  · rw [pWt, if_pos q0]
/-- the months in which there is something, as bits -/
def pMk (l : List T3) (b : Int32) : Int32 := l.foldl (fun (m : Int32) (e : T3) => m ||| ((1 : Int32) <<< (e.1 &&& 31))) b
theorem monthsOf_l {j m : Nat} (hj : zRo j m) {S : zS} {L : zL} {l : List T3} (hR : zR S j l) (hm : l.length ≤ m ∧ m < 2000) {X : Nat × (Nat → Int32)} {P : Int32 → zS → zL → Prop} : ∀ (rest : List T3) (i : Nat) (b : Int32), l.drop i = rest → i ≤ l.length → P (pMk rest b) S L → zU mX2_monthsOf X S L 4 [some (.ref j), some (.int b), some (.int (nI i))] [] (zpi P) := by
  intro rest
  induction rest with
  | nil =>
    intro i b hd hi h
    have hl : l.length ≤ i := List.drop_eq_nil_iff.mp hd
    refine b_X2_monthsOf_4 hj ⟨fun _ => h, fun q => absurd ?_ q⟩
    rw [hR.1]
    exact nI_le hl (by omega)
  | cons e rest ih =>
    intro i b hd hi h
    have hl : i < l.length := by
      rcases Nat.lt_or_ge i l.length with q | q
      · exact q
      · rw [List.drop_eq_nil_iff.mpr q] at hd; cases hd
    have he : l[i]? = some e := by
      have : (l.drop i)[0]? = some e := by rw [hd]; rfl
      simpa using this
    have hd2 : l.drop (i + 1) = rest := by
      rw [← List.drop_drop, hd]; rfl
    refine b_X2_monthsOf_4 hj ⟨fun q => absurd q ?_, fun _ => ⟨vp_in_nI (by omega) (by omega), fun x1 e1 x2 e2 => ?_⟩⟩
    · rw [hR.1]; exact nI_ge hl (by omega)
    · rw [cl_nI (by omega), (hR.2 i e he).1] at e1
      rw [e2, nI_1, e1]
      exact ih (i + 1) _ hd2 (by omega) h
theorem monthsOf_s {j m : Nat} (hj : zRo j m) {S : zS} {L : zL} {l : List T3} (hR : zR S j l) (hm : l.length ≤ m ∧ m < 2000) {P : Int32 → zS → zL → Prop} (h : P (pMk l 0) S L) : zCi mX2_monthsOf S L [.ref j] P :=
  e_X2_monthsOf (fun X => b_X2_monthsOf_0 hj (monthsOf_l hj hR hm l 0 0 rfl (Nat.zero_le _) h))
theorem woolliest_l {k t np : Nat} {cty : Int32} (hC : zCo k t) {S : zS} {L : zL} (hp : S (t + 1) 3 = nI np) (hn : np ≤ 8) {X : Nat × (Nat → Int32)} {P : Int32 → zS → zL → Prop} : ∀ (d i : Nat) (b : Int32 × Int32), i + d = np → P ((List.range' i d).foldl (pWo1 (S (k + 1)) (S (k + 3)) cty) b).1 S L → zU mX2_woolliestIn X S L 7 [some (.ref k), some (.int cty), some (.int b.1), some (.int b.2), some (.int (nI i))] [] (zpi P) := by
  intro d
  induction d with
  | zero =>
    intro i b hd h
    refine b_X2_woolliestIn_7 hC ⟨fun _ => h, fun q => absurd ?_ q⟩
    rw [hp]; exact nI_le (by omega) (by omega)
  | succ d ih =>
    intro i b hd h
    rw [List.range'_succ, List.foldl_cons] at h
    have step : ∀ b', pWo1 (S (k + 1)) (S (k + 3)) cty b i = b' → ∀ x1, x1 = nI i + 1 → zU mX2_woolliestIn X S L 7 [some (.ref k), some (.int cty), some (.int b'.1), some (.int b'.2), some (.int x1)] [] (zpi P) := by
      intro b' hb' x1 e1
      rw [e1, nI_1]
      exact ih (i + 1) b' (by omega) (by rw [← hb']; exact h)
    refine b_X2_woolliestIn_7 hC ⟨fun q => absurd q ?_, fun _ => ?_⟩
    · rw [hp]; exact nI_ge (by omega) (by omega)
    · rw [of0, of8, cl_nI (n := i) (by omega), cl_nI (n := 8 + i) (by omega)]
      refine ⟨vp_in_nI (by omega) (by omega), fun q => step b ?_, fun q1 => ⟨vp_in_nI (by omega) (by omega), fun q => step b ?_, fun q2 => ⟨vp_in_nI (by omega) (by omega), fun q => step b ?_, fun q3 => ?_⟩⟩⟩
      · rw [pWo1, if_neg (fun z => i32_nle z.1 q)]
      · rw [pWo1, if_neg (fun z => q z.2.1)]
      · rw [pWo1, if_neg (fun z => q z.2.2)]
      · have hb' : pWo1 (S (k + 1)) (S (k + 3)) cty b i = (nI i, S (k + 1) i) := by rw [pWo1, if_pos ⟨i32_lt q1, q2, q3⟩]
        refine ⟨vp_in_nI (by omega) (by omega), fun x1 e1 x2 e2 => ?_⟩
        have := step _ hb' x2 e2
        rw [e1]
        exact this
theorem woolliest_s {k t np : Nat} {cty : Int32} (hC : zCo k t) {S : zS} {L : zL} (hp : S (t + 1) 3 = nI np) (hn : np ≤ 8) {P : Int32 → zS → zL → Prop} (h : P (pWo np (S (k + 1)) (S (k + 3)) cty) S L) : zCi mX2_woolliestIn S L [.ref k, .int cty] P := by
  refine e_X2_woolliestIn (fun X => b_X2_woolliestIn_0 hC ?_)
  refine woolliest_l hC hp hn np 0 (-1, 0) (by omega) ?_
  rw [← List.range_eq_range']
  exact h
theorem zc_zc {α : Type} (S : Nat → α) (k : Nat) (f g : α) : zc (zc S k f) k g = zc S k g := by
  funext j; simp only [zc]; split <;> rfl
theorem zc_self {α : Type} (S : Nat → α) (k : Nat) : zc S k (S k) = S := by
  funext j; simp only [zc]; split <;> first | rfl | (subst_vars; rfl)
theorem zc1_mm {S : zS} {k : Nat} {N : pF} : zc S (k + 1) N = zMm S k N (S (k + 3)) (S (k + 2)) (S k 4) (S k 5) := by
  conv => lhs; rw [zMm_self (S := S) (k := k)]
  exact zMm_s1
theorem moult_l {k t np : Nat} {g doers : Int32} (hC : zCo k t) (hn : np ≤ 8) {L : zL} {X : Nat × (Nat → Int32)} {P : zS → zL → Prop} : ∀ (d i : Nat) (S : zS), i + d = np → S (t + 1) 3 = nI np → S t 5 = g → P (zc S (k + 1) ((List.range' i d).foldl (pMo1 (S (k + 3)) g doers) (S (k + 1)))) L → zU mX2_moult X S L 2 [some (.ref k), some (.int doers), some (.int (nI i)), none] [] (zpv P) := by
  intro d
  induction d with
  | zero =>
    intro i S hd hp hg h
    refine b_X2_moult_2 hC ⟨fun _ => ?_, fun q => absurd ?_ q⟩
    · rw [show (List.range' i 0).foldl (pMo1 (S (k + 3)) g doers) (S (k + 1)) = S (k + 1) from rfl, zc_self] at h
      exact h
    · rw [hp]; exact nI_le (by omega) (by omega)
  | succ d ih =>
    intro i S hd hp hg h
    have hdis := hC.2.2.2.2.2.2.2
    rw [List.range'_succ, List.foldl_cons] at h
    have same : pMo1 (S (k + 3)) g doers (S (k + 1)) i = S (k + 1) → ∀ x1, x1 = nI i + 1 → zU mX2_moult X S L 2 [some (.ref k), some (.int doers), some (.int x1), none] [] (zpv P) := by
      intro hb' x1 e1
      rw [e1, nI_1]
      rw [hb'] at h
      exact ih (i + 1) S (by omega) hp hg h
    refine b_X2_moult_2 hC ⟨fun q => absurd q ?_, fun _ => ?_⟩
    · rw [hp]; exact nI_ge (by omega) (by omega)
    · rw [of0, cl_nI (n := i) (by omega), hg]
      refine ⟨vp_in_nI (by omega) (by omega), fun x1 e1 => ⟨fun q => same ?_, fun q1 => ⟨fun q => same ?_, fun q2 => ⟨vp_in_nI (by omega) (by omega), fun q => same ?_, fun q3 => ⟨fun q => same ?_, fun q4 => ⟨vp_in_nI (by omega) (by omega), fun S1 eS1 x2 e2 => ?_⟩⟩⟩⟩⟩⟩
      · rw [pMo1, if_neg (fun z => z.1 (e1 ▸ q))]
      · rw [pMo1, if_neg (fun z => z.2.1 (e1 ▸ q))]
      · rw [pMo1, if_neg (fun z => q z.2.2.1)]
      · rw [pMo1, if_neg (fun z => q z.2.2.2)]
      · subst e1
        rw [e2, nI_1]
        rw [pMo1, if_pos ⟨q1, q2, q3, q4⟩] at h
        have a3 : S1 (k + 3) = S (k + 3) := by rw [eS1, zc_ne _ _ (by omega)]
        have a1 : S1 (k + 1) = upd (S (k + 1)) i (S (k + 1) i - 1) := by rw [eS1, zc_eq]
        refine ih (i + 1) S1 (by omega) (by rw [eS1, zc_ne _ _ (by omega), hp]) (by rw [eS1, zc_ne _ _ (by omega), hg]) ?_
        rw [a3, a1, eS1, zc_zc]
        exact h
theorem moult_s {k t np : Nat} {g doers : Int32} (hC : zCo k t) (hn : np ≤ 8) {S : zS} {L : zL} (hp : S (t + 1) 3 = nI np) (hg : S t 5 = g) {P : zS → zL → Prop} (h : P (zc S (k + 1) (pMo np (S (k + 3)) g doers (S (k + 1)))) L) : zCv mX2_moult S L [.ref k, .int doers] P := by
  refine e_X2_moult (fun X => b_X2_moult_0 hC ?_)
  refine moult_l hC hn np 0 S (by omega) hp hg ?_
  rw [← List.range_eq_range']
  exact h
theorem pWl_at {pe : List T3} {i : Nat} {e : T3} (h : pe[i]? = some e) : pWl pe i = e.1 := by
  unfold pWl
  rw [List.getD_eq_getElem?_getD, h]
  rfl
theorem getD_at {l : List T3} {i : Nat} (h : i < l.length) : l[i]? = some (l.getD i (0, 0, 0)) := by
  rw [List.getD_eq_getElem?_getD, List.getElem?_eq_getElem h]
  rfl
set_option maxHeartbeats 1000000 in
theorem shear_s {k t : Nat} {mo fr cold : Int32} (hC : zCo k t) {S : zS} {L : zL} {pe : List T3} (hR : zR S (t + 1) pe) (hn : pe.length ≤ 8) (hcold : S t 6 = cold) {w cy : Nat} (hw : w < pe.length) (hcy : S (k + 1) (8 + w) = nI cy) (hcy4 : cy < 4) {P : zS → zL → Prop}
    (h : P (zMm S k (pSh pe cold mo (¬ fr = 0) (S (k + 1), S (k + 3), S k 4, S k 5) w).1 (pSh pe cold mo (¬ fr = 0) (S (k + 1), S (k + 3), S k 4, S k 5) w).2.1 (S (k + 2)) (pSh pe cold mo (¬ fr = 0) (S (k + 1), S (k + 3), S k 4, S k 5) w).2.2.1 (pSh pe cold mo (¬ fr = 0) (S (k + 1), S (k + 3), S k 4, S k 5) w).2.2.2) L) :
    zCv mX2_shear S L [.ref k, .int mo, .int (nI w), .int fr] P := by
  have hdis := hC.2.2.2.2.2.2.2
  have hwl : S (t + 1 + 1) w = pWl pe w := by rw [(hR.2 w _ (getD_at hw)).1, pWl_at (getD_at hw)]
  simp only [pSh] at h
  generalize hN : S (k + 1) = N at h hcy
  have tail : ∀ (X : Nat × (Nat → Int32)) (S4 : zS) (N4 : pF) (x7 mul : Int32), S4 = zc S (k + 1) N4 → x7 = nI (28 + cy) → mul = pWm (pWl pe w) → pShN pe N w = upd N4 (28 + cy) (N4 (28 + cy) + N w * mul) → zU mX2_shear X S4 L 119 [some (.ref k), some (.int mo), some (.int (nI w)), some (.int fr), some (.int (N w)), none, none] [.int mul, .int (N w), .int (S4 (k + 1) x7.toNatClampNeg), .int x7, .ref (k + 1)] (zpv P) := by
    intro X S4 N4 x7 mul e4 e7 em hsh
    subst e7
    have a1 : S4 (k + 1) = N4 := by rw [e4, zc_eq]
    rw [a1, cl_nI (by omega)]
    refine b_X2_shear_119 hC ⟨vp_in_nI (by omega) (by omega), fun S5 e5 => ?_⟩
    rw [cl_nI (by omega), a1, ← hsh, e4, zc_zc, zc1_mm] at e5
    have hk4 : S5 k 4 = S k 4 := by rw [e5, zMm_fm]
    rw [hk4]
    have fin : ∀ (S6 : zS) (fm fw : Int32), S6 = zMm S k (pShN pe N w) (S (k + 3)) (S (k + 2)) fm fw → fm = (if S k 4 = -1 then mo else S k 4) → fw = (if S k 4 = -1 then nI w else S k 5) → zU mX2_shear X S6 L 140 [some (.ref k), some (.int mo), some (.int (nI w)), some (.int fr), some (.int (N w)), none, none] [] (zpv P) := by
      intro S6 fm fw e6 efm efw
      rw [← efm, ← efw] at h
      have ht6 : S6 t 6 = cold := by rw [e6, zMm_o (by omega), hcold]
      refine b_X2_shear_140 hC ⟨fun q => ?_, fun q1 => ⟨fun q => ?_, fun q2 => ⟨vp_in_nI (by omega) (by omega), fun S7 e7 => ?_⟩⟩⟩
      · rw [if_neg (fun z => z.1 q)] at h; rw [e6]; exact h
      · rw [ht6] at q
        rw [if_neg (fun z => z.2 q)] at h; rw [e6]; exact h
      · rw [ht6] at q2
        rw [if_pos ⟨q1, q2⟩] at h
        rw [e7, e6, cl_nI (by omega), zMm_s3, zMm_3]
        exact h
    refine ⟨fun q => ?_, fun q S6 e6 S7 e7 => ?_⟩
    · exact fin S5 _ _ e5 (by rw [if_neg q]) (by rw [if_neg q])
    · refine fin S7 mo (nI w) ?_ (by rw [if_pos q]) (by rw [if_pos q])
      rw [e7, e6, e5, zMm_s4, zMm_s5]
  refine e_X2_shear (fun X => b_X2_shear_0 hC ?_)
  rw [of0, of8, cl_nI (n := w) (by omega), cl_nI (n := 8 + w) (by omega), hN, hwl, hcy]
  refine ⟨vp_in_nI (by omega) (by omega), fun x1 e1 => ⟨vp_in_nI (by omega) (by omega), fun x2 e2 => ⟨vp_in_nI (by omega) (by omega), fun x3 e3 => ⟨vp_in_nI (by omega) (by omega), fun S1 eS1 x4 e4 => ?_⟩⟩⟩⟩
  rw [of16] at e4
  subst e4
  rw [cl_nI (by omega)]
  have a1 : S1 (k + 1) = upd N w 0 := by rw [eS1, zc_eq]
  rw [a1]
  refine ⟨vp_in_nI (by omega) (by omega), vp_in_nI (by omega) (by omega), fun S2 eS2 x5 e5 => ?_⟩
  rw [of33] at e5
  subst e5
  rw [cl_nI (by omega)]
  rw [eS1, zc_zc] at eS2
  have a2 : S2 (k + 1) = upd (upd N w 0) (16 + w) (upd N w 0 (16 + w) + 1) := by rw [eS2, zc_eq]
  rw [a2]
  refine ⟨vp_in_nI (by omega) (by omega), vp_in_nI (by omega) (by omega), fun S3 eS3 x6 e6 => ?_⟩
  rw [e2, of24] at e6
  subst e6
  rw [cl_nI (by omega)]
  rw [eS2, zc_zc] at eS3
  have a3 := congrFun eS3 (k + 1)
  rw [zc_eq] at a3
  rw [a3]
  refine ⟨vp_in_nI (by omega) (by omega), vp_in_nI (by omega) (by omega), fun S4 eS4 x7 e7 => ?_⟩
  rw [e2, of28] at e7
  rw [eS3, zc_zc] at eS4
  subst e1
  have hcc : (N (8 + w)).toNatClampNeg = cy := by rw [hcy, cl_nI (by omega)]
  have T := fun mul hm => tail X S4 _ x7 mul eS4 e7 hm (by rw [hm]; simp only [pShN, hcc])
  refine ⟨by rw [e7]; exact vp_in_nI (by omega) (by omega), fun q0 => ⟨fun q1 => T 2 ?_, fun q1 => T 1 ?_⟩, fun q0 => T 3 ?_⟩
  · rw [e3] at q0 q1; rw [pWm, if_neg q0, if_neg q1]
  · rw [e3] at q0 q1; rw [pWm, if_neg q0, if_pos q1]
  · rw [e3] at q0; rw [pWm, if_pos q0]
