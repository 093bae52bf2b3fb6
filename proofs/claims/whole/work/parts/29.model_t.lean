section MH
variable {pe de ro jo : List T3} {nd nr fb g c mo : Int32} {L : zL} {X : Nat × (Nat → Int32)} {P : zS → zL → Prop}
theorem goes_l (hn : pe.length ≤ 8 ∧ jo.length ≤ 8) : ∀ (rest : List T3) (i : Nat) (S : zS) (s : pZ), jo.drop i = rest → i ≤ jo.length → mI S pe de ro jo nd nr fb g c → mZ S pe.length s → (∀ S', mZ S' pe.length (rest.foldl (pTr pe.length s.2.1 mo) s.1, s.2) → mF S S' → P S' L) → zU mX11_goes X S L 2 [some (.ref 72), some (.int mo), some (.int (nI i)), none, none] [] (zpv P) := by
  intro rest
  induction rest with
  | nil =>
    intro i S s hd hi hI hZ h
    have hl : jo.length ≤ i := List.drop_eq_nil_iff.mp hd
    refine b_X11_goes_2 (np := pe.length) ⟨fun _ => h S hZ mF.rf, fun q => absurd ?_ q⟩
    rw [hI.2.2.2.1.2]; exact nI_le hl (by omega)
  | cons e rest ih =>
    intro i S s hd hi hI hZ h
    obtain ⟨hl, he, hd2⟩ := drop_cons hd
    obtain ⟨d1, d2, d3⟩ := hI.2.2.2.1.1 i e he
    have hD : ∀ p, p < pe.length → S 92 p = s.2.1 p := fun p hp => (hZ.1 p hp).2.2.2.2
    rw [List.foldl_cons] at h
    have skip : pTr pe.length s.2.1 mo s.1 e = s.1 → ∀ x1, x1 = nI i + 1 → zU mX11_goes X S L 2 [some (.ref 72), some (.int mo), some (.int x1), none, none] [] (zpv P) := by
      intro hsk x1 e1
      rw [e1, nI_1]
      rw [hsk] at h
      exact ih (i + 1) S s hd2 (by omega) hI hZ h
    refine b_X11_goes_2 (np := pe.length) ⟨fun q => absurd q ?_, fun _ => ?_⟩
    · rw [hI.2.2.2.1.2]; exact nI_ge hl (by omega)
    rw [cl_nI (n := i) (by omega), d1, d2, d3]
    refine ⟨vp_in_nI (by omega) (by omega), fun x1 e1 => ⟨vp_in_nI (by omega) (by omega), fun q => skip ?_, fun q1 => ⟨⟨hI.1.2, hn.1⟩, fun q2 => ?_, fun q => skip ?_⟩⟩⟩
    · rw [pTr, if_neg (fun z => q z.1)]
    · rw [e1] at q2
      have hlv := (pLv_iff (by omega) hD).mp q2
      obtain ⟨w, hw, hwe, -⟩ := pLv_ix hlv (by omega)
      have hcl : e.2.1.toNatClampNeg = w := by rw [hwe, cl_nI (by omega)]
      rw [e1, hwe, cl_nI (n := w) (by omega), (hZ.1 w hw).1, (hZ.1 w hw).2.1]
      have go : ¬ s.1 (8 + w) = e.2.2 → ∀ w0, w0 = pCa (s.1 w) → zU mX11_goes X S L 70 [some (.ref 72), some (.int mo), some (.int (nI i)), some (.int (nI w)), none] [.int w0] (zpv P) := by
        intro hne w0 hw0
        rw [pTr, if_pos ⟨q1, hlv, by rw [hcl]; exact hne⟩, hcl] at h
        refine b_X11_goes_70 (np := pe.length) ?_
        rw [cl_nI (n := w) (by omega), cl_nI (n := i) (by omega)]
        refine ⟨vp_in_nI (by omega) (by omega), vp_in_nI (by omega) (by omega), fun S1 e1 S2 e2 => ⟨vp_in_nI (by omega) (by omega), vp_in_nI (by omega) (by omega), fun S3 e3 x1 ex1 => ?_⟩⟩
        rw [ex1, nI_1]
        have hF1 : mF S S1 := by rw [e1]; exact mF.cel (by omega)
        have hF2 : mF S1 S2 := by rw [e2]; exact mF.fld (by omega)
        have hF3 : mF S2 S3 := by rw [e3]; exact mF.cel (by omega)
        have hF := (hF1.trans hF2).trans hF3
        have a86 : S2 86 i = e.2.2 := by rw [(hF1.trans hF2).1 86 (by omega) (by omega), d3]
        have hZ1 : mZ S1 pe.length (upd s.1 w (s.1 w - pCa (s.1 w)), s.2) := by
          rw [e1, (hZ.1 w hw).1, hw0]; exact mZ_has hn.1 hw hZ
        have hZ2 : mZ S2 pe.length (upd (upd s.1 w (s.1 w - pCa (s.1 w))) 32 (upd s.1 w (s.1 w - pCa (s.1 w)) 32 + pCa (s.1 w)), s.2) := by
          rw [e2, hZ1.2.2.1, hw0]; exact mZ_thorn hn.1 hZ1
        have hZ3 : mZ S3 pe.length (pTrN s.1 w e.2.2, s.2) := by
          rw [e3, a86]; exact mZ_place hn.1 hw hZ2
        exact ih (i + 1) S3 (pTrN s.1 w e.2.2, s.2) hd2 (by omega) (hI.keep hF) hZ3 (fun S' hZ' hF' => h S' hZ' (hF.trans hF'))
      refine ⟨vp_in_nI (by omega) (by omega), vp_in_nI (by omega) (by omega), fun q => skip ?_, fun q3 => ⟨vp_in_nI (by omega) (by omega), fun q => go q3 _ ?_, fun q => ⟨vp_in_nI (by omega) (by omega), go q3 _ ?_⟩⟩⟩
      · rw [pTr, if_neg (fun z => z.2.2 (by rw [hcl]; exact q))]
      · rw [pCa, if_neg (i32_nlt q)]
      · rw [pCa, if_pos (i32_lt q)]
    · rw [e1] at q
      rw [pTr, if_neg (fun z => q ((pLv_iff (by omega) hD).mpr z.2.1))]
theorem goes_s (hn : pe.length ≤ 8 ∧ jo.length ≤ 8) {S : zS} {s : pZ} (hI : mI S pe de ro jo nd nr fb g c) (hZ : mZ S pe.length s) (h : ∀ S', mZ S' pe.length (pTrs pe.length jo s.2.1 mo s.1, s.2) → mF S S' → P S' L) : zCv mX11_goes S L [.ref 72, .int mo] P :=
  e_X11_goes (fun X => b_X11_goes_0 (np := 0) (goes_l hn jo 0 S s rfl (Nat.zero_le _) hI hZ h))
theorem pShN_vals {N : pF} {w cy : Nat} (hw : w < 8) (hc : (N (8 + w)).toNatClampNeg = cy) (hc4 : cy < 4) : (∀ p, p < 8 → pShN pe N w p = (if p = w then 0 else N p)) ∧ (∀ p, p < 8 → pShN pe N w (8 + p) = N (8 + p)) ∧ (∀ p, p < 8 → pShN pe N w (16 + p) = (if p = w then N (16 + p) + 1 else N (16 + p))) ∧ (∀ p, p < 8 → pShN pe N w (33 + p) = (if p = w then N (33 + p) + N w else N (33 + p))) ∧ (∀ q, q < 4 → pShN pe N w (24 + q) = (if q = cy then N (24 + q) + N w else N (24 + q))) ∧ (∀ q, q < 4 → pShN pe N w (28 + q) = (if q = cy then N (28 + q) + N w * pWm (pWl pe w) else N (28 + q))) ∧ pShN pe N w 32 = N 32 := by
  refine ⟨fun p hp => ?_, fun p hp => ?_, fun p hp => ?_, fun p hp => ?_, fun q hq => ?_, fun q hq => ?_, ?_⟩ <;> simp only [pShN, hc, upd] <;> (repeat' split) <;> first | rfl | omega | (subst_vars; rfl) | (exfalso; omega)
theorem shears_s (hn : pe.length ≤ 8) {S : zS} {s : pZ} (hI : mI S pe de ro jo nd nr fb g c) (hZ : mZ S pe.length s) {w m : Nat} (hm : m < 24) (hmo : mo = nI m) (hw : w < pe.length) (hlv : s.2.1 w = -1) (hO : pOk pe.length s.1) (h : ∀ S', mZ S' pe.length (pSh pe c mo (pFr fb m) s w) → mF S S' → P S' L) : zCv mX11_shears S L [.ref 72, .int (nI w), .int mo] P := by
  obtain ⟨cy, hcy, hcye⟩ := hO w hw
  have hcl : (s.1 (8 + w)).toNatClampNeg = cy := by rw [hcye, cl_nI (by omega)]
  obtain ⟨v1, v2, v3, v4, v5, v6, v7⟩ := pShN_vals (pe := pe) (N := s.1) (by omega) hcl hcy
  obtain ⟨z1, z2, z3, z4, z5⟩ := hZ
  obtain ⟨a1, a2, a3, a4, a5⟩ := z1 w hw
  have hwl : S 75 w = pWl pe w := by rw [(hI.1.1 w _ (getD_at hw)).1, pWl_at (getD_at hw)]
  -- the end, from the cells that the walk has written
  have fin : ∀ (S' : zS) (dd : Int32), mF S S' → S' 88 = upd (S 88) w 0 → S' 89 = S 89 → S' 90 = upd (S 90) w (S 90 w + 1) → S' 91 = upd (S 91) w (S 91 w + s.1 w) → S' 92 = upd (S 92) w dd → S' 93 = upd (S 93) cy (S 93 cy + s.1 w) → S' 94 = upd (S 94) cy (S 94 cy + s.1 w * pWm (pWl pe w)) → S' 72 31 = S 72 31 → S' 72 32 = (if S 72 32 = -1 then mo else S 72 32) → S' 72 33 = (if S 72 32 = -1 then nI w else S 72 33) → dd = (if pFr fb m ∧ ¬ s.1 w < c then mo else -1) → P S' L := by
    intro S' dd hF h88 h89 h90 h91 h92 h93 h94 h31 h32 h33 hdd
    refine h S' ⟨fun p hp => ?_, fun q hq => ?_, ?_, ?_, ?_⟩ hF
    · obtain ⟨b1, b2, b3, b4, b5⟩ := z1 p hp
      refine ⟨?_, ?_, ?_, ?_, ?_⟩
      · show S' 88 p = pShN pe s.1 w p
        rw [h88, v1 p (by omega), upd, b1]
      · show S' 89 p = pShN pe s.1 w (8 + p)
        rw [h89, v2 p (by omega), b2]
      · show S' 90 p = pShN pe s.1 w (16 + p)
        rw [h90, v3 p (by omega), upd, b3]
        by_cases hpw : p = w
        · subst hpw; rw [if_pos rfl, if_pos rfl, b3]
        · rw [if_neg hpw, if_neg hpw]
      · show S' 91 p = pShN pe s.1 w (33 + p)
        rw [h91, v4 p (by omega), upd, b4]
        by_cases hpw : p = w
        · subst hpw; rw [if_pos rfl, if_pos rfl, b4]
        · rw [if_neg hpw, if_neg hpw]
      · show S' 92 p = (if pFr fb m ∧ ¬ s.1 w < c then upd s.2.1 w mo else s.2.1) p
        rw [h92, hdd, upd, b5]
        by_cases hz : pFr fb m ∧ ¬ s.1 w < c
        · rw [if_pos hz, if_pos hz, upd]
        · rw [if_neg hz, if_neg hz]
          by_cases hpw : p = w
          · subst hpw; rw [if_pos rfl, hlv]
          · rw [if_neg hpw]
    · obtain ⟨b1, b2⟩ := z2 q hq
      refine ⟨?_, ?_⟩
      · show S' 93 q = pShN pe s.1 w (24 + q)
        rw [h93, v5 q hq, upd, b1]
        by_cases hqc : q = cy
        · subst hqc; rw [if_pos rfl, if_pos rfl, b1]
        · rw [if_neg hqc, if_neg hqc]
      · show S' 94 q = pShN pe s.1 w (28 + q)
        rw [h94, v6 q hq, upd, b2]
        by_cases hqc : q = cy
        · subst hqc; rw [if_pos rfl, if_pos rfl, b2]
        · rw [if_neg hqc, if_neg hqc]
    · show S' 72 31 = pShN pe s.1 w 32
      rw [h31, v7, z3]
    · show S' 72 32 = (if s.2.2.1 = -1 then mo else s.2.2.1)
      rw [h32, z4]
    · show S' 72 33 = (if s.2.2.1 = -1 then nI w else s.2.2.2)
      rw [h33, z4, z5]
  refine e_X11_shears (fun X => b_X11_shears_0 ?_)
  rw [cl_nI (n := w) (by omega), a1, a2, hcye]
  refine ⟨vp_in_nI (by omega) (by omega), fun x1 ex1 => ?_⟩
  subst ex1
  rw [cl_nI (n := cy) (by omega)]
  refine ⟨vp_in_nI (by omega) (by omega), vp_in_nI (by omega) (by omega), vp_in_nI (by omega) (by omega), fun S1 e1 => ?_⟩
  have s1 : ∀ j, j ≠ 93 → S1 j = S j := fun j hj => by rw [e1, zc_ne _ _ hj]
  rw [s1 75 (by omega), s1 88 (by omega), s1 94 (by omega), hwl, a1]
  have go : ∀ mul, mul = pWm (pWl pe w) → zU mX11_shears X S1 L 63 [some (.ref 72), some (.int (nI w)), some (.int mo), none] [.int mul, .int (s.1 w), .int (S 94 cy), .int (nI cy), .ref 94] (zpv P) := by
    intro mul hmul
    refine b_X11_shears_63 ?_
    rw [cl_nI (n := w) (by omega), cl_nI (n := cy) (by omega)]
    refine ⟨vp_in_nI (by omega) (by omega), fun S2 e2 => ⟨vp_in_nI (by omega) (by omega), vp_in_nI (by omega) (by omega), vp_in_nI (by omega) (by omega), fun S3 e3 => ⟨vp_in_nI (by omega) (by omega), vp_in_nI (by omega) (by omega), fun S4 e4 => ?_⟩⟩⟩
    have s2 : ∀ j, j ≠ 94 → S2 j = S1 j := fun j hj => by rw [e2, zc_ne _ _ hj]
    have s3 : ∀ j, j ≠ 91 → S3 j = S2 j := fun j hj => by rw [e3, zc_ne _ _ hj]
    have s4 : ∀ j, j ≠ 90 → S4 j = S3 j := fun j hj => by rw [e4, zc_ne _ _ hj]
    have t : ∀ j, j ≠ 93 → j ≠ 94 → j ≠ 91 → j ≠ 90 → S4 j = S j := fun j h1 h2 h3 h4 => (s4 j h4).trans ((s3 j h3).trans ((s2 j h2).trans (s1 j h1)))
    rw [t 72 (by omega) (by omega) (by omega) (by omega), t 88 (by omega) (by omega) (by omega) (by omega), a1, hI.2.2.2.2.2.2.1, hI.2.2.2.2.2.2.2.2]
    have f93 : S4 93 = upd (S 93) cy (S 93 cy + s.1 w) := by rw [s4 93 (by omega), s3 93 (by omega), s2 93 (by omega), e1, zc_eq]
    have f94 : S4 94 = upd (S 94) cy (S 94 cy + s.1 w * pWm (pWl pe w)) := by rw [s4 94 (by omega), s3 94 (by omega), e2, zc_eq, s1 94 (by omega), hmul]
    have f91 : S4 91 = upd (S 91) w (S 91 w + s.1 w) := by rw [s4 91 (by omega), e3, zc_eq, s2 91 (by omega), s1 91 (by omega), s2 88 (by omega), s1 88 (by omega), a1]
    have f90 : S4 90 = upd (S 90) w (S 90 w + 1) := by rw [e4, zc_eq, s3 90 (by omega), s2 90 (by omega), s1 90 (by omega)]
    have hF4 : mF S S4 := (((show mF S S1 by rw [e1]; exact mF.cel (by omega)).trans (show mF S1 S2 by rw [e2]; exact mF.cel (by omega))).trans (show mF S2 S3 by rw [e3]; exact mF.cel (by omega))).trans (show mF S3 S4 by rw [e4]; exact mF.cel (by omega))
    have e125 : ∀ dd, dd = (if pFr fb m ∧ ¬ s.1 w < c then mo else -1) → zU mX11_shears X S4 L 125 [some (.ref 72), some (.int (nI w)), some (.int mo), none] [.int dd, .int (nI w), .ref 92] (zpv P) := by
      intro dd hdd
      refine b_X11_shears_125 ?_
      rw [cl_nI (n := w) (by omega)]
      refine ⟨vp_in_nI (by omega) (by omega), fun S5 e5 => ⟨vp_in_nI (by omega) (by omega), fun S6 e6 => ?_⟩⟩
      have s5 : ∀ j, j ≠ 92 → S5 j = S4 j := fun j hj => by rw [e5, zc_ne _ _ hj]
      have s6 : ∀ j, j ≠ 88 → S6 j = S5 j := fun j hj => by rw [e6, zc_ne _ _ hj]
      have t6 : ∀ j, j ≠ 93 → j ≠ 94 → j ≠ 91 → j ≠ 90 → j ≠ 92 → j ≠ 88 → S6 j = S j := fun j h1 h2 h3 h4 h5 h6 => (s6 j h6).trans ((s5 j h5).trans (t j h1 h2 h3 h4))
      have h72 : S6 72 = S 72 := t6 72 (by omega) (by omega) (by omega) (by omega) (by omega) (by omega)
      rw [h72]
      have hF6 : mF S S6 := (hF4.trans (show mF S4 S5 by rw [e5]; exact mF.cel (by omega))).trans (show mF S5 S6 by rw [e6]; exact mF.cel (by omega))
      have e150 : ∀ x, x = (if S 72 32 = -1 then nI w else S 72 33) → zU mX11_shears X S6 L 150 [some (.ref 72), none, some (.int mo), none] [.int x, .ref 72] (zpv P) := by
        intro x hx
        refine b_X11_shears_150 (fun S7 e7 => ?_)
        have s7 : ∀ j, j ≠ 72 → S7 j = S6 j := fun j hj => by rw [e7, zc_ne _ _ hj]
        have h7 : S7 72 = upd (S 72) 33 x := by rw [e7, zc_eq, h72]
        have h732 : S7 72 32 = S 72 32 := by rw [h7, upd, if_neg (by omega)]
        rw [h732]
        have last : ∀ S8 y, S8 = zc S7 72 (upd (S7 72) 32 y) → y = (if S 72 32 = -1 then mo else S 72 32) → P S8 L := by
          intro S8 y e8 hy
          have s8 : ∀ j, j ≠ 72 → S8 j = S6 j := fun j hj => by rw [e8, zc_ne _ _ hj, s7 j hj]
          have h8 : S8 72 = upd (upd (S 72) 33 x) 32 y := by rw [e8, zc_eq, h7]
          have hF8 : mF S S8 := (hF6.trans (show mF S6 S7 by rw [e7]; exact mF.fld (by omega))).trans (show mF S7 S8 by rw [e8]; exact mF.fld (by omega))
          refine fin S8 dd hF8 ?_ ?_ ?_ ?_ ?_ ?_ ?_ ?_ ?_ ?_ hdd
          · rw [s8 88 (by omega), e6, zc_eq, s5 88 (by omega), t 88 (by omega) (by omega) (by omega) (by omega)]
          · rw [s8 89 (by omega), t6 89 (by omega) (by omega) (by omega) (by omega) (by omega) (by omega)]
          · rw [s8 90 (by omega), s6 90 (by omega), s5 90 (by omega), f90]
          · rw [s8 91 (by omega), s6 91 (by omega), s5 91 (by omega), f91]
          · rw [s8 92 (by omega), s6 92 (by omega), e5, zc_eq, t 92 (by omega) (by omega) (by omega) (by omega)]
          · rw [s8 93 (by omega), s6 93 (by omega), s5 93 (by omega), f93]
          · rw [s8 94 (by omega), s6 94 (by omega), s5 94 (by omega), f94]
          · rw [h8, upd, if_neg (by omega), upd, if_neg (by omega)]
          · rw [h8, upd, if_pos rfl, hy]
          · rw [h8, upd, if_neg (by omega), upd, if_pos rfl, hx]
        refine ⟨fun z S8 e8 => last S8 _ e8 (by rw [if_neg z]), fun z S8 e8 => last S8 _ e8 (by rw [if_pos z])⟩
      refine ⟨fun z => e150 _ (by rw [if_neg z]), fun z => e150 _ (by rw [if_pos z])⟩
    rw [hmo]
    rw [hmo] at e125
    refine ⟨fun q1 => ⟨vp_in_nI (by omega) (by omega), fun q2 => b_X11_shears_124 (e125 _ ?_), fun q2 => e125 _ ?_⟩, fun q1 => b_X11_shears_124 (e125 _ ?_)⟩
    · rw [if_neg (fun z => z.2 q2)]
    · rw [if_pos ⟨q1, q2⟩]
    · rw [if_neg (fun z => q1 z.1)]
  refine ⟨vp_in_nI (by omega) (by omega), vp_in_nI (by omega) (by omega), vp_in_nI (by omega) (by omega), fun q0 => ⟨vp_in_nI (by omega) (by omega), fun q1 => go 2 ?_, fun q1 => go 1 ?_⟩, fun q0 => go 3 ?_⟩
  · rw [pWm, if_neg q0, if_neg q1]
  · rw [pWm, if_neg q0, if_pos q1]
  · rw [pWm, if_pos q0]
end MH
