/-! THE MONTHS, as plain functions. N: what stands now (0 on: WOOL, 8 on: COUNTY, 16 on: how often SHORN, 24 on: CLOTH, 28 on: WORTH, 32: THORN, 33 on: TAKEN), D: in which month each died -/
abbrev pF : Type := Nat → Int32
abbrev pZ : Type := pF × pF × Int32 × Int32
def pWt (what : Int32) : Int32 := if what = 0 then 1 else if what = 1 then 3 else if what = 2 then 4 else 9
def pGr (w what : Int32) : Int32 := if w = 0 then pWt what / 2 + 1 else if w = 1 then 2 * pWt what else pWt what
abbrev pLv (np : Nat) (D : pF) (who : Int32) : Prop := ¬ who < 0 ∧ who < nI np ∧ D who.toNatClampNeg = -1
def pWl (pe : List T3) (i : Nat) : Int32 := (pe.getD i (0, 0, 0)).1
def pDd (pe : List T3) (D : pF) (mo : Int32) (s : pF × Int32) (d : T3) : pF × Int32 :=
  if d.1 = mo ∧ pLv pe.length D d.2.1 then (upd s.1 d.2.1.toNatClampNeg (s.1 d.2.1.toNatClampNeg + pGr (pWl pe d.2.1.toNatClampNeg) d.2.2), s.2 ||| (1 <<< (d.2.1 &&& 31))) else s
def pDds (pe de : List T3) (D : pF) (mo : Int32) (N : pF) : pF × Int32 := de.foldl (pDd pe D mo) (N, 0)
def pMo1 (D : pF) (g doers : Int32) (N : pF) (p : Nat) : pF := if ¬ N p ≤ 0 ∧ ¬ g < N p ∧ D p = -1 ∧ (doers >>> (nI p &&& 31)) &&& 1 = 0 then upd N p (N p - 1) else N
def pMo (np : Nat) (D : pF) (g doers : Int32) (N : pF) : pF := (List.range np).foldl (pMo1 D g doers) N
/-- what a journey catches -/
def pCa (x : Int32) : Int32 := if x < 2 then x else 2
def pTrN (N : pF) (w : Nat) (cty : Int32) : pF :=
  let N1 := upd N w (N w - pCa (N w))
  let N2 := upd N1 32 (N1 32 + pCa (N w))
  upd N2 (8 + w) cty
def pTr (np : Nat) (D : pF) (mo : Int32) (N : pF) (j : T3) : pF :=
  if j.1 = mo ∧ pLv np D j.2.1 ∧ ¬ N (8 + j.2.1.toNatClampNeg) = j.2.2 then pTrN N j.2.1.toNatClampNeg j.2.2 else N
def pTrs (np : Nat) (jo : List T3) (D : pF) (mo : Int32) (N : pF) : pF := jo.foldl (pTr np D mo) N
def pWo1 (N D : pF) (cty : Int32) (b : Int32 × Int32) (p : Nat) : Int32 × Int32 := if b.2 < N p ∧ N (8 + p) = cty ∧ D p = -1 then (nI p, N p) else b
def pWo (np : Nat) (N D : pF) (cty : Int32) : Int32 := ((List.range np).foldl (pWo1 N D cty) (-1, 0)).1
def pWm (w : Int32) : Int32 := if w = 0 then 3 else if w = 1 then 1 else 2
def pShN (pe : List T3) (N : pF) (w : Nat) : pF :=
  let c := (N (8 + w)).toNatClampNeg
  let N1 := upd N w 0
  let N2 := upd N1 (16 + w) (N1 (16 + w) + 1)
  let N3 := upd N2 (33 + w) (N2 (33 + w) + N w)
  let N4 := upd N3 (24 + c) (N3 (24 + c) + N w)
  upd N4 (28 + c) (N4 (28 + c) + N w * pWm (pWl pe w))
def pSh (pe : List T3) (cold mo : Int32) (fr : Prop) [Decidable fr] (s : pZ) (w : Nat) : pZ :=
  (pShN pe s.1 w, if fr ∧ ¬ s.1 w < cold then upd s.2.1 w mo else s.2.1, if s.2.2.1 = -1 then mo else s.2.2.1, if s.2.2.1 = -1 then nI w else s.2.2.2)
def pRn (pe : List T3) (cold mo : Int32) (fr : Prop) [Decidable fr] (cty : Int32) (s : pZ) : pZ :=
  if pWo pe.length s.1 s.2.1 cty = -1 then s else pSh pe cold mo fr s (pWo pe.length s.1 s.2.1 cty).toNatClampNeg
def pIt {α : Type} (f : α → α) : Nat → α → α
  | 0, s => s
  | n + 1, s => pIt f n (f s)
def pRd (pe : List T3) (cold mo : Int32) (fr : Prop) [Decidable fr] (s : pZ) (r : T3) : pZ := if r.1 = mo then pIt (pRn pe cold mo fr r.2.1) r.2.2.toNatClampNeg s else s
/-- one month -/
abbrev pFr (fb : Int32) (m : Nat) : Prop := (fb >>> (nI m &&& 31)) &&& 1 = 1
def pMs (pe de ro jo : List T3) (fb g c : Int32) (m : Nat) (s : pZ) : pZ :=
  let a := pDds pe de s.2.1 (nI m) s.1
  let b := pTrs pe.length jo s.2.1 (nI m) (pMo pe.length s.2.1 g a.2 a.1)
  ro.foldl (pRd pe c (nI m) (pFr fb m)) (b, s.2)
def pN0 (pe : List T3) : pF := fun j => if j < pe.length then (pe.getD j (0, 0, 0)).2.2 else if 8 ≤ j ∧ j - 8 < pe.length then (pe.getD (j - 8) (0, 0, 0)).2.1 else 0
def pZ0 (pe : List T3) : pZ := (pN0 pe, fun _ => -1, -1, -1)
/-- behind n months -/
def pC (pe de ro jo : List T3) (fb g c : Int32) : Nat → pZ
  | 0 => pZ0 pe
  | n + 1 => pMs pe de ro jo fb g c n (pC pe de ro jo fb g c n)
/-! the cells of a Course at k -/
def zMm (S : zS) (k : Nat) (N D R : pF) (fm fw : Int32) : zS := fun j => if j = k then upd (upd (S k) 4 fm) 5 fw else if j = k + 1 then N else if j = k + 2 then R else if j = k + 3 then D else S j
section MM
variable {S : zS} {k : Nat} {N D R N' D' R' : pF} {fm fw x : Int32}
theorem zMm_k : zMm S k N D R fm fw k = upd (upd (S k) 4 fm) 5 fw := by simp [zMm]
theorem zMm_1 : zMm S k N D R fm fw (k + 1) = N := by simp [zMm]
theorem zMm_2 : zMm S k N D R fm fw (k + 2) = R := by simp [zMm]
theorem zMm_3 : zMm S k N D R fm fw (k + 3) = D := by simp [zMm]
theorem zMm_o {j : Nat} (h : j < k ∨ k + 3 < j) : zMm S k N D R fm fw j = S j := by
  unfold zMm
  rw [if_neg (by omega), if_neg (by omega), if_neg (by omega), if_neg (by omega)]
theorem zMm_fm : zMm S k N D R fm fw k 4 = fm := by simp [zMm, upd]
theorem zMm_fw : zMm S k N D R fm fw k 5 = fw := by simp [zMm, upd]
theorem zMm_s1 : zc (zMm S k N D R fm fw) (k + 1) N' = zMm S k N' D R fm fw := by
  funext j; simp only [zc, zMm]; (repeat' split) <;> first | rfl | omega
theorem zMm_s2 : zc (zMm S k N D R fm fw) (k + 2) R' = zMm S k N D R' fm fw := by
  funext j; simp only [zc, zMm]; (repeat' split) <;> first | rfl | omega
theorem zMm_s3 : zc (zMm S k N D R fm fw) (k + 3) D' = zMm S k N D' R fm fw := by
  funext j; simp only [zc, zMm]; (repeat' split) <;> first | rfl | omega
theorem zMm_s4 : zc (zMm S k N D R fm fw) k (upd (zMm S k N D R fm fw k) 4 x) = zMm S k N D R x fw := by
  funext j
  by_cases hj : j = k
  · subst hj
    funext i
    simp only [zc, zMm, if_true, upd]
    (repeat' split) <;> first | rfl | omega | (subst_vars; rfl)
  · simp only [zc, zMm, if_neg hj]
theorem zMm_s5 : zc (zMm S k N D R fm fw) k (upd (zMm S k N D R fm fw k) 5 x) = zMm S k N D R fm x := by
  funext j
  by_cases hj : j = k
  · subst hj
    funext i
    simp only [zc, zMm, if_true, upd]
    (repeat' split) <;> first | rfl | omega | (subst_vars; rfl)
  · simp only [zc, zMm, if_neg hj]
theorem zMm_self : S = zMm S k (S (k + 1)) (S (k + 3)) (S (k + 2)) (S k 4) (S k 5) := by
  funext j
  by_cases hj : j = k
  · subst hj
    funext i
    simp only [zMm, if_true, upd]
    (repeat' split) <;> first | rfl | (subst_vars; rfl)
  · simp only [zMm, if_neg hj]
    (repeat' split) <;> first | rfl | (subst_vars; rfl)
theorem zMm_mm {fm' fw' : Int32} : zMm (zMm S k N D R fm fw) k N' D' R' fm' fw' = zMm S k N' D' R' fm' fw' := by
  funext j
  by_cases hj : j = k
  · subst hj
    funext i
    simp only [zMm, if_true, upd]
    (repeat' split) <;> rfl
  · simp only [zMm, if_neg hj]
    (repeat' split) <;> rfl
end MM
