theorem slen_s {i : Nat} (hi : i < zSn) {S : zS} {L : zL} {P : Int32 → zS → zL → Prop} (h : P (nI (zSl.getD i 0)) S L) : zCi mJ0_length_8abf5 S L [.ref (1000 + i)] P := by
  refine e_J0_length_8abf5 (fun X => b_J0_length_8abf5_0 hi ?_)
  rw [shr0 _ (by have := (txt_all i hi).2.1; omega)]
  exact h
theorem byt_eq : ∀ n, n < 256 → ∀ m, m < 128 → (nI m = (nI n).toInt8.toInt32 ↔ m = n) := by decide +kernel
theorem ixChar_l {i : Nat} (hi : i < zSn) {n : Nat} (hn : n < 256) {S : zS} {L : zL} {X : Nat × (Nat → Int32)} {P : Int32 → zS → zL → Prop} : ∀ (l : List Int32) (k : Nat), (zSb.getD i []).drop k = l → k ≤ zSl.getD i 0 → P (pIxF (nI n) l k) S L → zU mJ1_indexOfChar_4cfef X S L 7 [some (.ref (1100 + i)), none, none, some (.int (nI (zSl.getD i 0))), some (.int (nI n).toInt8.toInt32), some (.int (nI k))] [] (zpi P) := by
  obtain ⟨t1, t2, t3⟩ := txt_all i hi
  intro l
  induction l with
  | nil =>
    intro k hd hk h
    have hl : (zSb.getD i []).length ≤ k := List.drop_eq_nil_iff.mp hd
    exact b_J1_indexOfChar_4cfef_7 hi ⟨fun _ => h, fun q => absurd (nI_le (by omega) (by omega)) q⟩
  | cons b l ih =>
    intro k hd hk h
    have hl : k < (zSb.getD i []).length := by
      rcases Nat.lt_or_ge k (zSb.getD i []).length with q | q
      · exact q
      · rw [List.drop_eq_nil_iff.mpr q] at hd; cases hd
    have he : (zSb.getD i [])[k]? = some b := by
      have : ((zSb.getD i []).drop k)[0]? = some b := by rw [hd]; rfl
      simpa using this
    have hd2 : (zSb.getD i []).drop (k + 1) = l := by rw [← List.drop_drop, hd]; rfl
    obtain ⟨m, hm, rfl⟩ := t3 b (List.mem_of_getElem? he)
    refine b_J1_indexOfChar_4cfef_7 hi ⟨fun q => absurd q (nI_ge (by omega) (by omega)), fun _ => ?_⟩
    have hg : (zSb.getD i []).getD k 0 = nI m := by rw [List.getD_eq_getElem?_getD, he]; rfl
    rw [cl_nI (n := k) (by omega), hg]
    rw [pIxF] at h
    refine ⟨vp_in_nI (by omega) (by omega), fun q x1 e1 => ?_, fun q => ?_⟩
    · rw [e1, nI_1]
      rw [if_neg (fun z => q ((byt_eq n hn m hm).mpr ((nI_eq (by omega) (by omega)).mp z)))] at h
      exact ih (k + 1) hd2 (by omega) h
    · rw [if_pos (by rw [(byt_eq n hn m hm).mp q])] at h
      exact h
theorem ixChar_s {i : Nat} (hi : i < zSn) {n : Nat} (hn : n < 256) {S : zS} {L : zL} {P : Int32 → zS → zL → Prop} (h : P (pIx i (nI n)) S L) : zCi mJ1_indexOfChar_4cfef S L [.ref (1100 + i), .int (nI n), .int 0, .int (nI (zSl.getD i 0))] P :=
  e_J1_indexOfChar_4cfef (fun X => b_J1_indexOfChar_4cfef_0 hi (fun x1 e1 => by rw [e1]; exact ixChar_l hi hn _ 0 rfl (Nat.zero_le _) h))
