theorem ix1_s {i : Nat} (hi : i < zSn) {n : Nat} (hn : n < 256) {S : zS} {L : zL} {P : Int32 → zS → zL → Prop} (h : P (pIx i (nI n)) S L) : zCi mJ1_indexOf_4cfef S L [.ref (1100 + i), .int (nI n), .int 0, .int (nI (zSl.getD i 0))] P := by
  have hp : 0 < zSl.getD i 0 := (by decide : ∀ i, i < 7 → 0 < zSl.getD i 0) i hi
  have h24 := (txt_all i hi).2.1
  refine e_J1_indexOf_4cfef (fun X => b_J1_indexOf_4cfef_0 hi ⟨fun _ x1 e1 x2 e2 => ?_, fun q => absurd ⟨nI_pos (by omega), ?_⟩ q⟩)
  · rw [if_neg (by decide)] at e1
    rw [if_neg (nI_nlt (Nat.le_refl _) (by omega))] at e2
    rw [e1, e2]
    exact ⟨fun _ => ixChar_s hi hn h, fun q => absurd (nI_lt (a := 0) hp (by omega)) q⟩
  · exact nI_nlt (a := 255) (by omega) (by omega)
