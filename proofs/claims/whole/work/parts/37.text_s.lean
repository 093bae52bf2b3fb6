theorem isLatin1_s {i : Nat} (hi : i < zSn) {S : zS} {L : zL} {P : Int32 → zS → zL → Prop} (h : P 1 S L) : zCi mJ0_isLatin1_aae02 S L [.ref (1000 + i)] P := e_J0_isLatin1_aae02 (fun X => b_J0_isLatin1_aae02_0 hi h)
theorem coder_s {i : Nat} (hi : i < zSn) {S : zS} {L : zL} {P : Int32 → zS → zL → Prop} (h : P 0 S L) : zCi mJ0_coder_7d493 S L [.ref (1000 + i)] P := e_J0_coder_7d493 (fun X => b_J0_coder_7d493_0 hi h)
theorem canEnc_s {ch : Int32} {S : zS} {L : zL} {P : Int32 → zS → zL → Prop} (h : P (if ¬ ch < 0 ∧ ¬ (255 : Int32) < ch then 1 else 0) S L) : zCi mJ1_canEncode_9a6ad S L [.int ch] P := by
  refine e_J1_canEncode_9a6ad (fun X => b_J1_canEncode_9a6ad_0 ⟨fun q => ?_, fun q1 => ⟨fun q => ?_, fun q2 => ?_⟩⟩)
  · rw [if_neg (fun z => z.1 q)] at h; exact h
  · rw [if_neg (fun z => z.2 q)] at h; exact h
  · rw [if_pos ⟨q1, q2⟩] at h; exact h
/-- each text constant: its length, every byte below 128 -/
theorem txt_all : ∀ i, i < 7 → (zSl.getD i 0 = (zSb.getD i []).length ∧ zSl.getD i 0 ≤ 24 ∧ ∀ b ∈ zSb.getD i [], ∃ n, n < 128 ∧ b = nI n) := by
  have : ∀ i, i < 7 → (zSl.getD i 0 = (zSb.getD i []).length ∧ zSl.getD i 0 ≤ 24 ∧ ∀ b ∈ zSb.getD i [], (b.toNatClampNeg < 128 ∧ b = nI b.toNatClampNeg)) := by decide +kernel
  intro i hi
  obtain ⟨h1, h2, h3⟩ := this i hi
  exact ⟨h1, h2, fun b hb => ⟨_, (h3 b hb).1, (h3 b hb).2⟩⟩
/-- the place of a sign among those of a text -/
def pIxF (c : Int32) : List Int32 → Nat → Int32
  | [], _ => -1
  | b :: l, k => if b = c then nI k else pIxF c l (k + 1)
def pIx (i : Nat) (c : Int32) : Int32 := pIxF c (zSb.getD i []) 0
theorem shr0 (n : Nat) (h : n < 2000) : nI n >>> ((0 : Int32) &&& 31) = nI n := by
  rw [pk_shrN (by omega) _ 0 (by decide)]
  rw [Nat.pow_zero, Nat.div_one]
