/-! THE LAW -/
theorem cI.same {σ : sg} {S S' : zS} {L : zL} (h : cI σ S L) (o : ∀ j, j < 72 → S' j = S j) : cI σ S' L := by
  obtain ⟨t0, t1, g, c, ro, jo, fr, se, fo, le, it, la⟩ := σ
  obtain ⟨h1, h2, h3, ⟨q1, q2, q3, q4, q5, q6, q7, q8, q9⟩, h5, h6⟩ := h
  exact ⟨h1, h2.keep (o _ (by omega)) (o _ (by omega)), h3.keep (o _ (by omega)) (o _ (by omega)), ⟨q1.out (fun j a b => o j (by omega)), q2, q3.keep (o _ (by omega)) (o _ (by omega)) (o _ (by omega)) (o _ (by omega)), q4.keep (o _ (by omega)) (o _ (by omega)) (o _ (by omega)) (o _ (by omega)), q5.keep (by rw [o 56 (by omega)]) (o _ (by omega)), q6.keep (fun i _ _ => by rw [o 56 (by omega)]), q7.keep (fun i _ => by rw [o 56 (by omega)]), q8.keep (o _ (by omega)) (o _ (by omega)), q9.keep (by rw [o 65 (by omega)]) (by rw [o 65 (by omega)]) rfl rfl⟩, h5.keep (o _ (by omega)) (o _ (by omega)) (o _ (by omega)) (o _ (by omega)), h6⟩
theorem mK.same {σ : sg} {S S' : zS} (h : mK σ S) (o : ∀ j, 72 ≤ j → S' j = S j) : mK σ S' := by
  obtain ⟨t0, t1, g, c, ro, jo, fr, se, fo, le, it, la⟩ := σ
  obtain ⟨h1, h2, h3, ⟨h4, h5⟩, ⟨h6, h7⟩, h8, h9, h10, h11, h12⟩ := h
  have e : S' 72 = S 72 := o 72 (by omega)
  exact ⟨h1, h2, h3, ⟨h4.keep (o _ (by omega)) (o _ (by omega)), h5.keep (o _ (by omega)) (o _ (by omega))⟩, ⟨by rw [e]; exact h6, by rw [e]; exact h7⟩, h8.keep (o _ (by omega)) (o _ (by omega)) (o _ (by omega)) (by rw [e]), h9.keep (o _ (by omega)) (o _ (by omega)) (o _ (by omega)) (by rw [e]), h10.keep (o _ (by omega)) (by rw [e]), h11.keep (o _ (by omega)) (o _ (by omega)) (o _ (by omega)) (by rw [e]), h12.keep (o _ (by omega)) (o _ (by omega)) (o _ (by omega)) (o _ (by omega)) (by rw [e])⟩
/-- both stand alike -/
def zB (S : zS) (L : zL) : Prop := ∃ σ, cI σ S L ∧ mK σ S
theorem both_type {a0 a1 : Int32} {S : zS} {L : zL} (h : zB S L) : zCi mX10_type S L [.ref 0, .int a0, .int a1] (fun y S1 L1 => zCi mX11_type S1 L1 [.ref 72, .int a0, .int a1] (fun y2 S2 L2 => y = y2 ∧ zB S2 L2)) := by
  obtain ⟨⟨t0, t1, g, c, ro, jo, fr, se, fo, le, it, la⟩, h1, h2⟩ := h
  exact type_c h1 (fun S1 L1 i1 o1 => type_m (h2.same o1) (fun S2 k2 o2 => ⟨rfl, _, i1.same o2, k2⟩))
theorem both_wipe {a0 : Int32} {S : zS} {L : zL} (h : zB S L) : zCi mX10_wipe S L [.ref 0, .int a0] (fun y S1 L1 => zCi mX11_wipe S1 L1 [.ref 72, .int a0] (fun y2 S2 L2 => y = y2 ∧ zB S2 L2)) := by
  obtain ⟨⟨t0, t1, g, c, ro, jo, fr, se, fo, le, it, la⟩, h1, h2⟩ := h
  exact wipe_c h1 (fun S1 L1 i1 o1 => wipe_m (h2.same o1) (fun S2 k2 o2 => ⟨rfl, _, i1.same o2, k2⟩))
theorem both_undo {a0 : Int32} {S : zS} {L : zL} (h : zB S L) : zCi mX10_undo S L [.ref 0, .int a0] (fun y S1 L1 => zCi mX11_undo S1 L1 [.ref 72, .int a0] (fun y2 S2 L2 => y = y2 ∧ zB S2 L2)) := by
  obtain ⟨⟨t0, t1, g, c, ro, jo, fr, se, fo, le, it, la⟩, h1, h2⟩ := h
  exact undo_c h1 (fun S1 L1 i1 o1 => undo_m (h2.same o1) (fun S2 k2 o2 => ⟨rfl, _, i1.same o2, k2⟩))
theorem both_fault {a0 : Int32} {S : zS} {L : zL} (h : zB S L) : zCi mX10_fault S L [.ref 0, .int a0] (fun y S1 L1 => zCi mX11_fault S1 L1 [.ref 72, .int a0] (fun y2 S2 L2 => y = y2 ∧ zB S2 L2)) := by
  obtain ⟨⟨t0, t1, g, c, ro, jo, fr, se, fo, le, it, la⟩, h1, h2⟩ := h
  exact fault_q h1 (fun S1 L1 i1 o1 => fault_m (h2.same o1) (fun S2 k2 o2 => ⟨rfl, _, i1.same o2, k2⟩))
theorem both_person {a0 a1 : Int32} {S : zS} {L : zL} (h : zB S L) : zCi mX10_person S L [.ref 0, .int a0, .int a1] (fun y S1 L1 => zCi mX11_person S1 L1 [.ref 72, .int a0, .int a1] (fun y2 S2 L2 => y = y2 ∧ zB S2 L2)) := by
  obtain ⟨⟨t0, t1, g, c, ro, jo, fr, se, fo, le, it, la⟩, h1, h2⟩ := h
  exact person_q h1 (fun S1 L1 i1 o1 => person_m (h2.same o1) (fun S2 k2 o2 => ⟨rfl, _, i1.same o2, k2⟩))
theorem both_deed {a0 a1 : Int32} {S : zS} {L : zL} (h : zB S L) : zCi mX10_deed S L [.ref 0, .int a0, .int a1] (fun y S1 L1 => zCi mX11_deed S1 L1 [.ref 72, .int a0, .int a1] (fun y2 S2 L2 => y = y2 ∧ zB S2 L2)) := by
  obtain ⟨⟨t0, t1, g, c, ro, jo, fr, se, fo, le, it, la⟩, h1, h2⟩ := h
  exact deed_q h1 (fun S1 L1 i1 o1 => deed_m (h2.same o1) (fun S2 k2 o2 => ⟨rfl, _, i1.same o2, k2⟩))
theorem both_set {a0 a1 : Int32} {S : zS} {L : zL} (h : zB S L) : zCi mX10_set S L [.ref 0, .int a0, .int a1] (fun y S1 L1 => zCi mX11_set S1 L1 [.ref 72, .int a0, .int a1] (fun y2 S2 L2 => y = y2 ∧ zB S2 L2)) := by
  obtain ⟨⟨t0, t1, g, c, ro, jo, fr, se, fo, le, it, la⟩, h1, h2⟩ := h
  exact set_c h1 (fun S1 L1 i1 o1 => set_m (h2.same o1) (fun S2 k2 o2 => ⟨rfl, _, i1.same o2, k2⟩))
theorem both_round {a0 a1 a2 : Int32} {S : zS} {L : zL} (h : zB S L) : zCi mX10_round S L [.ref 0, .int a0, .int a1, .int a2] (fun y S1 L1 => zCi mX11_round S1 L1 [.ref 72, .int a0, .int a1, .int a2] (fun y2 S2 L2 => y = y2 ∧ zB S2 L2)) := by
  obtain ⟨⟨t0, t1, g, c, ro, jo, fr, se, fo, le, it, la⟩, h1, h2⟩ := h
  exact round_c h1 (fun S1 L1 i1 o1 => round_m (h2.same o1) (fun S2 k2 o2 => ⟨rfl, _, i1.same o2, k2⟩))
theorem both_journey {a0 a1 a2 : Int32} {S : zS} {L : zL} (h : zB S L) : zCi mX10_journey S L [.ref 0, .int a0, .int a1, .int a2] (fun y S1 L1 => zCi mX11_journey S1 L1 [.ref 72, .int a0, .int a1, .int a2] (fun y2 S2 L2 => y = y2 ∧ zB S2 L2)) := by
  obtain ⟨⟨t0, t1, g, c, ro, jo, fr, se, fo, le, it, la⟩, h1, h2⟩ := h
  exact journey_c h1 (fun S1 L1 i1 o1 => journey_m (h2.same o1) (fun S2 k2 o2 => ⟨rfl, _, i1.same o2, k2⟩))
theorem both_frost {a0 : Int32} {S : zS} {L : zL} (h : zB S L) : zCi mX10_frost S L [.ref 0, .int a0] (fun y S1 L1 => zCi mX11_frost S1 L1 [.ref 72, .int a0] (fun y2 S2 L2 => y = y2 ∧ zB S2 L2)) := by
  obtain ⟨⟨t0, t1, g, c, ro, jo, fr, se, fo, le, it, la⟩, h1, h2⟩ := h
  exact frost_c h1 (fun S1 L1 i1 o1 => frost_m (h2.same o1) (fun S2 k2 o2 => ⟨rfl, _, i1.same o2, k2⟩))
theorem both_back {a0 : Int32} {S : zS} {L : zL} (h : zB S L) : zCi mX10_back S L [.ref 0, .int a0] (fun y S1 L1 => zCi mX11_back S1 L1 [.ref 72, .int a0] (fun y2 S2 L2 => y = y2 ∧ zB S2 L2)) := by
  obtain ⟨⟨t0, t1, g, c, ro, jo, fr, se, fo, le, it, la⟩, h1, h2⟩ := h
  exact back_c h1 (fun S1 L1 i1 o1 => back_m (h2.same o1) (fun S2 k2 o2 => ⟨rfl, _, i1.same o2, k2⟩))
theorem both_read {a0 : Int32} {S : zS} {L : zL} (h : zB S L) : zCi mX10_read S L [.ref 0, .int a0] (fun y S1 L1 => zCi mX11_read S1 L1 [.ref 72, .int a0] (fun y2 S2 L2 => y = y2 ∧ zB S2 L2)) := by
  obtain ⟨⟨t0, t1, g, c, ro, jo, fr, se, fo, le, it, la⟩, h1, h2⟩ := h
  exact read_c h1 (fun S1 L1 i1 o1 => read_m (h2.same o1) (fun S2 k2 o2 => ⟨rfl, _, i1.same o2, k2⟩))
theorem both_wool {a0 a1 a2 : Int32} {S : zS} {L : zL} (h : zB S L) : zCi mX10_wool S L [.ref 0, .int a0, .int a1, .int a2] (fun y S1 L1 => zCi mX11_wool S1 L1 [.ref 72, .int a0, .int a1, .int a2] (fun y2 S2 L2 => y = y2 ∧ zB S2 L2)) := by
  obtain ⟨⟨t0, t1, g, c, ro, jo, fr, se, fo, le, it, la⟩, h1, h2⟩ := h
  exact wool_q h1 (fun S1 L1 i1 o1 => wool_m (h2.same o1) (fun S2 k2 o2 => ⟨rfl, _, i1.same o2, k2⟩))
theorem both_dies {a0 : Int32} {S : zS} {L : zL} (h : zB S L) : zCi mX10_dies S L [.ref 0, .int a0] (fun y S1 L1 => zCi mX11_dies S1 L1 [.ref 72, .int a0] (fun y2 S2 L2 => y = y2 ∧ zB S2 L2)) := by
  obtain ⟨⟨t0, t1, g, c, ro, jo, fr, se, fo, le, it, la⟩, h1, h2⟩ := h
  exact dies_q h1 (fun S1 L1 i1 o1 => dies_m (h2.same o1) (fun S2 k2 o2 => ⟨rfl, _, i1.same o2, k2⟩))
theorem both_cloth {a0 a1 a2 : Int32} {S : zS} {L : zL} (h : zB S L) : zCi mX10_cloth S L [.ref 0, .int a0, .int a1, .int a2] (fun y S1 L1 => zCi mX11_cloth S1 L1 [.ref 72, .int a0, .int a1, .int a2] (fun y2 S2 L2 => y = y2 ∧ zB S2 L2)) := by
  obtain ⟨⟨t0, t1, g, c, ro, jo, fr, se, fo, le, it, la⟩, h1, h2⟩ := h
  exact cloth_q h1 (fun S1 L1 i1 o1 => cloth_m (h2.same o1) (fun S2 k2 o2 => ⟨rfl, _, i1.same o2, k2⟩))
theorem both_thorn {a0 : Int32} {S : zS} {L : zL} (h : zB S L) : zCi mX10_thorn S L [.ref 0, .int a0] (fun y S1 L1 => zCi mX11_thorn S1 L1 [.ref 72, .int a0] (fun y2 S2 L2 => y = y2 ∧ zB S2 L2)) := by
  obtain ⟨⟨t0, t1, g, c, ro, jo, fr, se, fo, le, it, la⟩, h1, h2⟩ := h
  exact thorn_q h1 (fun S1 L1 i1 o1 => thorn_m (h2.same o1) (fun S2 k2 o2 => ⟨rfl, _, i1.same o2, k2⟩))
theorem both_tax {a0 : Int32} {S : zS} {L : zL} (h : zB S L) : zCi mX10_tax S L [.ref 0, .int a0] (fun y S1 L1 => zCi mX11_tax S1 L1 [.ref 72, .int a0] (fun y2 S2 L2 => y = y2 ∧ zB S2 L2)) := by
  obtain ⟨⟨t0, t1, g, c, ro, jo, fr, se, fo, le, it, la⟩, h1, h2⟩ := h
  exact tax_q h1 (fun S1 L1 i1 o1 => tax_m (h2.same o1) (fun S2 k2 o2 => ⟨rfl, _, i1.same o2, k2⟩))
theorem both_heaviest {a0 : Int32} {S : zS} {L : zL} (h : zB S L) : zCi mX10_heaviest S L [.ref 0, .int a0] (fun y S1 L1 => zCi mX11_heaviest S1 L1 [.ref 72, .int a0] (fun y2 S2 L2 => y = y2 ∧ zB S2 L2)) := by
  obtain ⟨⟨t0, t1, g, c, ro, jo, fr, se, fo, le, it, la⟩, h1, h2⟩ := h
  exact heaviest_q h1 (fun S1 L1 i1 o1 => heaviest_m (h2.same o1) (fun S2 k2 o2 => ⟨rfl, _, i1.same o2, k2⟩))
theorem both_first {a0 : Int32} {S : zS} {L : zL} (h : zB S L) : zCi mX10_first S L [.ref 0, .int a0] (fun y S1 L1 => zCi mX11_first S1 L1 [.ref 72, .int a0] (fun y2 S2 L2 => y = y2 ∧ zB S2 L2)) := by
  obtain ⟨⟨t0, t1, g, c, ro, jo, fr, se, fo, le, it, la⟩, h1, h2⟩ := h
  exact first_q h1 (fun S1 L1 i1 o1 => first_m (h2.same o1) (fun S2 k2 o2 => ⟨rfl, _, i1.same o2, k2⟩))
theorem both_plan {a0 a1 : Int32} {S : zS} {L : zL} (h : zB S L) : zCi mX10_plan S L [.ref 0, .int a0, .int a1] (fun y S1 L1 => zCi mX11_plan S1 L1 [.ref 72, .int a0, .int a1] (fun y2 S2 L2 => y = y2 ∧ zB S2 L2)) := by
  obtain ⟨⟨t0, t1, g, c, ro, jo, fr, se, fo, le, it, la⟩, h1, h2⟩ := h
  exact plan_q h1 (fun S1 L1 i1 o1 => plan_m (h2.same o1) (fun S2 k2 o2 => ⟨rfl, _, i1.same o2, k2⟩))
theorem both_light {a0 a1 a2 : Int32} {S : zS} {L : zL} (h : zB S L) : zCi mX10_light S L [.ref 0, .int a0, .int a1, .int a2] (fun y S1 L1 => zCi mX11_light S1 L1 [.ref 72, .int a0, .int a1, .int a2] (fun y2 S2 L2 => y = y2 ∧ zB S2 L2)) := by
  obtain ⟨⟨t0, t1, g, c, ro, jo, fr, se, fo, le, it, la⟩, h1, h2⟩ := h
  exact light_q h1 (fun S1 L1 i1 o1 => light_m (h2.same o1) (fun S2 k2 o2 => ⟨rfl, _, i1.same o2, k2⟩))
theorem both_spare {a0 : Int32} {S : zS} {L : zL} (h : zB S L) : zCi mX10_spare S L [.ref 0, .int a0] (fun y S1 L1 => zCi mX11_spare S1 L1 [.ref 72, .int a0] (fun y2 S2 L2 => y = y2 ∧ zB S2 L2)) := by
  obtain ⟨⟨t0, t1, g, c, ro, jo, fr, se, fo, le, it, la⟩, h1, h2⟩ := h
  exact spare_q h1 (fun S1 L1 i1 o1 => spare_m (h2.same o1) (fun S2 k2 o2 => ⟨rfl, _, i1.same o2, k2⟩))
theorem both_home {a0 a1 : Int32} {S : zS} {L : zL} (h : zB S L) : zCi mX10_home S L [.ref 0, .int a0, .int a1] (fun y S1 L1 => zCi mX11_home S1 L1 [.ref 72, .int a0, .int a1] (fun y2 S2 L2 => y = y2 ∧ zB S2 L2)) := by
  obtain ⟨⟨t0, t1, g, c, ro, jo, fr, se, fo, le, it, la⟩, h1, h2⟩ := h
  exact home_q h1 (fun S1 L1 i1 o1 => home_m (h2.same o1) (fun S2 k2 o2 => ⟨rfl, _, i1.same o2, k2⟩))
theorem both_seen {a0 a1 a2 : Int32} {S : zS} {L : zL} (h : zB S L) : zCi mX10_seen S L [.ref 0, .int a0, .int a1, .int a2] (fun y S1 L1 => zCi mX11_seen S1 L1 [.ref 72, .int a0, .int a1, .int a2] (fun y2 S2 L2 => y = y2 ∧ zB S2 L2)) := by
  obtain ⟨⟨t0, t1, g, c, ro, jo, fr, se, fo, le, it, la⟩, h1, h2⟩ := h
  exact seen_c h1 (fun S1 L1 i1 o1 => seen_m (h2.same o1) (fun S2 k2 o2 => ⟨rfl, _, i1.same o2, k2⟩))
theorem both_forget {S : zS} {L : zL} (h : zB S L) : zCi mX10_forget S L [.ref 0] (fun y S1 L1 => zCi mX11_forget S1 L1 [.ref 72] (fun y2 S2 L2 => y = y2 ∧ zB S2 L2)) := by
  obtain ⟨⟨t0, t1, g, c, ro, jo, fr, se, fo, le, it, la⟩, h1, h2⟩ := h
  exact forget_c h1 (fun S1 L1 i1 o1 => forget_m (h2.same o1) (fun S2 k2 o2 => ⟨rfl, _, i1.same o2, k2⟩))
theorem both_never {S : zS} {L : zL} (h : zB S L) : zCi mX10_never S L [.ref 0] (fun y S1 L1 => zCi mX11_never S1 L1 [.ref 72] (fun y2 S2 L2 => y = y2 ∧ zB S2 L2)) := by
  obtain ⟨⟨t0, t1, g, c, ro, jo, fr, se, fo, le, it, la⟩, h1, h2⟩ := h
  exact never_q h1 (fun S1 L1 i1 o1 => never_m (h2.same o1) (fun S2 k2 o2 => ⟨rfl, _, i1.same o2, k2⟩))
theorem both_was {a0 a1 : Int32} {S : zS} {L : zL} (h : zB S L) : zCi mX10_was S L [.ref 0, .int a0, .int a1] (fun y S1 L1 => zCi mX11_was S1 L1 [.ref 72, .int a0, .int a1] (fun y2 S2 L2 => y = y2 ∧ zB S2 L2)) := by
  obtain ⟨⟨t0, t1, g, c, ro, jo, fr, se, fo, le, it, la⟩, h1, h2⟩ := h
  exact was_q h1 (fun S1 L1 i1 o1 => was_m (h2.same o1) (fun S2 k2 o2 => ⟨rfl, _, i1.same o2, k2⟩))
theorem both_ask {a0 : Int32} {S : zS} {L : zL} (h : zB S L) : zCi mX10_ask S L [.ref 0, .int a0] (fun y S1 L1 => zCi mX11_ask S1 L1 [.ref 72, .int a0] (fun y2 S2 L2 => y = y2 ∧ zB S2 L2)) := by
  obtain ⟨⟨t0, t1, g, c, ro, jo, fr, se, fo, le, it, la⟩, h1, h2⟩ := h
  exact ask_q h1 (fun S1 L1 i1 o1 => ask_m (h2.same o1) (fun S2 k2 o2 => ⟨rfl, _, i1.same o2, k2⟩))
theorem both_virtue {a0 a1 a2 a3 : Int32} {S : zS} {L : zL} (h : zB S L) : zCl mX10_virtue S L [.ref 0, .int a0, .int a1, .int a2, .int a3] (fun y S1 L1 => zCl mX11_virtue S1 L1 [.ref 72, .int a0, .int a1, .int a2, .int a3] (fun y2 S2 L2 => y = y2 ∧ zB S2 L2)) := by
  obtain ⟨⟨t0, t1, g, c, ro, jo, fr, se, fo, le, it, la⟩, h1, h2⟩ := h
  exact virtue_q h1 (fun S1 L1 i1 o1 => virtue_m (h2.same o1) (fun S2 k2 o2 => ⟨rfl, _, i1.same o2, k2⟩))
theorem both_years {a0 a1 a2 : Int32} {S : zS} {L : zL} (h : zB S L) : zCi mX10_years S L [.ref 0, .int a0, .int a1, .int a2] (fun y S1 L1 => zCi mX11_years S1 L1 [.ref 72, .int a0, .int a1, .int a2] (fun y2 S2 L2 => y = y2 ∧ zB S2 L2)) := by
  obtain ⟨⟨t0, t1, g, c, ro, jo, fr, se, fo, le, it, la⟩, h1, h2⟩ := h
  exact years_q h1 (fun S1 L1 i1 o1 => years_m (h2.same o1) (fun S2 k2 o2 => ⟨rfl, _, i1.same o2, k2⟩))
theorem both_sheet {a0 a1 a2 : Int32} {S : zS} {L : zL} (h : zB S L) : zCi mX10_sheet S L [.ref 0, .int a0, .int a1, .int a2] (fun y S1 L1 => zCi mX11_sheet S1 L1 [.ref 72, .int a0, .int a1, .int a2] (fun y2 S2 L2 => y = y2 ∧ zB S2 L2)) := by
  obtain ⟨⟨t0, t1, g, c, ro, jo, fr, se, fo, le, it, la⟩, h1, h2⟩ := h
  exact sheet_c h1 (fun S1 L1 i1 o1 => sheet_m (h2.same o1) (fun S2 k2 o2 => ⟨rfl, _, i1.same o2, k2⟩))
theorem both_lose {a0 : Int32} {S : zS} {L : zL} (h : zB S L) : zCi mX10_lose S L [.ref 0, .int a0] (fun y S1 L1 => zCi mX11_lose S1 L1 [.ref 72, .int a0] (fun y2 S2 L2 => y = y2 ∧ zB S2 L2)) := by
  obtain ⟨⟨t0, t1, g, c, ro, jo, fr, se, fo, le, it, la⟩, h1, h2⟩ := h
  exact lose_c h1 (fun S1 L1 i1 o1 => lose_m (h2.same o1) (fun S2 k2 o2 => ⟨rfl, _, i1.same o2, k2⟩))
theorem both_put {a0 a1 a2 a3 : Int32} {S : zS} {L : zL} (h : zB S L) : zCi mX10_put S L [.ref 0, .int a0, .int a1, .int a2, .int a3] (fun y S1 L1 => zCi mX11_put S1 L1 [.ref 72, .int a0, .int a1, .int a2, .int a3] (fun y2 S2 L2 => y = y2 ∧ zB S2 L2)) := by
  obtain ⟨⟨t0, t1, g, c, ro, jo, fr, se, fo, le, it, la⟩, h1, h2⟩ := h
  exact put_c h1 (fun S1 L1 i1 o1 => put_m (h2.same o1) (fun S2 k2 o2 => ⟨rfl, _, i1.same o2, k2⟩))
theorem both_get {a0 a1 a2 : Int32} {S : zS} {L : zL} (h : zB S L) : zCi mX10_get S L [.ref 0, .int a0, .int a1, .int a2] (fun y S1 L1 => zCi mX11_get S1 L1 [.ref 72, .int a0, .int a1, .int a2] (fun y2 S2 L2 => y = y2 ∧ zB S2 L2)) := by
  obtain ⟨⟨t0, t1, g, c, ro, jo, fr, se, fo, le, it, la⟩, h1, h2⟩ := h
  exact get_c h1 (fun S1 L1 i1 o1 => get_m (h2.same o1) (fun S2 k2 o2 => ⟨rfl, _, i1.same o2, k2⟩))
theorem both_copy {a0 a1 a2 a3 a4 : Int32} {S : zS} {L : zL} (h : zB S L) : zCi mX10_copy S L [.ref 0, .int a0, .int a1, .int a2, .int a3, .int a4] (fun y S1 L1 => zCi mX11_copy S1 L1 [.ref 72, .int a0, .int a1, .int a2, .int a3, .int a4] (fun y2 S2 L2 => y = y2 ∧ zB S2 L2)) := by
  obtain ⟨⟨t0, t1, g, c, ro, jo, fr, se, fo, le, it, la⟩, h1, h2⟩ := h
  exact copy_c h1 (fun S1 L1 i1 o1 => copy_m (h2.same o1) (fun S2 k2 o2 => ⟨rfl, _, i1.same o2, k2⟩))
theorem both_write {a0 a1 : Int32} {S : zS} {L : zL} (h : zB S L) : zCi mX10_write S L [.ref 0, .int a0, .int a1] (fun y S1 L1 => zCi mX11_write S1 L1 [.ref 72, .int a0, .int a1] (fun y2 S2 L2 => y = y2 ∧ zB S2 L2)) := by
  obtain ⟨⟨t0, t1, g, c, ro, jo, fr, se, fo, le, it, la⟩, h1, h2⟩ := h
  exact write_c h1 (fun S1 L1 i1 o1 => write_m (h2.same o1) (fun S2 k2 o2 => ⟨rfl, _, i1.same o2, k2⟩))
theorem both_count {a0 : Int32} {S : zS} {L : zL} (h : zB S L) : zCi mX10_count S L [.ref 0, .int a0] (fun y S1 L1 => zCi mX11_count S1 L1 [.ref 72, .int a0] (fun y2 S2 L2 => y = y2 ∧ zB S2 L2)) := by
  obtain ⟨⟨t0, t1, g, c, ro, jo, fr, se, fo, le, it, la⟩, h1, h2⟩ := h
  exact count_q h1 (fun S1 L1 i1 o1 => count_m (h2.same o1) (fun S2 k2 o2 => ⟨rfl, _, i1.same o2, k2⟩))
theorem both_digest {S : zS} {L : zL} (h : zB S L) : zCl mX10_digest S L [.ref 0] (fun y S1 L1 => zCl mX11_digest S1 L1 [.ref 72] (fun y2 S2 L2 => y = y2 ∧ zB S2 L2)) := by
  obtain ⟨⟨t0, t1, g, c, ro, jo, fr, se, fo, le, it, la⟩, h1, h2⟩ := h
  exact digest_q h1 (fun S1 L1 i1 o1 => digest_m (h2.same o1) (fun S2 k2 o2 => ⟨rfl, _, i1.same o2, k2⟩))
section LAW
variable {X : Nat × (Nat → Int32)} {S : zS} {L : zL} {cn : Nat × Nat} {pc n : Nat} {st : List Value} {post : zP}
abbrev lvL (n : Nat) : List (Option Value) := [some (.ref 999), some (.ref 0), some (.ref 72), some (.int (nI n))]
theorem zl_arg {k : Nat} {ki : Int} (hk : Int32.ofInt ki = nI k) (d0 : decode code pc = .ok (.aload_n 0, 1)) (d1 : decode code (pc + 1) = .ok (.iload_n 3, 1)) (d2 : decode code (pc + 1 + 1) = .ok (.iconst ki, 1)) (d3 : decode code (pc + 1 + 1 + 1) = .ok (.iadd, 1)) (d4 : decode code (pc + 1 + 1 + 1 + 1) = .ok (.iaload, 1)) (hn : n + k < X.1) (hX : X.1 < 2000) (h : zV mL_law X SK S L cn (pc + 1 + 1 + 1 + 1 + 1) (lvL n) (.int (X.2 (n + k)) :: st) post) : zV mL_law X SK S L cn pc (lvL n) st post := by
  refine zi_aload_n d0 rfl rfl (zi_iload_n d1 rfl rfl (zi_iconst d2 hk (zi_iadd d3 ?_)))
  rw [nI_add]
  refine zi_sld rfl (vp_in_nI (by omega) (by omega)) d4 ?_
  rw [cl_nI (by omega)]
  exact h
theorem zl_i {N : zM} {idx a b ci : Nat} {fl : List (Option (Option Nat))} {As stk : List Value} {P : Int32 → zS → zL → Prop} (d : decode code pc = .ok (.invokevirtual idx, 3)) (hlk : zlV x.cls idx N a) (hb : SK[b]? = some (.inr (ci, fl))) (hci : (vwCl[ci]?).map (fun q => q.1) = some (zy N).cls) (hR : zrm mL_law N) (h0 : (zm N).cells = 0 ∧ (zm N).slots = 0) (hn9 : As.length = a) (hcn : cn.1 ≤ room_1.cells ∧ cn.2 ≤ room_1.slots) (hst : (st.map fun v => v.category).sum ≤ 8) (hok : st.all (zok 113) = true) (hs : As.reverse ++ .ref b :: st = stk) (hc : zCi N S L (.ref b :: As) P) (kk : ∀ y S' L', P y S' L' → zV mL_law X SK S' L' cn (pc + 3) (lvL n) (.int y :: st) post) : zV mL_law X SK S L cn pc (lvL n) stk post := by
  subst hs
  refine zi_callV (n9 := 113) d hlk hb hci hR hn9 (by rw [h0.1, h0.2]; exact hcn) hst ⟨Nat.le_refl _, rfl, hok⟩ hc (fun r sk' S' L' _ hp => ?_)
  obtain ⟨rfl, y, rfl, hp⟩ := hp
  rw [h0.1, h0.2]
  exact kk y S' L' hp
theorem zl_l {N : zM} {idx a b ci : Nat} {fl : List (Option (Option Nat))} {As stk : List Value} {P : Int64 → zS → zL → Prop} (d : decode code pc = .ok (.invokevirtual idx, 3)) (hlk : zlV x.cls idx N a) (hb : SK[b]? = some (.inr (ci, fl))) (hci : (vwCl[ci]?).map (fun q => q.1) = some (zy N).cls) (hR : zrm mL_law N) (h0 : (zm N).cells = 0 ∧ (zm N).slots = 0) (hn9 : As.length = a) (hcn : cn.1 ≤ room_1.cells ∧ cn.2 ≤ room_1.slots) (hst : (st.map fun v => v.category).sum ≤ 8) (hok : st.all (zok 113) = true) (hs : As.reverse ++ .ref b :: st = stk) (hc : zCl N S L (.ref b :: As) P) (kk : ∀ y S' L', P y S' L' → zV mL_law X SK S' L' cn (pc + 3) (lvL n) (.long y :: st) post) : zV mL_law X SK S L cn pc (lvL n) stk post := by
  subst hs
  refine zi_callV (n9 := 113) d hlk hb hci hR hn9 (by rw [h0.1, h0.2]; exact hcn) hst ⟨Nat.le_refl _, rfl, hok⟩ hc (fun r sk' S' L' _ hp => ?_)
  obtain ⟨rfl, y, rfl, hp⟩ := hp
  rw [h0.1, h0.2]
  exact kk y S' L' hp
end LAW
theorem law_0 {X : Nat × (Nat → Int32)} {S : zS} {L : zL} {cn : Nat × Nat} {n : Nat} {post : zP} (hX : X.1 ≤ 384) (hn : n + 6 ≤ X.1) (hcn : cn.1 ≤ room_1.cells ∧ cn.2 ≤ room_1.slots) (hB : zB S L) (K : ∀ S' L', zB S' L' → zV mL_law X SK S' L' cn 1406 (lvL n) [] post) : zV mL_law X SK S L cn 200 (lvL n) [] post := by
  refine zi_aload_n dL_law_200 rfl rfl ?_
  refine zl_arg (k := 1) (by decide) dL_law_201 dL_law_202 dL_law_203 dL_law_204 dL_law_205 (by omega) (by omega) ?_
  refine zl_arg (k := 2) (by decide) dL_law_206 dL_law_207 dL_law_208 dL_law_209 dL_law_210 (by omega) (by omega) ?_
  refine zl_i (st := []) (As := [.int (X.2 (n + 1)), .int (X.2 (n + 2))]) dL_law_211 lk_L_13 sk0 rfl ⟨Nat.le_of_ble_eq_true rfl, Nat.le_of_ble_eq_true rfl⟩ ⟨rfl, rfl⟩ rfl hcn (Nat.le_of_ble_eq_true rfl) rfl rfl (both_type hB) (fun y1 S1 L1 h1 => ?_)
  refine zi_aload_n dL_law_214 rfl rfl ?_
  refine zl_arg (k := 1) (by decide) dL_law_215 dL_law_216 dL_law_217 dL_law_218 dL_law_219 (by omega) (by omega) ?_
  refine zl_arg (k := 2) (by decide) dL_law_220 dL_law_221 dL_law_222 dL_law_223 dL_law_224 (by omega) (by omega) ?_
  refine zl_i (st := [.int y1]) (As := [.int (X.2 (n + 1)), .int (X.2 (n + 2))]) dL_law_225 lk_L_17 sk72 rfl ⟨Nat.le_of_ble_eq_true rfl, Nat.le_of_ble_eq_true rfl⟩ ⟨rfl, rfl⟩ rfl hcn (Nat.le_of_ble_eq_true rfl) rfl rfl h1 (fun y2 S2 L2 h2 => ?_)
  exact zi_icmp_eq (tgt := 1406) dL_law_228 (by decide) (fun _ => K S2 L2 h2.2) (fun z => absurd h2.1 z)
theorem law_1 {X : Nat × (Nat → Int32)} {S : zS} {L : zL} {cn : Nat × Nat} {n : Nat} {post : zP} (hX : X.1 ≤ 384) (hn : n + 6 ≤ X.1) (hcn : cn.1 ≤ room_1.cells ∧ cn.2 ≤ room_1.slots) (hB : zB S L) (K : ∀ S' L', zB S' L' → zV mL_law X SK S' L' cn 1406 (lvL n) [] post) : zV mL_law X SK S L cn 233 (lvL n) [] post := by
  refine zi_aload_n dL_law_233 rfl rfl ?_
  refine zl_arg (k := 1) (by decide) dL_law_234 dL_law_235 dL_law_236 dL_law_237 dL_law_238 (by omega) (by omega) ?_
  refine zl_i (st := []) (As := [.int (X.2 (n + 1))]) dL_law_239 lk_L_18 sk0 rfl ⟨Nat.le_of_ble_eq_true rfl, Nat.le_of_ble_eq_true rfl⟩ ⟨rfl, rfl⟩ rfl hcn (Nat.le_of_ble_eq_true rfl) rfl rfl (both_wipe hB) (fun y1 S1 L1 h1 => ?_)
  refine zi_aload_n dL_law_242 rfl rfl ?_
  refine zl_arg (k := 1) (by decide) dL_law_243 dL_law_244 dL_law_245 dL_law_246 dL_law_247 (by omega) (by omega) ?_
  refine zl_i (st := [.int y1]) (As := [.int (X.2 (n + 1))]) dL_law_248 lk_L_22 sk72 rfl ⟨Nat.le_of_ble_eq_true rfl, Nat.le_of_ble_eq_true rfl⟩ ⟨rfl, rfl⟩ rfl hcn (Nat.le_of_ble_eq_true rfl) rfl rfl h1 (fun y2 S2 L2 h2 => ?_)
  exact zi_icmp_eq (tgt := 1406) dL_law_251 (by decide) (fun _ => K S2 L2 h2.2) (fun z => absurd h2.1 z)
theorem law_2 {X : Nat × (Nat → Int32)} {S : zS} {L : zL} {cn : Nat × Nat} {n : Nat} {post : zP} (hX : X.1 ≤ 384) (hn : n + 6 ≤ X.1) (hcn : cn.1 ≤ room_1.cells ∧ cn.2 ≤ room_1.slots) (hB : zB S L) (K : ∀ S' L', zB S' L' → zV mL_law X SK S' L' cn 1406 (lvL n) [] post) : zV mL_law X SK S L cn 256 (lvL n) [] post := by
  refine zi_aload_n dL_law_256 rfl rfl ?_
  refine zl_arg (k := 1) (by decide) dL_law_257 dL_law_258 dL_law_259 dL_law_260 dL_law_261 (by omega) (by omega) ?_
  refine zl_i (st := []) (As := [.int (X.2 (n + 1))]) dL_law_262 lk_L_23 sk0 rfl ⟨Nat.le_of_ble_eq_true rfl, Nat.le_of_ble_eq_true rfl⟩ ⟨rfl, rfl⟩ rfl hcn (Nat.le_of_ble_eq_true rfl) rfl rfl (both_undo hB) (fun y1 S1 L1 h1 => ?_)
  refine zi_aload_n dL_law_265 rfl rfl ?_
  refine zl_arg (k := 1) (by decide) dL_law_266 dL_law_267 dL_law_268 dL_law_269 dL_law_270 (by omega) (by omega) ?_
  refine zl_i (st := [.int y1]) (As := [.int (X.2 (n + 1))]) dL_law_271 lk_L_26 sk72 rfl ⟨Nat.le_of_ble_eq_true rfl, Nat.le_of_ble_eq_true rfl⟩ ⟨rfl, rfl⟩ rfl hcn (Nat.le_of_ble_eq_true rfl) rfl rfl h1 (fun y2 S2 L2 h2 => ?_)
  exact zi_icmp_eq (tgt := 1406) dL_law_274 (by decide) (fun _ => K S2 L2 h2.2) (fun z => absurd h2.1 z)
theorem law_3 {X : Nat × (Nat → Int32)} {S : zS} {L : zL} {cn : Nat × Nat} {n : Nat} {post : zP} (hX : X.1 ≤ 384) (hn : n + 6 ≤ X.1) (hcn : cn.1 ≤ room_1.cells ∧ cn.2 ≤ room_1.slots) (hB : zB S L) (K : ∀ S' L', zB S' L' → zV mL_law X SK S' L' cn 1406 (lvL n) [] post) : zV mL_law X SK S L cn 279 (lvL n) [] post := by
  refine zi_aload_n dL_law_279 rfl rfl ?_
  refine zl_arg (k := 1) (by decide) dL_law_280 dL_law_281 dL_law_282 dL_law_283 dL_law_284 (by omega) (by omega) ?_
  refine zl_i (st := []) (As := [.int (X.2 (n + 1))]) dL_law_285 lk_L_27 sk0 rfl ⟨Nat.le_of_ble_eq_true rfl, Nat.le_of_ble_eq_true rfl⟩ ⟨rfl, rfl⟩ rfl hcn (Nat.le_of_ble_eq_true rfl) rfl rfl (both_fault hB) (fun y1 S1 L1 h1 => ?_)
  refine zi_aload_n dL_law_288 rfl rfl ?_
  refine zl_arg (k := 1) (by decide) dL_law_289 dL_law_290 dL_law_291 dL_law_292 dL_law_293 (by omega) (by omega) ?_
  refine zl_i (st := [.int y1]) (As := [.int (X.2 (n + 1))]) dL_law_294 lk_L_30 sk72 rfl ⟨Nat.le_of_ble_eq_true rfl, Nat.le_of_ble_eq_true rfl⟩ ⟨rfl, rfl⟩ rfl hcn (Nat.le_of_ble_eq_true rfl) rfl rfl h1 (fun y2 S2 L2 h2 => ?_)
  exact zi_icmp_eq (tgt := 1406) dL_law_297 (by decide) (fun _ => K S2 L2 h2.2) (fun z => absurd h2.1 z)
theorem law_4 {X : Nat × (Nat → Int32)} {S : zS} {L : zL} {cn : Nat × Nat} {n : Nat} {post : zP} (hX : X.1 ≤ 384) (hn : n + 6 ≤ X.1) (hcn : cn.1 ≤ room_1.cells ∧ cn.2 ≤ room_1.slots) (hB : zB S L) (K : ∀ S' L', zB S' L' → zV mL_law X SK S' L' cn 1406 (lvL n) [] post) : zV mL_law X SK S L cn 302 (lvL n) [] post := by
  refine zi_aload_n dL_law_302 rfl rfl ?_
  refine zl_arg (k := 1) (by decide) dL_law_303 dL_law_304 dL_law_305 dL_law_306 dL_law_307 (by omega) (by omega) ?_
  refine zl_arg (k := 2) (by decide) dL_law_308 dL_law_309 dL_law_310 dL_law_311 dL_law_312 (by omega) (by omega) ?_
  refine zl_i (st := []) (As := [.int (X.2 (n + 1)), .int (X.2 (n + 2))]) dL_law_313 lk_L_31 sk0 rfl ⟨Nat.le_of_ble_eq_true rfl, Nat.le_of_ble_eq_true rfl⟩ ⟨rfl, rfl⟩ rfl hcn (Nat.le_of_ble_eq_true rfl) rfl rfl (both_person hB) (fun y1 S1 L1 h1 => ?_)
  refine zi_aload_n dL_law_316 rfl rfl ?_
  refine zl_arg (k := 1) (by decide) dL_law_317 dL_law_318 dL_law_319 dL_law_320 dL_law_321 (by omega) (by omega) ?_
  refine zl_arg (k := 2) (by decide) dL_law_322 dL_law_323 dL_law_324 dL_law_325 dL_law_326 (by omega) (by omega) ?_
  refine zl_i (st := [.int y1]) (As := [.int (X.2 (n + 1)), .int (X.2 (n + 2))]) dL_law_327 lk_L_34 sk72 rfl ⟨Nat.le_of_ble_eq_true rfl, Nat.le_of_ble_eq_true rfl⟩ ⟨rfl, rfl⟩ rfl hcn (Nat.le_of_ble_eq_true rfl) rfl rfl h1 (fun y2 S2 L2 h2 => ?_)
  exact zi_icmp_eq (tgt := 1406) dL_law_330 (by decide) (fun _ => K S2 L2 h2.2) (fun z => absurd h2.1 z)
theorem law_5 {X : Nat × (Nat → Int32)} {S : zS} {L : zL} {cn : Nat × Nat} {n : Nat} {post : zP} (hX : X.1 ≤ 384) (hn : n + 6 ≤ X.1) (hcn : cn.1 ≤ room_1.cells ∧ cn.2 ≤ room_1.slots) (hB : zB S L) (K : ∀ S' L', zB S' L' → zV mL_law X SK S' L' cn 1406 (lvL n) [] post) : zV mL_law X SK S L cn 335 (lvL n) [] post := by
  refine zi_aload_n dL_law_335 rfl rfl ?_
  refine zl_arg (k := 1) (by decide) dL_law_336 dL_law_337 dL_law_338 dL_law_339 dL_law_340 (by omega) (by omega) ?_
  refine zl_arg (k := 2) (by decide) dL_law_341 dL_law_342 dL_law_343 dL_law_344 dL_law_345 (by omega) (by omega) ?_
  refine zl_i (st := []) (As := [.int (X.2 (n + 1)), .int (X.2 (n + 2))]) dL_law_346 lk_L_35 sk0 rfl ⟨Nat.le_of_ble_eq_true rfl, Nat.le_of_ble_eq_true rfl⟩ ⟨rfl, rfl⟩ rfl hcn (Nat.le_of_ble_eq_true rfl) rfl rfl (both_deed hB) (fun y1 S1 L1 h1 => ?_)
  refine zi_aload_n dL_law_349 rfl rfl ?_
  refine zl_arg (k := 1) (by decide) dL_law_350 dL_law_351 dL_law_352 dL_law_353 dL_law_354 (by omega) (by omega) ?_
  refine zl_arg (k := 2) (by decide) dL_law_355 dL_law_356 dL_law_357 dL_law_358 dL_law_359 (by omega) (by omega) ?_
  refine zl_i (st := [.int y1]) (As := [.int (X.2 (n + 1)), .int (X.2 (n + 2))]) dL_law_360 lk_L_38 sk72 rfl ⟨Nat.le_of_ble_eq_true rfl, Nat.le_of_ble_eq_true rfl⟩ ⟨rfl, rfl⟩ rfl hcn (Nat.le_of_ble_eq_true rfl) rfl rfl h1 (fun y2 S2 L2 h2 => ?_)
  exact zi_icmp_eq (tgt := 1406) dL_law_363 (by decide) (fun _ => K S2 L2 h2.2) (fun z => absurd h2.1 z)
theorem law_6 {X : Nat × (Nat → Int32)} {S : zS} {L : zL} {cn : Nat × Nat} {n : Nat} {post : zP} (hX : X.1 ≤ 384) (hn : n + 6 ≤ X.1) (hcn : cn.1 ≤ room_1.cells ∧ cn.2 ≤ room_1.slots) (hB : zB S L) (K : ∀ S' L', zB S' L' → zV mL_law X SK S' L' cn 1406 (lvL n) [] post) : zV mL_law X SK S L cn 368 (lvL n) [] post := by
  refine zi_aload_n dL_law_368 rfl rfl ?_
  refine zl_arg (k := 1) (by decide) dL_law_369 dL_law_370 dL_law_371 dL_law_372 dL_law_373 (by omega) (by omega) ?_
  refine zl_arg (k := 2) (by decide) dL_law_374 dL_law_375 dL_law_376 dL_law_377 dL_law_378 (by omega) (by omega) ?_
  refine zl_i (st := []) (As := [.int (X.2 (n + 1)), .int (X.2 (n + 2))]) dL_law_379 lk_L_39 sk0 rfl ⟨Nat.le_of_ble_eq_true rfl, Nat.le_of_ble_eq_true rfl⟩ ⟨rfl, rfl⟩ rfl hcn (Nat.le_of_ble_eq_true rfl) rfl rfl (both_set hB) (fun y1 S1 L1 h1 => ?_)
  refine zi_aload_n dL_law_382 rfl rfl ?_
  refine zl_arg (k := 1) (by decide) dL_law_383 dL_law_384 dL_law_385 dL_law_386 dL_law_387 (by omega) (by omega) ?_
  refine zl_arg (k := 2) (by decide) dL_law_388 dL_law_389 dL_law_390 dL_law_391 dL_law_392 (by omega) (by omega) ?_
  refine zl_i (st := [.int y1]) (As := [.int (X.2 (n + 1)), .int (X.2 (n + 2))]) dL_law_393 lk_L_42 sk72 rfl ⟨Nat.le_of_ble_eq_true rfl, Nat.le_of_ble_eq_true rfl⟩ ⟨rfl, rfl⟩ rfl hcn (Nat.le_of_ble_eq_true rfl) rfl rfl h1 (fun y2 S2 L2 h2 => ?_)
  exact zi_icmp_eq (tgt := 1406) dL_law_396 (by decide) (fun _ => K S2 L2 h2.2) (fun z => absurd h2.1 z)
theorem law_7 {X : Nat × (Nat → Int32)} {S : zS} {L : zL} {cn : Nat × Nat} {n : Nat} {post : zP} (hX : X.1 ≤ 384) (hn : n + 6 ≤ X.1) (hcn : cn.1 ≤ room_1.cells ∧ cn.2 ≤ room_1.slots) (hB : zB S L) (K : ∀ S' L', zB S' L' → zV mL_law X SK S' L' cn 1406 (lvL n) [] post) : zV mL_law X SK S L cn 401 (lvL n) [] post := by
  refine zi_aload_n dL_law_401 rfl rfl ?_
  refine zl_arg (k := 1) (by decide) dL_law_402 dL_law_403 dL_law_404 dL_law_405 dL_law_406 (by omega) (by omega) ?_
  refine zl_arg (k := 2) (by decide) dL_law_407 dL_law_408 dL_law_409 dL_law_410 dL_law_411 (by omega) (by omega) ?_
  refine zl_arg (k := 3) (by decide) dL_law_412 dL_law_413 dL_law_414 dL_law_415 dL_law_416 (by omega) (by omega) ?_
  refine zl_i (st := []) (As := [.int (X.2 (n + 1)), .int (X.2 (n + 2)), .int (X.2 (n + 3))]) dL_law_417 lk_L_43 sk0 rfl ⟨Nat.le_of_ble_eq_true rfl, Nat.le_of_ble_eq_true rfl⟩ ⟨rfl, rfl⟩ rfl hcn (Nat.le_of_ble_eq_true rfl) rfl rfl (both_round hB) (fun y1 S1 L1 h1 => ?_)
  refine zi_aload_n dL_law_420 rfl rfl ?_
  refine zl_arg (k := 1) (by decide) dL_law_421 dL_law_422 dL_law_423 dL_law_424 dL_law_425 (by omega) (by omega) ?_
  refine zl_arg (k := 2) (by decide) dL_law_426 dL_law_427 dL_law_428 dL_law_429 dL_law_430 (by omega) (by omega) ?_
  refine zl_arg (k := 3) (by decide) dL_law_431 dL_law_432 dL_law_433 dL_law_434 dL_law_435 (by omega) (by omega) ?_
  refine zl_i (st := [.int y1]) (As := [.int (X.2 (n + 1)), .int (X.2 (n + 2)), .int (X.2 (n + 3))]) dL_law_436 lk_L_47 sk72 rfl ⟨Nat.le_of_ble_eq_true rfl, Nat.le_of_ble_eq_true rfl⟩ ⟨rfl, rfl⟩ rfl hcn (Nat.le_of_ble_eq_true rfl) rfl rfl h1 (fun y2 S2 L2 h2 => ?_)
  exact zi_icmp_eq (tgt := 1406) dL_law_439 (by decide) (fun _ => K S2 L2 h2.2) (fun z => absurd h2.1 z)
theorem law_8 {X : Nat × (Nat → Int32)} {S : zS} {L : zL} {cn : Nat × Nat} {n : Nat} {post : zP} (hX : X.1 ≤ 384) (hn : n + 6 ≤ X.1) (hcn : cn.1 ≤ room_1.cells ∧ cn.2 ≤ room_1.slots) (hB : zB S L) (K : ∀ S' L', zB S' L' → zV mL_law X SK S' L' cn 1406 (lvL n) [] post) : zV mL_law X SK S L cn 444 (lvL n) [] post := by
  refine zi_aload_n dL_law_444 rfl rfl ?_
  refine zl_arg (k := 1) (by decide) dL_law_445 dL_law_446 dL_law_447 dL_law_448 dL_law_449 (by omega) (by omega) ?_
  refine zl_arg (k := 2) (by decide) dL_law_450 dL_law_451 dL_law_452 dL_law_453 dL_law_454 (by omega) (by omega) ?_
  refine zl_arg (k := 3) (by decide) dL_law_455 dL_law_456 dL_law_457 dL_law_458 dL_law_459 (by omega) (by omega) ?_
  refine zl_i (st := []) (As := [.int (X.2 (n + 1)), .int (X.2 (n + 2)), .int (X.2 (n + 3))]) dL_law_460 lk_L_48 sk0 rfl ⟨Nat.le_of_ble_eq_true rfl, Nat.le_of_ble_eq_true rfl⟩ ⟨rfl, rfl⟩ rfl hcn (Nat.le_of_ble_eq_true rfl) rfl rfl (both_journey hB) (fun y1 S1 L1 h1 => ?_)
  refine zi_aload_n dL_law_463 rfl rfl ?_
  refine zl_arg (k := 1) (by decide) dL_law_464 dL_law_465 dL_law_466 dL_law_467 dL_law_468 (by omega) (by omega) ?_
  refine zl_arg (k := 2) (by decide) dL_law_469 dL_law_470 dL_law_471 dL_law_472 dL_law_473 (by omega) (by omega) ?_
  refine zl_arg (k := 3) (by decide) dL_law_474 dL_law_475 dL_law_476 dL_law_477 dL_law_478 (by omega) (by omega) ?_
  refine zl_i (st := [.int y1]) (As := [.int (X.2 (n + 1)), .int (X.2 (n + 2)), .int (X.2 (n + 3))]) dL_law_479 lk_L_51 sk72 rfl ⟨Nat.le_of_ble_eq_true rfl, Nat.le_of_ble_eq_true rfl⟩ ⟨rfl, rfl⟩ rfl hcn (Nat.le_of_ble_eq_true rfl) rfl rfl h1 (fun y2 S2 L2 h2 => ?_)
  exact zi_icmp_eq (tgt := 1406) dL_law_482 (by decide) (fun _ => K S2 L2 h2.2) (fun z => absurd h2.1 z)
theorem law_9 {X : Nat × (Nat → Int32)} {S : zS} {L : zL} {cn : Nat × Nat} {n : Nat} {post : zP} (hX : X.1 ≤ 384) (hn : n + 6 ≤ X.1) (hcn : cn.1 ≤ room_1.cells ∧ cn.2 ≤ room_1.slots) (hB : zB S L) (K : ∀ S' L', zB S' L' → zV mL_law X SK S' L' cn 1406 (lvL n) [] post) : zV mL_law X SK S L cn 487 (lvL n) [] post := by
  refine zi_aload_n dL_law_487 rfl rfl ?_
  refine zl_arg (k := 1) (by decide) dL_law_488 dL_law_489 dL_law_490 dL_law_491 dL_law_492 (by omega) (by omega) ?_
  refine zl_i (st := []) (As := [.int (X.2 (n + 1))]) dL_law_493 lk_L_52 sk0 rfl ⟨Nat.le_of_ble_eq_true rfl, Nat.le_of_ble_eq_true rfl⟩ ⟨rfl, rfl⟩ rfl hcn (Nat.le_of_ble_eq_true rfl) rfl rfl (both_frost hB) (fun y1 S1 L1 h1 => ?_)
  refine zi_aload_n dL_law_496 rfl rfl ?_
  refine zl_arg (k := 1) (by decide) dL_law_497 dL_law_498 dL_law_499 dL_law_500 dL_law_501 (by omega) (by omega) ?_
  refine zl_i (st := [.int y1]) (As := [.int (X.2 (n + 1))]) dL_law_502 lk_L_55 sk72 rfl ⟨Nat.le_of_ble_eq_true rfl, Nat.le_of_ble_eq_true rfl⟩ ⟨rfl, rfl⟩ rfl hcn (Nat.le_of_ble_eq_true rfl) rfl rfl h1 (fun y2 S2 L2 h2 => ?_)
  exact zi_icmp_eq (tgt := 1406) dL_law_505 (by decide) (fun _ => K S2 L2 h2.2) (fun z => absurd h2.1 z)
theorem law_10 {X : Nat × (Nat → Int32)} {S : zS} {L : zL} {cn : Nat × Nat} {n : Nat} {post : zP} (hX : X.1 ≤ 384) (hn : n + 6 ≤ X.1) (hcn : cn.1 ≤ room_1.cells ∧ cn.2 ≤ room_1.slots) (hB : zB S L) (K : ∀ S' L', zB S' L' → zV mL_law X SK S' L' cn 1406 (lvL n) [] post) : zV mL_law X SK S L cn 510 (lvL n) [] post := by
  refine zi_aload_n dL_law_510 rfl rfl ?_
  refine zl_arg (k := 1) (by decide) dL_law_511 dL_law_512 dL_law_513 dL_law_514 dL_law_515 (by omega) (by omega) ?_
  refine zl_i (st := []) (As := [.int (X.2 (n + 1))]) dL_law_516 lk_L_56 sk0 rfl ⟨Nat.le_of_ble_eq_true rfl, Nat.le_of_ble_eq_true rfl⟩ ⟨rfl, rfl⟩ rfl hcn (Nat.le_of_ble_eq_true rfl) rfl rfl (both_back hB) (fun y1 S1 L1 h1 => ?_)
  refine zi_aload_n dL_law_519 rfl rfl ?_
  refine zl_arg (k := 1) (by decide) dL_law_520 dL_law_521 dL_law_522 dL_law_523 dL_law_524 (by omega) (by omega) ?_
  refine zl_i (st := [.int y1]) (As := [.int (X.2 (n + 1))]) dL_law_525 lk_L_59 sk72 rfl ⟨Nat.le_of_ble_eq_true rfl, Nat.le_of_ble_eq_true rfl⟩ ⟨rfl, rfl⟩ rfl hcn (Nat.le_of_ble_eq_true rfl) rfl rfl h1 (fun y2 S2 L2 h2 => ?_)
  exact zi_icmp_eq (tgt := 1406) dL_law_528 (by decide) (fun _ => K S2 L2 h2.2) (fun z => absurd h2.1 z)
theorem law_11 {X : Nat × (Nat → Int32)} {S : zS} {L : zL} {cn : Nat × Nat} {n : Nat} {post : zP} (hX : X.1 ≤ 384) (hn : n + 6 ≤ X.1) (hcn : cn.1 ≤ room_1.cells ∧ cn.2 ≤ room_1.slots) (hB : zB S L) (K : ∀ S' L', zB S' L' → zV mL_law X SK S' L' cn 1406 (lvL n) [] post) : zV mL_law X SK S L cn 533 (lvL n) [] post := by
  refine zi_aload_n dL_law_533 rfl rfl ?_
  refine zl_arg (k := 1) (by decide) dL_law_534 dL_law_535 dL_law_536 dL_law_537 dL_law_538 (by omega) (by omega) ?_
  refine zl_i (st := []) (As := [.int (X.2 (n + 1))]) dL_law_539 lk_L_60 sk0 rfl ⟨Nat.le_of_ble_eq_true rfl, Nat.le_of_ble_eq_true rfl⟩ ⟨rfl, rfl⟩ rfl hcn (Nat.le_of_ble_eq_true rfl) rfl rfl (both_read hB) (fun y1 S1 L1 h1 => ?_)
  refine zi_aload_n dL_law_542 rfl rfl ?_
  refine zl_arg (k := 1) (by decide) dL_law_543 dL_law_544 dL_law_545 dL_law_546 dL_law_547 (by omega) (by omega) ?_
  refine zl_i (st := [.int y1]) (As := [.int (X.2 (n + 1))]) dL_law_548 lk_L_63 sk72 rfl ⟨Nat.le_of_ble_eq_true rfl, Nat.le_of_ble_eq_true rfl⟩ ⟨rfl, rfl⟩ rfl hcn (Nat.le_of_ble_eq_true rfl) rfl rfl h1 (fun y2 S2 L2 h2 => ?_)
  exact zi_icmp_eq (tgt := 1406) dL_law_551 (by decide) (fun _ => K S2 L2 h2.2) (fun z => absurd h2.1 z)
theorem law_12 {X : Nat × (Nat → Int32)} {S : zS} {L : zL} {cn : Nat × Nat} {n : Nat} {post : zP} (hX : X.1 ≤ 384) (hn : n + 6 ≤ X.1) (hcn : cn.1 ≤ room_1.cells ∧ cn.2 ≤ room_1.slots) (hB : zB S L) (K : ∀ S' L', zB S' L' → zV mL_law X SK S' L' cn 1406 (lvL n) [] post) : zV mL_law X SK S L cn 556 (lvL n) [] post := by
  refine zi_aload_n dL_law_556 rfl rfl ?_
  refine zl_arg (k := 1) (by decide) dL_law_557 dL_law_558 dL_law_559 dL_law_560 dL_law_561 (by omega) (by omega) ?_
  refine zl_arg (k := 2) (by decide) dL_law_562 dL_law_563 dL_law_564 dL_law_565 dL_law_566 (by omega) (by omega) ?_
  refine zl_arg (k := 3) (by decide) dL_law_567 dL_law_568 dL_law_569 dL_law_570 dL_law_571 (by omega) (by omega) ?_
  refine zl_i (st := []) (As := [.int (X.2 (n + 1)), .int (X.2 (n + 2)), .int (X.2 (n + 3))]) dL_law_572 lk_L_64 sk0 rfl ⟨Nat.le_of_ble_eq_true rfl, Nat.le_of_ble_eq_true rfl⟩ ⟨rfl, rfl⟩ rfl hcn (Nat.le_of_ble_eq_true rfl) rfl rfl (both_wool hB) (fun y1 S1 L1 h1 => ?_)
  refine zi_aload_n dL_law_575 rfl rfl ?_
  refine zl_arg (k := 1) (by decide) dL_law_576 dL_law_577 dL_law_578 dL_law_579 dL_law_580 (by omega) (by omega) ?_
  refine zl_arg (k := 2) (by decide) dL_law_581 dL_law_582 dL_law_583 dL_law_584 dL_law_585 (by omega) (by omega) ?_
  refine zl_arg (k := 3) (by decide) dL_law_586 dL_law_587 dL_law_588 dL_law_589 dL_law_590 (by omega) (by omega) ?_
  refine zl_i (st := [.int y1]) (As := [.int (X.2 (n + 1)), .int (X.2 (n + 2)), .int (X.2 (n + 3))]) dL_law_591 lk_L_67 sk72 rfl ⟨Nat.le_of_ble_eq_true rfl, Nat.le_of_ble_eq_true rfl⟩ ⟨rfl, rfl⟩ rfl hcn (Nat.le_of_ble_eq_true rfl) rfl rfl h1 (fun y2 S2 L2 h2 => ?_)
  exact zi_icmp_eq (tgt := 1406) dL_law_594 (by decide) (fun _ => K S2 L2 h2.2) (fun z => absurd h2.1 z)
theorem law_13 {X : Nat × (Nat → Int32)} {S : zS} {L : zL} {cn : Nat × Nat} {n : Nat} {post : zP} (hX : X.1 ≤ 384) (hn : n + 6 ≤ X.1) (hcn : cn.1 ≤ room_1.cells ∧ cn.2 ≤ room_1.slots) (hB : zB S L) (K : ∀ S' L', zB S' L' → zV mL_law X SK S' L' cn 1406 (lvL n) [] post) : zV mL_law X SK S L cn 599 (lvL n) [] post := by
  refine zi_aload_n dL_law_599 rfl rfl ?_
  refine zl_arg (k := 1) (by decide) dL_law_600 dL_law_601 dL_law_602 dL_law_603 dL_law_604 (by omega) (by omega) ?_
  refine zl_i (st := []) (As := [.int (X.2 (n + 1))]) dL_law_605 lk_L_68 sk0 rfl ⟨Nat.le_of_ble_eq_true rfl, Nat.le_of_ble_eq_true rfl⟩ ⟨rfl, rfl⟩ rfl hcn (Nat.le_of_ble_eq_true rfl) rfl rfl (both_dies hB) (fun y1 S1 L1 h1 => ?_)
  refine zi_aload_n dL_law_608 rfl rfl ?_
  refine zl_arg (k := 1) (by decide) dL_law_609 dL_law_610 dL_law_611 dL_law_612 dL_law_613 (by omega) (by omega) ?_
  refine zl_i (st := [.int y1]) (As := [.int (X.2 (n + 1))]) dL_law_614 lk_L_71 sk72 rfl ⟨Nat.le_of_ble_eq_true rfl, Nat.le_of_ble_eq_true rfl⟩ ⟨rfl, rfl⟩ rfl hcn (Nat.le_of_ble_eq_true rfl) rfl rfl h1 (fun y2 S2 L2 h2 => ?_)
  exact zi_icmp_eq (tgt := 1406) dL_law_617 (by decide) (fun _ => K S2 L2 h2.2) (fun z => absurd h2.1 z)
theorem law_14 {X : Nat × (Nat → Int32)} {S : zS} {L : zL} {cn : Nat × Nat} {n : Nat} {post : zP} (hX : X.1 ≤ 384) (hn : n + 6 ≤ X.1) (hcn : cn.1 ≤ room_1.cells ∧ cn.2 ≤ room_1.slots) (hB : zB S L) (K : ∀ S' L', zB S' L' → zV mL_law X SK S' L' cn 1406 (lvL n) [] post) : zV mL_law X SK S L cn 622 (lvL n) [] post := by
  refine zi_aload_n dL_law_622 rfl rfl ?_
  refine zl_arg (k := 1) (by decide) dL_law_623 dL_law_624 dL_law_625 dL_law_626 dL_law_627 (by omega) (by omega) ?_
  refine zl_arg (k := 2) (by decide) dL_law_628 dL_law_629 dL_law_630 dL_law_631 dL_law_632 (by omega) (by omega) ?_
  refine zl_arg (k := 3) (by decide) dL_law_633 dL_law_634 dL_law_635 dL_law_636 dL_law_637 (by omega) (by omega) ?_
  refine zl_i (st := []) (As := [.int (X.2 (n + 1)), .int (X.2 (n + 2)), .int (X.2 (n + 3))]) dL_law_638 lk_L_72 sk0 rfl ⟨Nat.le_of_ble_eq_true rfl, Nat.le_of_ble_eq_true rfl⟩ ⟨rfl, rfl⟩ rfl hcn (Nat.le_of_ble_eq_true rfl) rfl rfl (both_cloth hB) (fun y1 S1 L1 h1 => ?_)
  refine zi_aload_n dL_law_641 rfl rfl ?_
  refine zl_arg (k := 1) (by decide) dL_law_642 dL_law_643 dL_law_644 dL_law_645 dL_law_646 (by omega) (by omega) ?_
  refine zl_arg (k := 2) (by decide) dL_law_647 dL_law_648 dL_law_649 dL_law_650 dL_law_651 (by omega) (by omega) ?_
  refine zl_arg (k := 3) (by decide) dL_law_652 dL_law_653 dL_law_654 dL_law_655 dL_law_656 (by omega) (by omega) ?_
  refine zl_i (st := [.int y1]) (As := [.int (X.2 (n + 1)), .int (X.2 (n + 2)), .int (X.2 (n + 3))]) dL_law_657 lk_L_75 sk72 rfl ⟨Nat.le_of_ble_eq_true rfl, Nat.le_of_ble_eq_true rfl⟩ ⟨rfl, rfl⟩ rfl hcn (Nat.le_of_ble_eq_true rfl) rfl rfl h1 (fun y2 S2 L2 h2 => ?_)
  exact zi_icmp_eq (tgt := 1406) dL_law_660 (by decide) (fun _ => K S2 L2 h2.2) (fun z => absurd h2.1 z)
theorem law_15 {X : Nat × (Nat → Int32)} {S : zS} {L : zL} {cn : Nat × Nat} {n : Nat} {post : zP} (hX : X.1 ≤ 384) (hn : n + 6 ≤ X.1) (hcn : cn.1 ≤ room_1.cells ∧ cn.2 ≤ room_1.slots) (hB : zB S L) (K : ∀ S' L', zB S' L' → zV mL_law X SK S' L' cn 1406 (lvL n) [] post) : zV mL_law X SK S L cn 665 (lvL n) [] post := by
  refine zi_aload_n dL_law_665 rfl rfl ?_
  refine zl_arg (k := 1) (by decide) dL_law_666 dL_law_667 dL_law_668 dL_law_669 dL_law_670 (by omega) (by omega) ?_
  refine zl_i (st := []) (As := [.int (X.2 (n + 1))]) dL_law_671 lk_L_76 sk0 rfl ⟨Nat.le_of_ble_eq_true rfl, Nat.le_of_ble_eq_true rfl⟩ ⟨rfl, rfl⟩ rfl hcn (Nat.le_of_ble_eq_true rfl) rfl rfl (both_thorn hB) (fun y1 S1 L1 h1 => ?_)
  refine zi_aload_n dL_law_674 rfl rfl ?_
  refine zl_arg (k := 1) (by decide) dL_law_675 dL_law_676 dL_law_677 dL_law_678 dL_law_679 (by omega) (by omega) ?_
  refine zl_i (st := [.int y1]) (As := [.int (X.2 (n + 1))]) dL_law_680 lk_L_79 sk72 rfl ⟨Nat.le_of_ble_eq_true rfl, Nat.le_of_ble_eq_true rfl⟩ ⟨rfl, rfl⟩ rfl hcn (Nat.le_of_ble_eq_true rfl) rfl rfl h1 (fun y2 S2 L2 h2 => ?_)
  exact zi_icmp_eq (tgt := 1406) dL_law_683 (by decide) (fun _ => K S2 L2 h2.2) (fun z => absurd h2.1 z)
theorem law_16 {X : Nat × (Nat → Int32)} {S : zS} {L : zL} {cn : Nat × Nat} {n : Nat} {post : zP} (hX : X.1 ≤ 384) (hn : n + 6 ≤ X.1) (hcn : cn.1 ≤ room_1.cells ∧ cn.2 ≤ room_1.slots) (hB : zB S L) (K : ∀ S' L', zB S' L' → zV mL_law X SK S' L' cn 1406 (lvL n) [] post) : zV mL_law X SK S L cn 688 (lvL n) [] post := by
  refine zi_aload_n dL_law_688 rfl rfl ?_
  refine zl_arg (k := 1) (by decide) dL_law_689 dL_law_690 dL_law_691 dL_law_692 dL_law_693 (by omega) (by omega) ?_
  refine zl_i (st := []) (As := [.int (X.2 (n + 1))]) dL_law_694 lk_L_80 sk0 rfl ⟨Nat.le_of_ble_eq_true rfl, Nat.le_of_ble_eq_true rfl⟩ ⟨rfl, rfl⟩ rfl hcn (Nat.le_of_ble_eq_true rfl) rfl rfl (both_tax hB) (fun y1 S1 L1 h1 => ?_)
  refine zi_aload_n dL_law_697 rfl rfl ?_
  refine zl_arg (k := 1) (by decide) dL_law_698 dL_law_699 dL_law_700 dL_law_701 dL_law_702 (by omega) (by omega) ?_
  refine zl_i (st := [.int y1]) (As := [.int (X.2 (n + 1))]) dL_law_703 lk_L_83 sk72 rfl ⟨Nat.le_of_ble_eq_true rfl, Nat.le_of_ble_eq_true rfl⟩ ⟨rfl, rfl⟩ rfl hcn (Nat.le_of_ble_eq_true rfl) rfl rfl h1 (fun y2 S2 L2 h2 => ?_)
  exact zi_icmp_eq (tgt := 1406) dL_law_706 (by decide) (fun _ => K S2 L2 h2.2) (fun z => absurd h2.1 z)
theorem law_17 {X : Nat × (Nat → Int32)} {S : zS} {L : zL} {cn : Nat × Nat} {n : Nat} {post : zP} (hX : X.1 ≤ 384) (hn : n + 6 ≤ X.1) (hcn : cn.1 ≤ room_1.cells ∧ cn.2 ≤ room_1.slots) (hB : zB S L) (K : ∀ S' L', zB S' L' → zV mL_law X SK S' L' cn 1406 (lvL n) [] post) : zV mL_law X SK S L cn 711 (lvL n) [] post := by
  refine zi_aload_n dL_law_711 rfl rfl ?_
  refine zl_arg (k := 1) (by decide) dL_law_712 dL_law_713 dL_law_714 dL_law_715 dL_law_716 (by omega) (by omega) ?_
  refine zl_i (st := []) (As := [.int (X.2 (n + 1))]) dL_law_717 lk_L_84 sk0 rfl ⟨Nat.le_of_ble_eq_true rfl, Nat.le_of_ble_eq_true rfl⟩ ⟨rfl, rfl⟩ rfl hcn (Nat.le_of_ble_eq_true rfl) rfl rfl (both_heaviest hB) (fun y1 S1 L1 h1 => ?_)
  refine zi_aload_n dL_law_720 rfl rfl ?_
  refine zl_arg (k := 1) (by decide) dL_law_721 dL_law_722 dL_law_723 dL_law_724 dL_law_725 (by omega) (by omega) ?_
  refine zl_i (st := [.int y1]) (As := [.int (X.2 (n + 1))]) dL_law_726 lk_L_87 sk72 rfl ⟨Nat.le_of_ble_eq_true rfl, Nat.le_of_ble_eq_true rfl⟩ ⟨rfl, rfl⟩ rfl hcn (Nat.le_of_ble_eq_true rfl) rfl rfl h1 (fun y2 S2 L2 h2 => ?_)
  exact zi_icmp_eq (tgt := 1406) dL_law_729 (by decide) (fun _ => K S2 L2 h2.2) (fun z => absurd h2.1 z)
theorem law_18 {X : Nat × (Nat → Int32)} {S : zS} {L : zL} {cn : Nat × Nat} {n : Nat} {post : zP} (hX : X.1 ≤ 384) (hn : n + 6 ≤ X.1) (hcn : cn.1 ≤ room_1.cells ∧ cn.2 ≤ room_1.slots) (hB : zB S L) (K : ∀ S' L', zB S' L' → zV mL_law X SK S' L' cn 1406 (lvL n) [] post) : zV mL_law X SK S L cn 734 (lvL n) [] post := by
  refine zi_aload_n dL_law_734 rfl rfl ?_
  refine zl_arg (k := 1) (by decide) dL_law_735 dL_law_736 dL_law_737 dL_law_738 dL_law_739 (by omega) (by omega) ?_
  refine zl_i (st := []) (As := [.int (X.2 (n + 1))]) dL_law_740 lk_L_88 sk0 rfl ⟨Nat.le_of_ble_eq_true rfl, Nat.le_of_ble_eq_true rfl⟩ ⟨rfl, rfl⟩ rfl hcn (Nat.le_of_ble_eq_true rfl) rfl rfl (both_first hB) (fun y1 S1 L1 h1 => ?_)
  refine zi_aload_n dL_law_743 rfl rfl ?_
  refine zl_arg (k := 1) (by decide) dL_law_744 dL_law_745 dL_law_746 dL_law_747 dL_law_748 (by omega) (by omega) ?_
  refine zl_i (st := [.int y1]) (As := [.int (X.2 (n + 1))]) dL_law_749 lk_L_91 sk72 rfl ⟨Nat.le_of_ble_eq_true rfl, Nat.le_of_ble_eq_true rfl⟩ ⟨rfl, rfl⟩ rfl hcn (Nat.le_of_ble_eq_true rfl) rfl rfl h1 (fun y2 S2 L2 h2 => ?_)
  exact zi_icmp_eq (tgt := 1406) dL_law_752 (by decide) (fun _ => K S2 L2 h2.2) (fun z => absurd h2.1 z)
theorem law_19 {X : Nat × (Nat → Int32)} {S : zS} {L : zL} {cn : Nat × Nat} {n : Nat} {post : zP} (hX : X.1 ≤ 384) (hn : n + 6 ≤ X.1) (hcn : cn.1 ≤ room_1.cells ∧ cn.2 ≤ room_1.slots) (hB : zB S L) (K : ∀ S' L', zB S' L' → zV mL_law X SK S' L' cn 1406 (lvL n) [] post) : zV mL_law X SK S L cn 757 (lvL n) [] post := by
  refine zi_aload_n dL_law_757 rfl rfl ?_
  refine zl_arg (k := 1) (by decide) dL_law_758 dL_law_759 dL_law_760 dL_law_761 dL_law_762 (by omega) (by omega) ?_
  refine zl_arg (k := 2) (by decide) dL_law_763 dL_law_764 dL_law_765 dL_law_766 dL_law_767 (by omega) (by omega) ?_
  refine zl_i (st := []) (As := [.int (X.2 (n + 1)), .int (X.2 (n + 2))]) dL_law_768 lk_L_92 sk0 rfl ⟨Nat.le_of_ble_eq_true rfl, Nat.le_of_ble_eq_true rfl⟩ ⟨rfl, rfl⟩ rfl hcn (Nat.le_of_ble_eq_true rfl) rfl rfl (both_plan hB) (fun y1 S1 L1 h1 => ?_)
  refine zi_aload_n dL_law_771 rfl rfl ?_
  refine zl_arg (k := 1) (by decide) dL_law_772 dL_law_773 dL_law_774 dL_law_775 dL_law_776 (by omega) (by omega) ?_
  refine zl_arg (k := 2) (by decide) dL_law_777 dL_law_778 dL_law_779 dL_law_780 dL_law_781 (by omega) (by omega) ?_
  refine zl_i (st := [.int y1]) (As := [.int (X.2 (n + 1)), .int (X.2 (n + 2))]) dL_law_782 lk_L_95 sk72 rfl ⟨Nat.le_of_ble_eq_true rfl, Nat.le_of_ble_eq_true rfl⟩ ⟨rfl, rfl⟩ rfl hcn (Nat.le_of_ble_eq_true rfl) rfl rfl h1 (fun y2 S2 L2 h2 => ?_)
  exact zi_icmp_eq (tgt := 1406) dL_law_785 (by decide) (fun _ => K S2 L2 h2.2) (fun z => absurd h2.1 z)
theorem law_20 {X : Nat × (Nat → Int32)} {S : zS} {L : zL} {cn : Nat × Nat} {n : Nat} {post : zP} (hX : X.1 ≤ 384) (hn : n + 6 ≤ X.1) (hcn : cn.1 ≤ room_1.cells ∧ cn.2 ≤ room_1.slots) (hB : zB S L) (K : ∀ S' L', zB S' L' → zV mL_law X SK S' L' cn 1406 (lvL n) [] post) : zV mL_law X SK S L cn 790 (lvL n) [] post := by
  refine zi_aload_n dL_law_790 rfl rfl ?_
  refine zl_arg (k := 1) (by decide) dL_law_791 dL_law_792 dL_law_793 dL_law_794 dL_law_795 (by omega) (by omega) ?_
  refine zl_arg (k := 2) (by decide) dL_law_796 dL_law_797 dL_law_798 dL_law_799 dL_law_800 (by omega) (by omega) ?_
  refine zl_arg (k := 3) (by decide) dL_law_801 dL_law_802 dL_law_803 dL_law_804 dL_law_805 (by omega) (by omega) ?_
  refine zl_i (st := []) (As := [.int (X.2 (n + 1)), .int (X.2 (n + 2)), .int (X.2 (n + 3))]) dL_law_806 lk_L_96 sk0 rfl ⟨Nat.le_of_ble_eq_true rfl, Nat.le_of_ble_eq_true rfl⟩ ⟨rfl, rfl⟩ rfl hcn (Nat.le_of_ble_eq_true rfl) rfl rfl (both_light hB) (fun y1 S1 L1 h1 => ?_)
  refine zi_aload_n dL_law_809 rfl rfl ?_
  refine zl_arg (k := 1) (by decide) dL_law_810 dL_law_811 dL_law_812 dL_law_813 dL_law_814 (by omega) (by omega) ?_
  refine zl_arg (k := 2) (by decide) dL_law_815 dL_law_816 dL_law_817 dL_law_818 dL_law_819 (by omega) (by omega) ?_
  refine zl_arg (k := 3) (by decide) dL_law_820 dL_law_821 dL_law_822 dL_law_823 dL_law_824 (by omega) (by omega) ?_
  refine zl_i (st := [.int y1]) (As := [.int (X.2 (n + 1)), .int (X.2 (n + 2)), .int (X.2 (n + 3))]) dL_law_825 lk_L_99 sk72 rfl ⟨Nat.le_of_ble_eq_true rfl, Nat.le_of_ble_eq_true rfl⟩ ⟨rfl, rfl⟩ rfl hcn (Nat.le_of_ble_eq_true rfl) rfl rfl h1 (fun y2 S2 L2 h2 => ?_)
  exact zi_icmp_eq (tgt := 1406) dL_law_828 (by decide) (fun _ => K S2 L2 h2.2) (fun z => absurd h2.1 z)
theorem law_21 {X : Nat × (Nat → Int32)} {S : zS} {L : zL} {cn : Nat × Nat} {n : Nat} {post : zP} (hX : X.1 ≤ 384) (hn : n + 6 ≤ X.1) (hcn : cn.1 ≤ room_1.cells ∧ cn.2 ≤ room_1.slots) (hB : zB S L) (K : ∀ S' L', zB S' L' → zV mL_law X SK S' L' cn 1406 (lvL n) [] post) : zV mL_law X SK S L cn 833 (lvL n) [] post := by
  refine zi_aload_n dL_law_833 rfl rfl ?_
  refine zl_arg (k := 1) (by decide) dL_law_834 dL_law_835 dL_law_836 dL_law_837 dL_law_838 (by omega) (by omega) ?_
  refine zl_i (st := []) (As := [.int (X.2 (n + 1))]) dL_law_839 lk_L_100 sk0 rfl ⟨Nat.le_of_ble_eq_true rfl, Nat.le_of_ble_eq_true rfl⟩ ⟨rfl, rfl⟩ rfl hcn (Nat.le_of_ble_eq_true rfl) rfl rfl (both_spare hB) (fun y1 S1 L1 h1 => ?_)
  refine zi_aload_n dL_law_842 rfl rfl ?_
  refine zl_arg (k := 1) (by decide) dL_law_843 dL_law_844 dL_law_845 dL_law_846 dL_law_847 (by omega) (by omega) ?_
  refine zl_i (st := [.int y1]) (As := [.int (X.2 (n + 1))]) dL_law_848 lk_L_103 sk72 rfl ⟨Nat.le_of_ble_eq_true rfl, Nat.le_of_ble_eq_true rfl⟩ ⟨rfl, rfl⟩ rfl hcn (Nat.le_of_ble_eq_true rfl) rfl rfl h1 (fun y2 S2 L2 h2 => ?_)
  exact zi_icmp_eq (tgt := 1406) dL_law_851 (by decide) (fun _ => K S2 L2 h2.2) (fun z => absurd h2.1 z)
theorem law_22 {X : Nat × (Nat → Int32)} {S : zS} {L : zL} {cn : Nat × Nat} {n : Nat} {post : zP} (hX : X.1 ≤ 384) (hn : n + 6 ≤ X.1) (hcn : cn.1 ≤ room_1.cells ∧ cn.2 ≤ room_1.slots) (hB : zB S L) (K : ∀ S' L', zB S' L' → zV mL_law X SK S' L' cn 1406 (lvL n) [] post) : zV mL_law X SK S L cn 856 (lvL n) [] post := by
  refine zi_aload_n dL_law_856 rfl rfl ?_
  refine zl_arg (k := 1) (by decide) dL_law_857 dL_law_858 dL_law_859 dL_law_860 dL_law_861 (by omega) (by omega) ?_
  refine zl_arg (k := 2) (by decide) dL_law_862 dL_law_863 dL_law_864 dL_law_865 dL_law_866 (by omega) (by omega) ?_
  refine zl_i (st := []) (As := [.int (X.2 (n + 1)), .int (X.2 (n + 2))]) dL_law_867 lk_L_104 sk0 rfl ⟨Nat.le_of_ble_eq_true rfl, Nat.le_of_ble_eq_true rfl⟩ ⟨rfl, rfl⟩ rfl hcn (Nat.le_of_ble_eq_true rfl) rfl rfl (both_home hB) (fun y1 S1 L1 h1 => ?_)
  refine zi_aload_n dL_law_870 rfl rfl ?_
  refine zl_arg (k := 1) (by decide) dL_law_871 dL_law_872 dL_law_873 dL_law_874 dL_law_875 (by omega) (by omega) ?_
  refine zl_arg (k := 2) (by decide) dL_law_876 dL_law_877 dL_law_878 dL_law_879 dL_law_880 (by omega) (by omega) ?_
  refine zl_i (st := [.int y1]) (As := [.int (X.2 (n + 1)), .int (X.2 (n + 2))]) dL_law_881 lk_L_107 sk72 rfl ⟨Nat.le_of_ble_eq_true rfl, Nat.le_of_ble_eq_true rfl⟩ ⟨rfl, rfl⟩ rfl hcn (Nat.le_of_ble_eq_true rfl) rfl rfl h1 (fun y2 S2 L2 h2 => ?_)
  exact zi_icmp_eq (tgt := 1406) dL_law_884 (by decide) (fun _ => K S2 L2 h2.2) (fun z => absurd h2.1 z)
theorem law_23 {X : Nat × (Nat → Int32)} {S : zS} {L : zL} {cn : Nat × Nat} {n : Nat} {post : zP} (hX : X.1 ≤ 384) (hn : n + 6 ≤ X.1) (hcn : cn.1 ≤ room_1.cells ∧ cn.2 ≤ room_1.slots) (hB : zB S L) (K : ∀ S' L', zB S' L' → zV mL_law X SK S' L' cn 1406 (lvL n) [] post) : zV mL_law X SK S L cn 889 (lvL n) [] post := by
  refine zi_aload_n dL_law_889 rfl rfl ?_
  refine zl_arg (k := 1) (by decide) dL_law_890 dL_law_891 dL_law_892 dL_law_893 dL_law_894 (by omega) (by omega) ?_
  refine zl_arg (k := 2) (by decide) dL_law_895 dL_law_896 dL_law_897 dL_law_898 dL_law_899 (by omega) (by omega) ?_
  refine zl_arg (k := 3) (by decide) dL_law_900 dL_law_901 dL_law_902 dL_law_903 dL_law_904 (by omega) (by omega) ?_
  refine zl_i (st := []) (As := [.int (X.2 (n + 1)), .int (X.2 (n + 2)), .int (X.2 (n + 3))]) dL_law_905 lk_L_108 sk0 rfl ⟨Nat.le_of_ble_eq_true rfl, Nat.le_of_ble_eq_true rfl⟩ ⟨rfl, rfl⟩ rfl hcn (Nat.le_of_ble_eq_true rfl) rfl rfl (both_seen hB) (fun y1 S1 L1 h1 => ?_)
  refine zi_aload_n dL_law_908 rfl rfl ?_
  refine zl_arg (k := 1) (by decide) dL_law_909 dL_law_910 dL_law_911 dL_law_912 dL_law_913 (by omega) (by omega) ?_
  refine zl_arg (k := 2) (by decide) dL_law_914 dL_law_915 dL_law_916 dL_law_917 dL_law_918 (by omega) (by omega) ?_
  refine zl_arg (k := 3) (by decide) dL_law_919 dL_law_920 dL_law_921 dL_law_922 dL_law_923 (by omega) (by omega) ?_
  refine zl_i (st := [.int y1]) (As := [.int (X.2 (n + 1)), .int (X.2 (n + 2)), .int (X.2 (n + 3))]) dL_law_924 lk_L_111 sk72 rfl ⟨Nat.le_of_ble_eq_true rfl, Nat.le_of_ble_eq_true rfl⟩ ⟨rfl, rfl⟩ rfl hcn (Nat.le_of_ble_eq_true rfl) rfl rfl h1 (fun y2 S2 L2 h2 => ?_)
  exact zi_icmp_eq (tgt := 1406) dL_law_927 (by decide) (fun _ => K S2 L2 h2.2) (fun z => absurd h2.1 z)
theorem law_24 {X : Nat × (Nat → Int32)} {S : zS} {L : zL} {cn : Nat × Nat} {n : Nat} {post : zP} (hX : X.1 ≤ 384) (hn : n + 6 ≤ X.1) (hcn : cn.1 ≤ room_1.cells ∧ cn.2 ≤ room_1.slots) (hB : zB S L) (K : ∀ S' L', zB S' L' → zV mL_law X SK S' L' cn 1406 (lvL n) [] post) : zV mL_law X SK S L cn 932 (lvL n) [] post := by
  refine zi_aload_n dL_law_932 rfl rfl ?_
  refine zl_i (st := []) (As := []) dL_law_933 lk_L_112 sk0 rfl ⟨Nat.le_of_ble_eq_true rfl, Nat.le_of_ble_eq_true rfl⟩ ⟨rfl, rfl⟩ rfl hcn (Nat.le_of_ble_eq_true rfl) rfl rfl (both_forget hB) (fun y1 S1 L1 h1 => ?_)
  refine zi_aload_n dL_law_936 rfl rfl ?_
  refine zl_i (st := [.int y1]) (As := []) dL_law_937 lk_L_116 sk72 rfl ⟨Nat.le_of_ble_eq_true rfl, Nat.le_of_ble_eq_true rfl⟩ ⟨rfl, rfl⟩ rfl hcn (Nat.le_of_ble_eq_true rfl) rfl rfl h1 (fun y2 S2 L2 h2 => ?_)
  exact zi_icmp_eq (tgt := 1406) dL_law_940 (by decide) (fun _ => K S2 L2 h2.2) (fun z => absurd h2.1 z)
theorem law_25 {X : Nat × (Nat → Int32)} {S : zS} {L : zL} {cn : Nat × Nat} {n : Nat} {post : zP} (hX : X.1 ≤ 384) (hn : n + 6 ≤ X.1) (hcn : cn.1 ≤ room_1.cells ∧ cn.2 ≤ room_1.slots) (hB : zB S L) (K : ∀ S' L', zB S' L' → zV mL_law X SK S' L' cn 1406 (lvL n) [] post) : zV mL_law X SK S L cn 945 (lvL n) [] post := by
  refine zi_aload_n dL_law_945 rfl rfl ?_
  refine zl_i (st := []) (As := []) dL_law_946 lk_L_117 sk0 rfl ⟨Nat.le_of_ble_eq_true rfl, Nat.le_of_ble_eq_true rfl⟩ ⟨rfl, rfl⟩ rfl hcn (Nat.le_of_ble_eq_true rfl) rfl rfl (both_never hB) (fun y1 S1 L1 h1 => ?_)
  refine zi_aload_n dL_law_949 rfl rfl ?_
  refine zl_i (st := [.int y1]) (As := []) dL_law_950 lk_L_120 sk72 rfl ⟨Nat.le_of_ble_eq_true rfl, Nat.le_of_ble_eq_true rfl⟩ ⟨rfl, rfl⟩ rfl hcn (Nat.le_of_ble_eq_true rfl) rfl rfl h1 (fun y2 S2 L2 h2 => ?_)
  exact zi_icmp_eq (tgt := 1406) dL_law_953 (by decide) (fun _ => K S2 L2 h2.2) (fun z => absurd h2.1 z)
theorem law_26 {X : Nat × (Nat → Int32)} {S : zS} {L : zL} {cn : Nat × Nat} {n : Nat} {post : zP} (hX : X.1 ≤ 384) (hn : n + 6 ≤ X.1) (hcn : cn.1 ≤ room_1.cells ∧ cn.2 ≤ room_1.slots) (hB : zB S L) (K : ∀ S' L', zB S' L' → zV mL_law X SK S' L' cn 1406 (lvL n) [] post) : zV mL_law X SK S L cn 958 (lvL n) [] post := by
  refine zi_aload_n dL_law_958 rfl rfl ?_
  refine zl_arg (k := 1) (by decide) dL_law_959 dL_law_960 dL_law_961 dL_law_962 dL_law_963 (by omega) (by omega) ?_
  refine zl_arg (k := 2) (by decide) dL_law_964 dL_law_965 dL_law_966 dL_law_967 dL_law_968 (by omega) (by omega) ?_
  refine zl_i (st := []) (As := [.int (X.2 (n + 1)), .int (X.2 (n + 2))]) dL_law_969 lk_L_121 sk0 rfl ⟨Nat.le_of_ble_eq_true rfl, Nat.le_of_ble_eq_true rfl⟩ ⟨rfl, rfl⟩ rfl hcn (Nat.le_of_ble_eq_true rfl) rfl rfl (both_was hB) (fun y1 S1 L1 h1 => ?_)
  refine zi_aload_n dL_law_972 rfl rfl ?_
  refine zl_arg (k := 1) (by decide) dL_law_973 dL_law_974 dL_law_975 dL_law_976 dL_law_977 (by omega) (by omega) ?_
  refine zl_arg (k := 2) (by decide) dL_law_978 dL_law_979 dL_law_980 dL_law_981 dL_law_982 (by omega) (by omega) ?_
  refine zl_i (st := [.int y1]) (As := [.int (X.2 (n + 1)), .int (X.2 (n + 2))]) dL_law_983 lk_L_124 sk72 rfl ⟨Nat.le_of_ble_eq_true rfl, Nat.le_of_ble_eq_true rfl⟩ ⟨rfl, rfl⟩ rfl hcn (Nat.le_of_ble_eq_true rfl) rfl rfl h1 (fun y2 S2 L2 h2 => ?_)
  exact zi_icmp_eq (tgt := 1406) dL_law_986 (by decide) (fun _ => K S2 L2 h2.2) (fun z => absurd h2.1 z)
theorem law_27 {X : Nat × (Nat → Int32)} {S : zS} {L : zL} {cn : Nat × Nat} {n : Nat} {post : zP} (hX : X.1 ≤ 384) (hn : n + 6 ≤ X.1) (hcn : cn.1 ≤ room_1.cells ∧ cn.2 ≤ room_1.slots) (hB : zB S L) (K : ∀ S' L', zB S' L' → zV mL_law X SK S' L' cn 1406 (lvL n) [] post) : zV mL_law X SK S L cn 991 (lvL n) [] post := by
  refine zi_aload_n dL_law_991 rfl rfl ?_
  refine zl_arg (k := 1) (by decide) dL_law_992 dL_law_993 dL_law_994 dL_law_995 dL_law_996 (by omega) (by omega) ?_
  refine zl_i (st := []) (As := [.int (X.2 (n + 1))]) dL_law_997 lk_L_125 sk0 rfl ⟨Nat.le_of_ble_eq_true rfl, Nat.le_of_ble_eq_true rfl⟩ ⟨rfl, rfl⟩ rfl hcn (Nat.le_of_ble_eq_true rfl) rfl rfl (both_ask hB) (fun y1 S1 L1 h1 => ?_)
  refine zi_aload_n dL_law_1000 rfl rfl ?_
  refine zl_arg (k := 1) (by decide) dL_law_1001 dL_law_1002 dL_law_1003 dL_law_1004 dL_law_1005 (by omega) (by omega) ?_
  refine zl_i (st := [.int y1]) (As := [.int (X.2 (n + 1))]) dL_law_1006 lk_L_128 sk72 rfl ⟨Nat.le_of_ble_eq_true rfl, Nat.le_of_ble_eq_true rfl⟩ ⟨rfl, rfl⟩ rfl hcn (Nat.le_of_ble_eq_true rfl) rfl rfl h1 (fun y2 S2 L2 h2 => ?_)
  exact zi_icmp_eq (tgt := 1406) dL_law_1009 (by decide) (fun _ => K S2 L2 h2.2) (fun z => absurd h2.1 z)
theorem law_28 {X : Nat × (Nat → Int32)} {S : zS} {L : zL} {cn : Nat × Nat} {n : Nat} {post : zP} (hX : X.1 ≤ 384) (hn : n + 6 ≤ X.1) (hcn : cn.1 ≤ room_1.cells ∧ cn.2 ≤ room_1.slots) (hB : zB S L) (K : ∀ S' L', zB S' L' → zV mL_law X SK S' L' cn 1406 (lvL n) [] post) : zV mL_law X SK S L cn 1014 (lvL n) [] post := by
  refine zi_aload_n dL_law_1014 rfl rfl ?_
  refine zl_arg (k := 1) (by decide) dL_law_1015 dL_law_1016 dL_law_1017 dL_law_1018 dL_law_1019 (by omega) (by omega) ?_
  refine zl_arg (k := 2) (by decide) dL_law_1020 dL_law_1021 dL_law_1022 dL_law_1023 dL_law_1024 (by omega) (by omega) ?_
  refine zl_arg (k := 3) (by decide) dL_law_1025 dL_law_1026 dL_law_1027 dL_law_1028 dL_law_1029 (by omega) (by omega) ?_
  refine zl_arg (k := 4) (by decide) dL_law_1030 dL_law_1031 dL_law_1032 dL_law_1033 dL_law_1034 (by omega) (by omega) ?_
  refine zl_l (st := []) (As := [.int (X.2 (n + 1)), .int (X.2 (n + 2)), .int (X.2 (n + 3)), .int (X.2 (n + 4))]) dL_law_1035 lk_L_129 sk0 rfl ⟨Nat.le_of_ble_eq_true rfl, Nat.le_of_ble_eq_true rfl⟩ ⟨rfl, rfl⟩ rfl hcn (Nat.le_of_ble_eq_true rfl) rfl rfl (both_virtue hB) (fun y1 S1 L1 h1 => ?_)
  refine zi_aload_n dL_law_1038 rfl rfl ?_
  refine zl_arg (k := 1) (by decide) dL_law_1039 dL_law_1040 dL_law_1041 dL_law_1042 dL_law_1043 (by omega) (by omega) ?_
  refine zl_arg (k := 2) (by decide) dL_law_1044 dL_law_1045 dL_law_1046 dL_law_1047 dL_law_1048 (by omega) (by omega) ?_
  refine zl_arg (k := 3) (by decide) dL_law_1049 dL_law_1050 dL_law_1051 dL_law_1052 dL_law_1053 (by omega) (by omega) ?_
  refine zl_arg (k := 4) (by decide) dL_law_1054 dL_law_1055 dL_law_1056 dL_law_1057 dL_law_1058 (by omega) (by omega) ?_
  refine zl_l (st := [.long y1]) (As := [.int (X.2 (n + 1)), .int (X.2 (n + 2)), .int (X.2 (n + 3)), .int (X.2 (n + 4))]) dL_law_1059 lk_L_133 sk72 rfl ⟨Nat.le_of_ble_eq_true rfl, Nat.le_of_ble_eq_true rfl⟩ ⟨rfl, rfl⟩ rfl hcn (Nat.le_of_ble_eq_true rfl) rfl rfl h1 (fun y2 S2 L2 h2 => ?_)
  refine zi_lcmp dL_law_1062 ?_
  exact zi_if_eq (tgt := 1406) dL_law_1063 (by decide) (fun _ => K S2 L2 h2.2) (fun z => absurd (cmp_eq0.mpr h2.1) z)
theorem law_29 {X : Nat × (Nat → Int32)} {S : zS} {L : zL} {cn : Nat × Nat} {n : Nat} {post : zP} (hX : X.1 ≤ 384) (hn : n + 6 ≤ X.1) (hcn : cn.1 ≤ room_1.cells ∧ cn.2 ≤ room_1.slots) (hB : zB S L) (K : ∀ S' L', zB S' L' → zV mL_law X SK S' L' cn 1406 (lvL n) [] post) : zV mL_law X SK S L cn 1068 (lvL n) [] post := by
  refine zi_aload_n dL_law_1068 rfl rfl ?_
  refine zl_arg (k := 1) (by decide) dL_law_1069 dL_law_1070 dL_law_1071 dL_law_1072 dL_law_1073 (by omega) (by omega) ?_
  refine zl_arg (k := 2) (by decide) dL_law_1074 dL_law_1075 dL_law_1076 dL_law_1077 dL_law_1078 (by omega) (by omega) ?_
  refine zl_arg (k := 3) (by decide) dL_law_1079 dL_law_1080 dL_law_1081 dL_law_1082 dL_law_1083 (by omega) (by omega) ?_
  refine zl_i (st := []) (As := [.int (X.2 (n + 1)), .int (X.2 (n + 2)), .int (X.2 (n + 3))]) dL_law_1084 lk_L_134 sk0 rfl ⟨Nat.le_of_ble_eq_true rfl, Nat.le_of_ble_eq_true rfl⟩ ⟨rfl, rfl⟩ rfl hcn (Nat.le_of_ble_eq_true rfl) rfl rfl (both_years hB) (fun y1 S1 L1 h1 => ?_)
  refine zi_aload_n dL_law_1087 rfl rfl ?_
  refine zl_arg (k := 1) (by decide) dL_law_1088 dL_law_1089 dL_law_1090 dL_law_1091 dL_law_1092 (by omega) (by omega) ?_
  refine zl_arg (k := 2) (by decide) dL_law_1093 dL_law_1094 dL_law_1095 dL_law_1096 dL_law_1097 (by omega) (by omega) ?_
  refine zl_arg (k := 3) (by decide) dL_law_1098 dL_law_1099 dL_law_1100 dL_law_1101 dL_law_1102 (by omega) (by omega) ?_
  refine zl_i (st := [.int y1]) (As := [.int (X.2 (n + 1)), .int (X.2 (n + 2)), .int (X.2 (n + 3))]) dL_law_1103 lk_L_137 sk72 rfl ⟨Nat.le_of_ble_eq_true rfl, Nat.le_of_ble_eq_true rfl⟩ ⟨rfl, rfl⟩ rfl hcn (Nat.le_of_ble_eq_true rfl) rfl rfl h1 (fun y2 S2 L2 h2 => ?_)
  exact zi_icmp_eq (tgt := 1406) dL_law_1106 (by decide) (fun _ => K S2 L2 h2.2) (fun z => absurd h2.1 z)
theorem law_30 {X : Nat × (Nat → Int32)} {S : zS} {L : zL} {cn : Nat × Nat} {n : Nat} {post : zP} (hX : X.1 ≤ 384) (hn : n + 6 ≤ X.1) (hcn : cn.1 ≤ room_1.cells ∧ cn.2 ≤ room_1.slots) (hB : zB S L) (K : ∀ S' L', zB S' L' → zV mL_law X SK S' L' cn 1406 (lvL n) [] post) : zV mL_law X SK S L cn 1111 (lvL n) [] post := by
  refine zi_aload_n dL_law_1111 rfl rfl ?_
  refine zl_arg (k := 1) (by decide) dL_law_1112 dL_law_1113 dL_law_1114 dL_law_1115 dL_law_1116 (by omega) (by omega) ?_
  refine zl_arg (k := 2) (by decide) dL_law_1117 dL_law_1118 dL_law_1119 dL_law_1120 dL_law_1121 (by omega) (by omega) ?_
  refine zl_arg (k := 3) (by decide) dL_law_1122 dL_law_1123 dL_law_1124 dL_law_1125 dL_law_1126 (by omega) (by omega) ?_
  refine zl_i (st := []) (As := [.int (X.2 (n + 1)), .int (X.2 (n + 2)), .int (X.2 (n + 3))]) dL_law_1127 lk_L_138 sk0 rfl ⟨Nat.le_of_ble_eq_true rfl, Nat.le_of_ble_eq_true rfl⟩ ⟨rfl, rfl⟩ rfl hcn (Nat.le_of_ble_eq_true rfl) rfl rfl (both_sheet hB) (fun y1 S1 L1 h1 => ?_)
  refine zi_aload_n dL_law_1130 rfl rfl ?_
  refine zl_arg (k := 1) (by decide) dL_law_1131 dL_law_1132 dL_law_1133 dL_law_1134 dL_law_1135 (by omega) (by omega) ?_
  refine zl_arg (k := 2) (by decide) dL_law_1136 dL_law_1137 dL_law_1138 dL_law_1139 dL_law_1140 (by omega) (by omega) ?_
  refine zl_arg (k := 3) (by decide) dL_law_1141 dL_law_1142 dL_law_1143 dL_law_1144 dL_law_1145 (by omega) (by omega) ?_
  refine zl_i (st := [.int y1]) (As := [.int (X.2 (n + 1)), .int (X.2 (n + 2)), .int (X.2 (n + 3))]) dL_law_1146 lk_L_141 sk72 rfl ⟨Nat.le_of_ble_eq_true rfl, Nat.le_of_ble_eq_true rfl⟩ ⟨rfl, rfl⟩ rfl hcn (Nat.le_of_ble_eq_true rfl) rfl rfl h1 (fun y2 S2 L2 h2 => ?_)
  exact zi_icmp_eq (tgt := 1406) dL_law_1149 (by decide) (fun _ => K S2 L2 h2.2) (fun z => absurd h2.1 z)
theorem law_31 {X : Nat × (Nat → Int32)} {S : zS} {L : zL} {cn : Nat × Nat} {n : Nat} {post : zP} (hX : X.1 ≤ 384) (hn : n + 6 ≤ X.1) (hcn : cn.1 ≤ room_1.cells ∧ cn.2 ≤ room_1.slots) (hB : zB S L) (K : ∀ S' L', zB S' L' → zV mL_law X SK S' L' cn 1406 (lvL n) [] post) : zV mL_law X SK S L cn 1154 (lvL n) [] post := by
  refine zi_aload_n dL_law_1154 rfl rfl ?_
  refine zl_arg (k := 1) (by decide) dL_law_1155 dL_law_1156 dL_law_1157 dL_law_1158 dL_law_1159 (by omega) (by omega) ?_
  refine zl_i (st := []) (As := [.int (X.2 (n + 1))]) dL_law_1160 lk_L_142 sk0 rfl ⟨Nat.le_of_ble_eq_true rfl, Nat.le_of_ble_eq_true rfl⟩ ⟨rfl, rfl⟩ rfl hcn (Nat.le_of_ble_eq_true rfl) rfl rfl (both_lose hB) (fun y1 S1 L1 h1 => ?_)
  refine zi_aload_n dL_law_1163 rfl rfl ?_
  refine zl_arg (k := 1) (by decide) dL_law_1164 dL_law_1165 dL_law_1166 dL_law_1167 dL_law_1168 (by omega) (by omega) ?_
  refine zl_i (st := [.int y1]) (As := [.int (X.2 (n + 1))]) dL_law_1169 lk_L_145 sk72 rfl ⟨Nat.le_of_ble_eq_true rfl, Nat.le_of_ble_eq_true rfl⟩ ⟨rfl, rfl⟩ rfl hcn (Nat.le_of_ble_eq_true rfl) rfl rfl h1 (fun y2 S2 L2 h2 => ?_)
  exact zi_icmp_eq (tgt := 1406) dL_law_1172 (by decide) (fun _ => K S2 L2 h2.2) (fun z => absurd h2.1 z)
theorem law_32 {X : Nat × (Nat → Int32)} {S : zS} {L : zL} {cn : Nat × Nat} {n : Nat} {post : zP} (hX : X.1 ≤ 384) (hn : n + 6 ≤ X.1) (hcn : cn.1 ≤ room_1.cells ∧ cn.2 ≤ room_1.slots) (hB : zB S L) (K : ∀ S' L', zB S' L' → zV mL_law X SK S' L' cn 1406 (lvL n) [] post) : zV mL_law X SK S L cn 1177 (lvL n) [] post := by
  refine zi_aload_n dL_law_1177 rfl rfl ?_
  refine zl_arg (k := 1) (by decide) dL_law_1178 dL_law_1179 dL_law_1180 dL_law_1181 dL_law_1182 (by omega) (by omega) ?_
  refine zl_arg (k := 2) (by decide) dL_law_1183 dL_law_1184 dL_law_1185 dL_law_1186 dL_law_1187 (by omega) (by omega) ?_
  refine zl_arg (k := 3) (by decide) dL_law_1188 dL_law_1189 dL_law_1190 dL_law_1191 dL_law_1192 (by omega) (by omega) ?_
  refine zl_arg (k := 4) (by decide) dL_law_1193 dL_law_1194 dL_law_1195 dL_law_1196 dL_law_1197 (by omega) (by omega) ?_
  refine zl_i (st := []) (As := [.int (X.2 (n + 1)), .int (X.2 (n + 2)), .int (X.2 (n + 3)), .int (X.2 (n + 4))]) dL_law_1198 lk_L_146 sk0 rfl ⟨Nat.le_of_ble_eq_true rfl, Nat.le_of_ble_eq_true rfl⟩ ⟨rfl, rfl⟩ rfl hcn (Nat.le_of_ble_eq_true rfl) rfl rfl (both_put hB) (fun y1 S1 L1 h1 => ?_)
  refine zi_aload_n dL_law_1201 rfl rfl ?_
  refine zl_arg (k := 1) (by decide) dL_law_1202 dL_law_1203 dL_law_1204 dL_law_1205 dL_law_1206 (by omega) (by omega) ?_
  refine zl_arg (k := 2) (by decide) dL_law_1207 dL_law_1208 dL_law_1209 dL_law_1210 dL_law_1211 (by omega) (by omega) ?_
  refine zl_arg (k := 3) (by decide) dL_law_1212 dL_law_1213 dL_law_1214 dL_law_1215 dL_law_1216 (by omega) (by omega) ?_
  refine zl_arg (k := 4) (by decide) dL_law_1217 dL_law_1218 dL_law_1219 dL_law_1220 dL_law_1221 (by omega) (by omega) ?_
  refine zl_i (st := [.int y1]) (As := [.int (X.2 (n + 1)), .int (X.2 (n + 2)), .int (X.2 (n + 3)), .int (X.2 (n + 4))]) dL_law_1222 lk_L_150 sk72 rfl ⟨Nat.le_of_ble_eq_true rfl, Nat.le_of_ble_eq_true rfl⟩ ⟨rfl, rfl⟩ rfl hcn (Nat.le_of_ble_eq_true rfl) rfl rfl h1 (fun y2 S2 L2 h2 => ?_)
  exact zi_icmp_eq (tgt := 1406) dL_law_1225 (by decide) (fun _ => K S2 L2 h2.2) (fun z => absurd h2.1 z)
theorem law_33 {X : Nat × (Nat → Int32)} {S : zS} {L : zL} {cn : Nat × Nat} {n : Nat} {post : zP} (hX : X.1 ≤ 384) (hn : n + 6 ≤ X.1) (hcn : cn.1 ≤ room_1.cells ∧ cn.2 ≤ room_1.slots) (hB : zB S L) (K : ∀ S' L', zB S' L' → zV mL_law X SK S' L' cn 1406 (lvL n) [] post) : zV mL_law X SK S L cn 1230 (lvL n) [] post := by
  refine zi_aload_n dL_law_1230 rfl rfl ?_
  refine zl_arg (k := 1) (by decide) dL_law_1231 dL_law_1232 dL_law_1233 dL_law_1234 dL_law_1235 (by omega) (by omega) ?_
  refine zl_arg (k := 2) (by decide) dL_law_1236 dL_law_1237 dL_law_1238 dL_law_1239 dL_law_1240 (by omega) (by omega) ?_
  refine zl_arg (k := 3) (by decide) dL_law_1241 dL_law_1242 dL_law_1243 dL_law_1244 dL_law_1245 (by omega) (by omega) ?_
  refine zl_i (st := []) (As := [.int (X.2 (n + 1)), .int (X.2 (n + 2)), .int (X.2 (n + 3))]) dL_law_1246 lk_L_151 sk0 rfl ⟨Nat.le_of_ble_eq_true rfl, Nat.le_of_ble_eq_true rfl⟩ ⟨rfl, rfl⟩ rfl hcn (Nat.le_of_ble_eq_true rfl) rfl rfl (both_get hB) (fun y1 S1 L1 h1 => ?_)
  refine zi_aload_n dL_law_1249 rfl rfl ?_
  refine zl_arg (k := 1) (by decide) dL_law_1250 dL_law_1251 dL_law_1252 dL_law_1253 dL_law_1254 (by omega) (by omega) ?_
  refine zl_arg (k := 2) (by decide) dL_law_1255 dL_law_1256 dL_law_1257 dL_law_1258 dL_law_1259 (by omega) (by omega) ?_
  refine zl_arg (k := 3) (by decide) dL_law_1260 dL_law_1261 dL_law_1262 dL_law_1263 dL_law_1264 (by omega) (by omega) ?_
  refine zl_i (st := [.int y1]) (As := [.int (X.2 (n + 1)), .int (X.2 (n + 2)), .int (X.2 (n + 3))]) dL_law_1265 lk_L_154 sk72 rfl ⟨Nat.le_of_ble_eq_true rfl, Nat.le_of_ble_eq_true rfl⟩ ⟨rfl, rfl⟩ rfl hcn (Nat.le_of_ble_eq_true rfl) rfl rfl h1 (fun y2 S2 L2 h2 => ?_)
  exact zi_icmp_eq (tgt := 1406) dL_law_1268 (by decide) (fun _ => K S2 L2 h2.2) (fun z => absurd h2.1 z)
theorem law_34 {X : Nat × (Nat → Int32)} {S : zS} {L : zL} {cn : Nat × Nat} {n : Nat} {post : zP} (hX : X.1 ≤ 384) (hn : n + 6 ≤ X.1) (hcn : cn.1 ≤ room_1.cells ∧ cn.2 ≤ room_1.slots) (hB : zB S L) (K : ∀ S' L', zB S' L' → zV mL_law X SK S' L' cn 1406 (lvL n) [] post) : zV mL_law X SK S L cn 1273 (lvL n) [] post := by
  refine zi_aload_n dL_law_1273 rfl rfl ?_
  refine zl_arg (k := 1) (by decide) dL_law_1274 dL_law_1275 dL_law_1276 dL_law_1277 dL_law_1278 (by omega) (by omega) ?_
  refine zl_arg (k := 2) (by decide) dL_law_1279 dL_law_1280 dL_law_1281 dL_law_1282 dL_law_1283 (by omega) (by omega) ?_
  refine zl_arg (k := 3) (by decide) dL_law_1284 dL_law_1285 dL_law_1286 dL_law_1287 dL_law_1288 (by omega) (by omega) ?_
  refine zl_arg (k := 4) (by decide) dL_law_1289 dL_law_1290 dL_law_1291 dL_law_1292 dL_law_1293 (by omega) (by omega) ?_
  refine zl_arg (k := 5) (by decide) dL_law_1294 dL_law_1295 dL_law_1296 dL_law_1297 dL_law_1298 (by omega) (by omega) ?_
  refine zl_i (st := []) (As := [.int (X.2 (n + 1)), .int (X.2 (n + 2)), .int (X.2 (n + 3)), .int (X.2 (n + 4)), .int (X.2 (n + 5))]) dL_law_1299 lk_L_155 sk0 rfl ⟨Nat.le_of_ble_eq_true rfl, Nat.le_of_ble_eq_true rfl⟩ ⟨rfl, rfl⟩ rfl hcn (Nat.le_of_ble_eq_true rfl) rfl rfl (both_copy hB) (fun y1 S1 L1 h1 => ?_)
  refine zi_aload_n dL_law_1302 rfl rfl ?_
  refine zl_arg (k := 1) (by decide) dL_law_1303 dL_law_1304 dL_law_1305 dL_law_1306 dL_law_1307 (by omega) (by omega) ?_
  refine zl_arg (k := 2) (by decide) dL_law_1308 dL_law_1309 dL_law_1310 dL_law_1311 dL_law_1312 (by omega) (by omega) ?_
  refine zl_arg (k := 3) (by decide) dL_law_1313 dL_law_1314 dL_law_1315 dL_law_1316 dL_law_1317 (by omega) (by omega) ?_
  refine zl_arg (k := 4) (by decide) dL_law_1318 dL_law_1319 dL_law_1320 dL_law_1321 dL_law_1322 (by omega) (by omega) ?_
  refine zl_arg (k := 5) (by decide) dL_law_1323 dL_law_1324 dL_law_1325 dL_law_1326 dL_law_1327 (by omega) (by omega) ?_
  refine zl_i (st := [.int y1]) (As := [.int (X.2 (n + 1)), .int (X.2 (n + 2)), .int (X.2 (n + 3)), .int (X.2 (n + 4)), .int (X.2 (n + 5))]) dL_law_1328 lk_L_159 sk72 rfl ⟨Nat.le_of_ble_eq_true rfl, Nat.le_of_ble_eq_true rfl⟩ ⟨rfl, rfl⟩ rfl hcn (Nat.le_of_ble_eq_true rfl) rfl rfl h1 (fun y2 S2 L2 h2 => ?_)
  exact zi_icmp_eq (tgt := 1406) dL_law_1331 (by decide) (fun _ => K S2 L2 h2.2) (fun z => absurd h2.1 z)
theorem law_35 {X : Nat × (Nat → Int32)} {S : zS} {L : zL} {cn : Nat × Nat} {n : Nat} {post : zP} (hX : X.1 ≤ 384) (hn : n + 6 ≤ X.1) (hcn : cn.1 ≤ room_1.cells ∧ cn.2 ≤ room_1.slots) (hB : zB S L) (K : ∀ S' L', zB S' L' → zV mL_law X SK S' L' cn 1406 (lvL n) [] post) : zV mL_law X SK S L cn 1336 (lvL n) [] post := by
  refine zi_aload_n dL_law_1336 rfl rfl ?_
  refine zl_arg (k := 1) (by decide) dL_law_1337 dL_law_1338 dL_law_1339 dL_law_1340 dL_law_1341 (by omega) (by omega) ?_
  refine zl_arg (k := 2) (by decide) dL_law_1342 dL_law_1343 dL_law_1344 dL_law_1345 dL_law_1346 (by omega) (by omega) ?_
  refine zl_i (st := []) (As := [.int (X.2 (n + 1)), .int (X.2 (n + 2))]) dL_law_1347 lk_L_160 sk0 rfl ⟨Nat.le_of_ble_eq_true rfl, Nat.le_of_ble_eq_true rfl⟩ ⟨rfl, rfl⟩ rfl hcn (Nat.le_of_ble_eq_true rfl) rfl rfl (both_write hB) (fun y1 S1 L1 h1 => ?_)
  refine zi_aload_n dL_law_1350 rfl rfl ?_
  refine zl_arg (k := 1) (by decide) dL_law_1351 dL_law_1352 dL_law_1353 dL_law_1354 dL_law_1355 (by omega) (by omega) ?_
  refine zl_arg (k := 2) (by decide) dL_law_1356 dL_law_1357 dL_law_1358 dL_law_1359 dL_law_1360 (by omega) (by omega) ?_
  refine zl_i (st := [.int y1]) (As := [.int (X.2 (n + 1)), .int (X.2 (n + 2))]) dL_law_1361 lk_L_163 sk72 rfl ⟨Nat.le_of_ble_eq_true rfl, Nat.le_of_ble_eq_true rfl⟩ ⟨rfl, rfl⟩ rfl hcn (Nat.le_of_ble_eq_true rfl) rfl rfl h1 (fun y2 S2 L2 h2 => ?_)
  exact zi_icmp_eq (tgt := 1406) dL_law_1364 (by decide) (fun _ => K S2 L2 h2.2) (fun z => absurd h2.1 z)
theorem law_36 {X : Nat × (Nat → Int32)} {S : zS} {L : zL} {cn : Nat × Nat} {n : Nat} {post : zP} (hX : X.1 ≤ 384) (hn : n + 6 ≤ X.1) (hcn : cn.1 ≤ room_1.cells ∧ cn.2 ≤ room_1.slots) (hB : zB S L) (K : ∀ S' L', zB S' L' → zV mL_law X SK S' L' cn 1406 (lvL n) [] post) : zV mL_law X SK S L cn 1369 (lvL n) [] post := by
  refine zi_aload_n dL_law_1369 rfl rfl ?_
  refine zl_arg (k := 1) (by decide) dL_law_1370 dL_law_1371 dL_law_1372 dL_law_1373 dL_law_1374 (by omega) (by omega) ?_
  refine zl_i (st := []) (As := [.int (X.2 (n + 1))]) dL_law_1375 lk_L_164 sk0 rfl ⟨Nat.le_of_ble_eq_true rfl, Nat.le_of_ble_eq_true rfl⟩ ⟨rfl, rfl⟩ rfl hcn (Nat.le_of_ble_eq_true rfl) rfl rfl (both_count hB) (fun y1 S1 L1 h1 => ?_)
  refine zi_aload_n dL_law_1378 rfl rfl ?_
  refine zl_arg (k := 1) (by decide) dL_law_1379 dL_law_1380 dL_law_1381 dL_law_1382 dL_law_1383 (by omega) (by omega) ?_
  refine zl_i (st := [.int y1]) (As := [.int (X.2 (n + 1))]) dL_law_1384 lk_L_167 sk72 rfl ⟨Nat.le_of_ble_eq_true rfl, Nat.le_of_ble_eq_true rfl⟩ ⟨rfl, rfl⟩ rfl hcn (Nat.le_of_ble_eq_true rfl) rfl rfl h1 (fun y2 S2 L2 h2 => ?_)
  exact zi_icmp_eq (tgt := 1406) dL_law_1387 (by decide) (fun _ => K S2 L2 h2.2) (fun z => absurd h2.1 z)
theorem law_37 {X : Nat × (Nat → Int32)} {S : zS} {L : zL} {cn : Nat × Nat} {n : Nat} {post : zP} (hX : X.1 ≤ 384) (hn : n + 6 ≤ X.1) (hcn : cn.1 ≤ room_1.cells ∧ cn.2 ≤ room_1.slots) (hB : zB S L) (K : ∀ S' L', zB S' L' → zV mL_law X SK S' L' cn 1406 (lvL n) [] post) : zV mL_law X SK S L cn 1392 (lvL n) [] post := by
  refine zi_aload_n dL_law_1392 rfl rfl ?_
  refine zl_l (st := []) (As := []) dL_law_1393 lk_L_168 sk0 rfl ⟨Nat.le_of_ble_eq_true rfl, Nat.le_of_ble_eq_true rfl⟩ ⟨rfl, rfl⟩ rfl hcn (Nat.le_of_ble_eq_true rfl) rfl rfl (both_digest hB) (fun y1 S1 L1 h1 => ?_)
  refine zi_aload_n dL_law_1396 rfl rfl ?_
  refine zl_l (st := [.long y1]) (As := []) dL_law_1397 lk_L_172 sk72 rfl ⟨Nat.le_of_ble_eq_true rfl, Nat.le_of_ble_eq_true rfl⟩ ⟨rfl, rfl⟩ rfl hcn (Nat.le_of_ble_eq_true rfl) rfl rfl h1 (fun y2 S2 L2 h2 => ?_)
  refine zi_lcmp dL_law_1400 ?_
  exact zi_if_eq (tgt := 1406) dL_law_1401 (by decide) (fun _ => K S2 L2 h2.2) (fun z => absurd (cmp_eq0.mpr h2.1) z)
theorem law_sw {X : Nat × (Nat → Int32)} {S : zS} {L : zL} {cn : Nat × Nat} {n v : Nat} {post : zP} (hX : X.1 ≤ 384) (hn : n + 6 ≤ X.1) (hcn : cn.1 ≤ room_1.cells ∧ cn.2 ≤ room_1.slots) (hB : zB S L) (hv : v < 64) (K : ∀ S' L', zB S' L' → zV mL_law X SK S' L' cn 1406 (lvL n) [] post) : zV mL_law X SK S L cn 33 (lvL n) [.int (nI v)] post := by
  rcases (show v = 0 ∨ v = 1 ∨ v = 2 ∨ v = 3 ∨ v = 4 ∨ v = 5 ∨ v = 6 ∨ v = 7 ∨ v = 8 ∨ v = 9 ∨ v = 10 ∨ v = 11 ∨ v = 12 ∨ v = 13 ∨ v = 14 ∨ v = 15 ∨ v = 16 ∨ v = 17 ∨ v = 18 ∨ v = 19 ∨ v = 20 ∨ v = 21 ∨ v = 22 ∨ v = 23 ∨ v = 24 ∨ v = 25 ∨ v = 26 ∨ v = 27 ∨ v = 28 ∨ v = 29 ∨ v = 30 ∨ v = 31 ∨ v = 32 ∨ v = 33 ∨ v = 34 ∨ v = 35 ∨ v = 36 ∨ v = 37 ∨ 38 ≤ v by omega) with rfl | rfl | rfl | rfl | rfl | rfl | rfl | rfl | rfl | rfl | rfl | rfl | rfl | rfl | rfl | rfl | rfl | rfl | rfl | rfl | rfl | rfl | rfl | rfl | rfl | rfl | rfl | rfl | rfl | rfl | rfl | rfl | rfl | rfl | rfl | rfl | rfl | rfl | h
  · exact zi_tableIn (off := 167) (tgt := 200) dL_law_33 (by decide) (by decide) rfl (by decide) (law_0 hX hn hcn hB K)
  · exact zi_tableIn (off := 200) (tgt := 233) dL_law_33 (by decide) (by decide) rfl (by decide) (law_1 hX hn hcn hB K)
  · exact zi_tableIn (off := 223) (tgt := 256) dL_law_33 (by decide) (by decide) rfl (by decide) (law_2 hX hn hcn hB K)
  · exact zi_tableIn (off := 246) (tgt := 279) dL_law_33 (by decide) (by decide) rfl (by decide) (law_3 hX hn hcn hB K)
  · exact zi_tableIn (off := 269) (tgt := 302) dL_law_33 (by decide) (by decide) rfl (by decide) (law_4 hX hn hcn hB K)
  · exact zi_tableIn (off := 302) (tgt := 335) dL_law_33 (by decide) (by decide) rfl (by decide) (law_5 hX hn hcn hB K)
  · exact zi_tableIn (off := 335) (tgt := 368) dL_law_33 (by decide) (by decide) rfl (by decide) (law_6 hX hn hcn hB K)
  · exact zi_tableIn (off := 368) (tgt := 401) dL_law_33 (by decide) (by decide) rfl (by decide) (law_7 hX hn hcn hB K)
  · exact zi_tableIn (off := 411) (tgt := 444) dL_law_33 (by decide) (by decide) rfl (by decide) (law_8 hX hn hcn hB K)
  · exact zi_tableIn (off := 454) (tgt := 487) dL_law_33 (by decide) (by decide) rfl (by decide) (law_9 hX hn hcn hB K)
  · exact zi_tableIn (off := 477) (tgt := 510) dL_law_33 (by decide) (by decide) rfl (by decide) (law_10 hX hn hcn hB K)
  · exact zi_tableIn (off := 500) (tgt := 533) dL_law_33 (by decide) (by decide) rfl (by decide) (law_11 hX hn hcn hB K)
  · exact zi_tableIn (off := 523) (tgt := 556) dL_law_33 (by decide) (by decide) rfl (by decide) (law_12 hX hn hcn hB K)
  · exact zi_tableIn (off := 566) (tgt := 599) dL_law_33 (by decide) (by decide) rfl (by decide) (law_13 hX hn hcn hB K)
  · exact zi_tableIn (off := 589) (tgt := 622) dL_law_33 (by decide) (by decide) rfl (by decide) (law_14 hX hn hcn hB K)
  · exact zi_tableIn (off := 632) (tgt := 665) dL_law_33 (by decide) (by decide) rfl (by decide) (law_15 hX hn hcn hB K)
  · exact zi_tableIn (off := 655) (tgt := 688) dL_law_33 (by decide) (by decide) rfl (by decide) (law_16 hX hn hcn hB K)
  · exact zi_tableIn (off := 678) (tgt := 711) dL_law_33 (by decide) (by decide) rfl (by decide) (law_17 hX hn hcn hB K)
  · exact zi_tableIn (off := 701) (tgt := 734) dL_law_33 (by decide) (by decide) rfl (by decide) (law_18 hX hn hcn hB K)
  · exact zi_tableIn (off := 724) (tgt := 757) dL_law_33 (by decide) (by decide) rfl (by decide) (law_19 hX hn hcn hB K)
  · exact zi_tableIn (off := 757) (tgt := 790) dL_law_33 (by decide) (by decide) rfl (by decide) (law_20 hX hn hcn hB K)
  · exact zi_tableIn (off := 800) (tgt := 833) dL_law_33 (by decide) (by decide) rfl (by decide) (law_21 hX hn hcn hB K)
  · exact zi_tableIn (off := 823) (tgt := 856) dL_law_33 (by decide) (by decide) rfl (by decide) (law_22 hX hn hcn hB K)
  · exact zi_tableIn (off := 856) (tgt := 889) dL_law_33 (by decide) (by decide) rfl (by decide) (law_23 hX hn hcn hB K)
  · exact zi_tableIn (off := 899) (tgt := 932) dL_law_33 (by decide) (by decide) rfl (by decide) (law_24 hX hn hcn hB K)
  · exact zi_tableIn (off := 912) (tgt := 945) dL_law_33 (by decide) (by decide) rfl (by decide) (law_25 hX hn hcn hB K)
  · exact zi_tableIn (off := 925) (tgt := 958) dL_law_33 (by decide) (by decide) rfl (by decide) (law_26 hX hn hcn hB K)
  · exact zi_tableIn (off := 958) (tgt := 991) dL_law_33 (by decide) (by decide) rfl (by decide) (law_27 hX hn hcn hB K)
  · exact zi_tableIn (off := 981) (tgt := 1014) dL_law_33 (by decide) (by decide) rfl (by decide) (law_28 hX hn hcn hB K)
  · exact zi_tableIn (off := 1035) (tgt := 1068) dL_law_33 (by decide) (by decide) rfl (by decide) (law_29 hX hn hcn hB K)
  · exact zi_tableIn (off := 1078) (tgt := 1111) dL_law_33 (by decide) (by decide) rfl (by decide) (law_30 hX hn hcn hB K)
  · exact zi_tableIn (off := 1121) (tgt := 1154) dL_law_33 (by decide) (by decide) rfl (by decide) (law_31 hX hn hcn hB K)
  · exact zi_tableIn (off := 1144) (tgt := 1177) dL_law_33 (by decide) (by decide) rfl (by decide) (law_32 hX hn hcn hB K)
  · exact zi_tableIn (off := 1197) (tgt := 1230) dL_law_33 (by decide) (by decide) rfl (by decide) (law_33 hX hn hcn hB K)
  · exact zi_tableIn (off := 1240) (tgt := 1273) dL_law_33 (by decide) (by decide) rfl (by decide) (law_34 hX hn hcn hB K)
  · exact zi_tableIn (off := 1303) (tgt := 1336) dL_law_33 (by decide) (by decide) rfl (by decide) (law_35 hX hn hcn hB K)
  · exact zi_tableIn (off := 1336) (tgt := 1369) dL_law_33 (by decide) (by decide) rfl (by decide) (law_36 hX hn hcn hB K)
  · exact zi_tableIn (off := 1359) (tgt := 1392) dL_law_33 (by decide) (by decide) rfl (by decide) (law_37 hX hn hcn hB K)
  · refine zi_tableOut (tgt := 1406) dL_law_33 (Or.inr ?_) (by decide) (K S L hB)
    rw [nI_toInt (by omega)]; omega
theorem law_loop {X : Nat × (Nat → Int32)} {cn : Nat × Nat} {post : zP} (hX : X.1 ≤ 384) (hcn : cn.1 ≤ room_1.cells ∧ cn.2 ≤ room_1.slots) (h : ∀ S L, post (some (.int 1)) SK S L) : ∀ (d n : Nat) (S : zS) (L : zL), X.1 ≤ n + d → n ≤ 400 → zB S L → zV mL_law X SK S L cn 18 (lvL n) [] post := by
  intro d
  have key : ∀ n, n ≤ 400 → (nI X.1 - (6 : Int32) < nI n ↔ X.1 < n + 6) := by
    intro n hn
    rw [Int32.lt_iff_toInt_lt, i_sub (by rw [nI_toInt (by omega), show (6 : Int32).toInt = 6 by decide]; omega) (by rw [nI_toInt (by omega), show (6 : Int32).toInt = 6 by decide]; omega), nI_toInt (by omega), nI_toInt (by omega), show (6 : Int32).toInt = 6 by decide]
    omega
  have fin : ∀ n S L, zV mL_law X SK S L cn 1412 (lvL n) [] post := fun n S L => zi_iconst (v := 1) dL_law_1412 (by decide) (zv_zret dL_law_1413 rfl rfl hcn (h S L))
  induction d with
  | zero =>
    intro n S L hd hn hB
    refine zi_iload_n dL_law_18 rfl rfl (zi_aload_n dL_law_19 rfl rfl (zi_slen rfl dL_law_20 (zi_bipush (v := 6) dL_law_21 (by decide) (zi_isub dL_law_23 (zi_icmp_gt (tgt := 1412) dL_law_24 (by decide) (fun _ => fin n S L) (fun z => absurd ((key n hn).mpr (by omega)) z))))))
  | succ d ih =>
    intro n S L hd hn hB
    refine zi_iload_n dL_law_18 rfl rfl (zi_aload_n dL_law_19 rfl rfl (zi_slen rfl dL_law_20 (zi_bipush (v := 6) dL_law_21 (by decide) (zi_isub dL_law_23 (zi_icmp_gt (tgt := 1412) dL_law_24 (by decide) (fun _ => fin n S L) (fun z => ?_))))))
    have hn6 : n + 6 ≤ X.1 := by
      rcases Nat.lt_or_ge X.1 (n + 6) with y | y
      · exact absurd ((key n hn).mpr y) z
      · exact y
    refine zi_aload_n dL_law_27 rfl rfl (zi_iload_n dL_law_28 rfl rfl (zi_sld rfl (vp_in_nI (by omega) (by omega)) dL_law_29 (zi_bipush (v := 63) dL_law_30 (by decide) (zi_iand dL_law_32 ?_))))
    obtain ⟨v, hv, e⟩ := pk_andE (X.2 (nI n).toNatClampNeg) (m := 63) 6 (by decide)
    rw [e]
    refine law_sw hX hn6 hcn hB hv (fun S' L' hB' => ?_)
    refine zi_iinc (v := nI (n + 6)) dL_law_1406 rfl ?_ (by decide) rfl (zi_goto (tgt := 18) dL_law_1409 (by decide) ?_)
    · exact nI_add n 6
    · exact ih (n + 6) S' L' (by omega) (by omega) hB'
