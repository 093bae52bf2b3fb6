set_option maxHeartbeats 2000000 in
theorem b_X10_digest_0 {X : Nat × (Nat → Int32)} {S : zS} {L : zL} {P : Int64 → zS → zL → Prop} (h : zU mX10_digest X S L 6 [some (.ref 0), some (.long (17 : Int64)), none, some (.int (0 : Int32)), none] [] (zpl P)) : zU mX10_digest X S L 0 [some (.ref 0), none, none, none, none] [] (zpl P) := by
  refine zi_ldc2 (v := 17) dX10_digest_0 (zme 5 6 (by decide +kernel) rfl) ?_
  refine zi_lstore_n dX10_digest_3 rfl (by decide) rfl ?_
  refine zi_iconst (v := 0) dX10_digest_4 (by decide) ?_
  refine zi_istore_n dX10_digest_5 rfl (by decide) rfl ?_
  refine zt_drop (lv' := [some (.ref 0), some (.long (17 : Int64)), none, some (.int (0 : Int32)), none]) [true, true, false, true, false] rfl ?_
  exact h
set_option maxHeartbeats 2000000 in
theorem b_X10_digest_6 {v1 : Int64} {v3 : Int32} {X : Nat × (Nat → Int32)} {S : zS} {L : zL} {P : Int64 → zS → zL → Prop} (h : (((7 : Int32) < v3 → zCi mX10_fault S L [.ref 0, .int (0 : Int32)] (fun y1 S1 L1 => zCi mX10_fault S1 L1 [.ref 0, .int (1 : Int32)] (fun y2 S2 L2 => ∀ z1 : Int64, z1 = (((31 : Int64) * (((31 : Int64) * v1) + y1.toInt64)) + y2.toInt64) → zU mX10_digest X S2 L2 57 [some (.ref 0), some (.long z1), none, some (.int (0 : Int32)), none] [] (zpl P)))) ∧ (¬ (7 : Int32) < v3 → zCi mX10_count S L [.ref 0, .int v3] (fun y1 S1 L1 => ∀ z1 : Int64, z1 = (((31 : Int64) * v1) + y1.toInt64) → ∀ x1 : Int32, x1 = v3 + (1 : Int32) → zU mX10_digest X S1 L1 6 [some (.ref 0), some (.long z1), none, some (.int x1), none] [] (zpl P))))) : zU mX10_digest X S L 6 [some (.ref 0), some (.long v1), none, some (.int v3), none] [] (zpl P) := by
  refine zi_iload_n dX10_digest_6 rfl rfl ?_
  refine zi_bipush (v := 7) dX10_digest_7 (by decide) ?_
  refine zi_icmp_gt (tgt := 31) dX10_digest_9 (by decide) (fun q9 => ?_) (fun q9 => ?_)
  · replace h := h.1 q9
    refine zi_ldc2 (v := 31) dX10_digest_31 (zme 5 7 (by decide +kernel) rfl) ?_
    refine zi_ldc2 (v := 31) dX10_digest_34 (zme 5 7 (by decide +kernel) rfl) ?_
    refine zi_lload_n dX10_digest_37 rfl rfl ?_
    refine zi_lmul dX10_digest_38 ?_
    refine zi_aload_n dX10_digest_39 rfl rfl ?_
    refine zi_iconst (v := 0) dX10_digest_40 (by decide) ?_
    refine zt_Vi (As := [.int (0 : Int32)]) dX10_digest_41 lk_X10_311 sk0 rfl ⟨⟨by decide, by decide⟩, rfl, rfl⟩ rfl ⟨Nat.le_of_ble_eq_true rfl, rfl, rfl⟩ h (fun y1 S1 L1 h => ?_)
    refine zi_i2l dX10_digest_44 ?_
    refine zi_ladd dX10_digest_45 ?_
    refine zi_lmul dX10_digest_46 ?_
    refine zi_aload_n dX10_digest_47 rfl rfl ?_
    refine zi_iconst (v := 1) dX10_digest_48 (by decide) ?_
    refine zt_Vi (As := [.int (1 : Int32)]) dX10_digest_49 lk_X10_311 sk0 rfl ⟨⟨by decide, by decide⟩, rfl, rfl⟩ rfl ⟨Nat.le_of_ble_eq_true rfl, rfl, rfl⟩ h (fun y2 S2 L2 h => ?_)
    refine zi_i2l dX10_digest_52 ?_
    refine zi_ladd dX10_digest_53 ?_
    refine zt_nml (fun z1 ez1 => ?_)
    replace h := h z1 ez1
    refine zi_lstore_n dX10_digest_54 rfl (by decide) rfl ?_
    refine zi_iconst (v := 0) dX10_digest_55 (by decide) ?_
    refine zi_istore_n dX10_digest_56 rfl (by decide) rfl ?_
    refine zt_drop (lv' := [some (.ref 0), some (.long z1), none, some (.int (0 : Int32)), none]) [true, true, false, true, false] rfl ?_
    exact h
  · replace h := h.2 q9
    refine zi_ldc2 (v := 31) dX10_digest_12 (zme 5 7 (by decide +kernel) rfl) ?_
    refine zi_lload_n dX10_digest_15 rfl rfl ?_
    refine zi_lmul dX10_digest_16 ?_
    refine zi_aload_n dX10_digest_17 rfl rfl ?_
    refine zi_iload_n dX10_digest_18 rfl rfl ?_
    refine zt_Vi (As := [.int v3]) dX10_digest_19 lk_X10_309 sk0 rfl ⟨⟨by decide, by decide⟩, rfl, rfl⟩ rfl ⟨Nat.le_of_ble_eq_true rfl, rfl, rfl⟩ h (fun y1 S1 L1 h => ?_)
    refine zi_i2l dX10_digest_22 ?_
    refine zi_ladd dX10_digest_23 ?_
    refine zt_nml (fun z1 ez1 => ?_)
    replace h := h z1 ez1
    refine zi_lstore_n dX10_digest_24 rfl (by decide) rfl ?_
    obtain ⟨x1, ex1⟩ : ∃ y : Int32, y = v3 + (1 : Int32) := ⟨_, rfl⟩
    replace h := h x1 ex1
    refine zi_iinc (v := x1) dX10_digest_25 rfl (by rw [ex1]; rfl) (by decide) rfl ?_
    refine zi_goto (tgt := 6) dX10_digest_28 (by decide) ?_
    refine zt_drop (lv' := [some (.ref 0), some (.long z1), none, some (.int x1), none]) [true, true, false, true, false] rfl ?_
    exact h
set_option maxHeartbeats 2000000 in
theorem b_X10_digest_57 {v1 : Int64} {v3 : Int32} {X : Nat × (Nat → Int32)} {S : zS} {L : zL} {P : Int64 → zS → zL → Prop} (h : (((S 6 3) ≤ v3 → zU mX10_digest X S L 86 [some (.ref 0), some (.long v1), none, some (.int (0 : Int32)), none] [] (zpl P)) ∧ (¬ (S 6 3) ≤ v3 → zCl mX10_digestPerson S L [.ref 0, .long v1, .int v3] (fun y1 S1 L1 => ∀ x1 : Int32, x1 = v3 + (1 : Int32) → zU mX10_digest X S1 L1 57 [some (.ref 0), some (.long y1), none, some (.int x1), none] [] (zpl P))))) : zU mX10_digest X S L 57 [some (.ref 0), some (.long v1), none, some (.int v3), none] [] (zpl P) := by
  refine zi_iload_n dX10_digest_57 rfl rfl ?_
  refine zi_aload_n dX10_digest_58 rfl rfl ?_
  refine zi_getr fl_X10_36 sk0 rfl dX10_digest_59 ?_
  refine zi_getr fl_X10_117 sk5 rfl dX10_digest_62 ?_
  refine zi_geti fl_X10_151 sk6 rfl dX10_digest_65 ?_
  refine zi_icmp_ge (tgt := 84) dX10_digest_68 (by decide) (fun q9 => ?_) (fun q9 => ?_)
  · replace h := h.1 q9
    refine zi_iconst (v := 0) dX10_digest_84 (by decide) ?_
    refine zi_istore_n dX10_digest_85 rfl (by decide) rfl ?_
    refine zt_drop (lv' := [some (.ref 0), some (.long v1), none, some (.int (0 : Int32)), none]) [true, true, false, true, false] rfl ?_
    exact h
  · replace h := h.2 q9
    refine zi_aload_n dX10_digest_71 rfl rfl ?_
    refine zi_lload_n dX10_digest_72 rfl rfl ?_
    refine zi_iload_n dX10_digest_73 rfl rfl ?_
    refine zt_Vl (As := [.long v1, .int v3]) dX10_digest_74 lk_X10_314 sk0 rfl ⟨⟨by decide, by decide⟩, rfl, rfl⟩ rfl ⟨Nat.le_of_ble_eq_true rfl, rfl, rfl⟩ h (fun y1 S1 L1 h => ?_)
    refine zi_lstore_n dX10_digest_77 rfl (by decide) rfl ?_
    obtain ⟨x1, ex1⟩ : ∃ y : Int32, y = v3 + (1 : Int32) := ⟨_, rfl⟩
    replace h := h x1 ex1
    refine zi_iinc (v := x1) dX10_digest_78 rfl (by rw [ex1]; rfl) (by decide) rfl ?_
    refine zi_goto (tgt := 57) dX10_digest_81 (by decide) ?_
    refine zt_drop (lv' := [some (.ref 0), some (.long y1), none, some (.int x1), none]) [true, true, false, true, false] rfl ?_
    exact h
set_option maxHeartbeats 2000000 in
theorem b_X10_digest_86 {v1 : Int64} {v3 : Int32} {X : Nat × (Nat → Int32)} {S : zS} {L : zL} {P : Int64 → zS → zL → Prop} (h : (((S 10 3) ≤ v3 → zU mX10_digest X S L 164 [some (.ref 0), some (.long v1), none, some (.int (0 : Int32)), none] [] (zpl P)) ∧ (¬ (S 10 3) ≤ v3 → zU mX10_digest X S L 103 [some (.ref 0), some (.long v1), none, some (.int v3), some (.int (0 : Int32))] [] (zpl P)))) : zU mX10_digest X S L 86 [some (.ref 0), some (.long v1), none, some (.int v3), none] [] (zpl P) := by
  refine zi_iload_n dX10_digest_86 rfl rfl ?_
  refine zi_aload_n dX10_digest_87 rfl rfl ?_
  refine zi_getr fl_X10_36 sk0 rfl dX10_digest_88 ?_
  refine zi_getr fl_X10_130 sk5 rfl dX10_digest_91 ?_
  refine zi_geti fl_X10_151 sk10 rfl dX10_digest_94 ?_
  refine zi_icmp_ge (tgt := 162) dX10_digest_97 (by decide) (fun q9 => ?_) (fun q9 => ?_)
  · replace h := h.1 q9
    refine zi_iconst (v := 0) dX10_digest_162 (by decide) ?_
    refine zi_istore_n dX10_digest_163 rfl (by decide) rfl ?_
    refine zt_drop (lv' := [some (.ref 0), some (.long v1), none, some (.int (0 : Int32)), none]) [true, true, false, true, false] rfl ?_
    exact h
  · replace h := h.2 q9
    refine zi_iconst (v := 0) dX10_digest_100 (by decide) ?_
    refine zi_istore dX10_digest_101 (by decide) rfl ?_
    refine zt_drop (lv' := [some (.ref 0), some (.long v1), none, some (.int v3), some (.int (0 : Int32))]) [true, true, false, true, true] rfl ?_
    exact h
set_option maxHeartbeats 2000000 in
theorem b_X10_digest_164 {v1 : Int64} {v3 : Int32} {X : Nat × (Nat → Int32)} {S : zS} {L : zL} {P : Int64 → zS → zL → Prop} (h : (((4 : Int32) ≤ v3 → zCi mX10_thorn S L [.ref 0, .int (0 : Int32)] (fun y1 S1 L1 => zCi mX10_heaviest S1 L1 [.ref 0, .int (0 : Int32)] (fun y2 S2 L2 => ∀ z1 : Int64, z1 = (((31 : Int64) * (((31 : Int64) * v1) + y1.toInt64)) + y2.toInt64) → zCi mX10_thorn S2 L2 [.ref 0, .int (11 : Int32)] (fun y3 S3 L3 => zCi mX10_heaviest S3 L3 [.ref 0, .int (11 : Int32)] (fun y4 S4 L4 => ∀ z2 : Int64, z2 = (((31 : Int64) * (((31 : Int64) * z1) + y3.toInt64)) + y4.toInt64) → zCi mX10_thorn S4 L4 [.ref 0, .int (23 : Int32)] (fun y5 S5 L5 => zCi mX10_heaviest S5 L5 [.ref 0, .int (23 : Int32)] (fun y6 S6 L6 => ∀ z3 : Int64, z3 = (((31 : Int64) * (((31 : Int64) * z2) + y5.toInt64)) + y6.toInt64) → zCi mX10_tax S6 L6 [.ref 0, .int (0 : Int32)] (fun y7 S7 L7 => zCi mX10_tax S7 L7 [.ref 0, .int (1 : Int32)] (fun y8 S8 L8 => ∀ z4 : Int64, z4 = (((31 : Int64) * (((31 : Int64) * z3) + y7.toInt64)) + y8.toInt64) → zCi mX10_first S8 L8 [.ref 0, .int (0 : Int32)] (fun y9 S9 L9 => zCi mX10_first S9 L9 [.ref 0, .int (1 : Int32)] (fun y10 S10 L10 => ∀ z5 : Int64, z5 = (((31 : Int64) * (((31 : Int64) * z4) + y9.toInt64)) + y10.toInt64) → zU mX10_digest X S10 L10 361 [some (.ref 0), some (.long z5), none, some (.int (0 : Int32)), none] [] (zpl P)))))))))))) ∧ (¬ (4 : Int32) ≤ v3 → zCi mX10_cloth S L [.ref 0, .int (11 : Int32), .int v3, .int (0 : Int32)] (fun y1 S1 L1 => zCi mX10_cloth S1 L1 [.ref 0, .int (11 : Int32), .int v3, .int (1 : Int32)] (fun y2 S2 L2 => ∀ z1 : Int64, z1 = (((31 : Int64) * (((31 : Int64) * v1) + y1.toInt64)) + y2.toInt64) → zCi mX10_cloth S2 L2 [.ref 0, .int (23 : Int32), .int v3, .int (0 : Int32)] (fun y3 S3 L3 => zCi mX10_cloth S3 L3 [.ref 0, .int (23 : Int32), .int v3, .int (1 : Int32)] (fun y4 S4 L4 => ∀ z2 : Int64, z2 = (((31 : Int64) * (((31 : Int64) * z1) + y3.toInt64)) + y4.toInt64) → ∀ x1 : Int32, x1 = v3 + (1 : Int32) → zU mX10_digest X S4 L4 164 [some (.ref 0), some (.long z2), none, some (.int x1), none] [] (zpl P)))))))) : zU mX10_digest X S L 164 [some (.ref 0), some (.long v1), none, some (.int v3), none] [] (zpl P) := by
  refine zi_iload_n dX10_digest_164 rfl rfl ?_
  refine zi_iconst (v := 4) dX10_digest_165 (by decide) ?_
  refine zi_icmp_ge (tgt := 235) dX10_digest_166 (by decide) (fun q9 => ?_) (fun q9 => ?_)
  · replace h := h.1 q9
    refine zi_ldc2 (v := 31) dX10_digest_235 (zme 5 7 (by decide +kernel) rfl) ?_
    refine zi_ldc2 (v := 31) dX10_digest_238 (zme 5 7 (by decide +kernel) rfl) ?_
    refine zi_lload_n dX10_digest_241 rfl rfl ?_
    refine zi_lmul dX10_digest_242 ?_
    refine zi_aload_n dX10_digest_243 rfl rfl ?_
    refine zi_iconst (v := 0) dX10_digest_244 (by decide) ?_
    refine zt_Vi (As := [.int (0 : Int32)]) dX10_digest_245 lk_X10_327 sk0 rfl ⟨⟨by decide, by decide⟩, rfl, rfl⟩ rfl ⟨Nat.le_of_ble_eq_true rfl, rfl, rfl⟩ h (fun y1 S1 L1 h => ?_)
    refine zi_i2l dX10_digest_248 ?_
    refine zi_ladd dX10_digest_249 ?_
    refine zi_lmul dX10_digest_250 ?_
    refine zi_aload_n dX10_digest_251 rfl rfl ?_
    refine zi_iconst (v := 0) dX10_digest_252 (by decide) ?_
    refine zt_Vi (As := [.int (0 : Int32)]) dX10_digest_253 lk_X10_330 sk0 rfl ⟨⟨by decide, by decide⟩, rfl, rfl⟩ rfl ⟨Nat.le_of_ble_eq_true rfl, rfl, rfl⟩ h (fun y2 S2 L2 h => ?_)
    refine zi_i2l dX10_digest_256 ?_
    refine zi_ladd dX10_digest_257 ?_
    refine zt_nml (fun z1 ez1 => ?_)
    replace h := h z1 ez1
    refine zi_lstore_n dX10_digest_258 rfl (by decide) rfl ?_
    refine zi_ldc2 (v := 31) dX10_digest_259 (zme 5 7 (by decide +kernel) rfl) ?_
    refine zi_ldc2 (v := 31) dX10_digest_262 (zme 5 7 (by decide +kernel) rfl) ?_
    refine zi_lload_n dX10_digest_265 rfl rfl ?_
    refine zi_lmul dX10_digest_266 ?_
    refine zi_aload_n dX10_digest_267 rfl rfl ?_
    refine zi_bipush (v := 11) dX10_digest_268 (by decide) ?_
    refine zt_Vi (As := [.int (11 : Int32)]) dX10_digest_270 lk_X10_327 sk0 rfl ⟨⟨by decide, by decide⟩, rfl, rfl⟩ rfl ⟨Nat.le_of_ble_eq_true rfl, rfl, rfl⟩ h (fun y3 S3 L3 h => ?_)
    refine zi_i2l dX10_digest_273 ?_
    refine zi_ladd dX10_digest_274 ?_
    refine zi_lmul dX10_digest_275 ?_
    refine zi_aload_n dX10_digest_276 rfl rfl ?_
    refine zi_bipush (v := 11) dX10_digest_277 (by decide) ?_
    refine zt_Vi (As := [.int (11 : Int32)]) dX10_digest_279 lk_X10_330 sk0 rfl ⟨⟨by decide, by decide⟩, rfl, rfl⟩ rfl ⟨Nat.le_of_ble_eq_true rfl, rfl, rfl⟩ h (fun y4 S4 L4 h => ?_)
    refine zi_i2l dX10_digest_282 ?_
    refine zi_ladd dX10_digest_283 ?_
    refine zt_nml (fun z2 ez2 => ?_)
    replace h := h z2 ez2
    refine zi_lstore_n dX10_digest_284 rfl (by decide) rfl ?_
    refine zi_ldc2 (v := 31) dX10_digest_285 (zme 5 7 (by decide +kernel) rfl) ?_
    refine zi_ldc2 (v := 31) dX10_digest_288 (zme 5 7 (by decide +kernel) rfl) ?_
    refine zi_lload_n dX10_digest_291 rfl rfl ?_
    refine zi_lmul dX10_digest_292 ?_
    refine zi_aload_n dX10_digest_293 rfl rfl ?_
    refine zi_bipush (v := 23) dX10_digest_294 (by decide) ?_
    refine zt_Vi (As := [.int (23 : Int32)]) dX10_digest_296 lk_X10_327 sk0 rfl ⟨⟨by decide, by decide⟩, rfl, rfl⟩ rfl ⟨Nat.le_of_ble_eq_true rfl, rfl, rfl⟩ h (fun y5 S5 L5 h => ?_)
    refine zi_i2l dX10_digest_299 ?_
    refine zi_ladd dX10_digest_300 ?_
    refine zi_lmul dX10_digest_301 ?_
    refine zi_aload_n dX10_digest_302 rfl rfl ?_
    refine zi_bipush (v := 23) dX10_digest_303 (by decide) ?_
    refine zt_Vi (As := [.int (23 : Int32)]) dX10_digest_305 lk_X10_330 sk0 rfl ⟨⟨by decide, by decide⟩, rfl, rfl⟩ rfl ⟨Nat.le_of_ble_eq_true rfl, rfl, rfl⟩ h (fun y6 S6 L6 h => ?_)
    refine zi_i2l dX10_digest_308 ?_
    refine zi_ladd dX10_digest_309 ?_
    refine zt_nml (fun z3 ez3 => ?_)
    replace h := h z3 ez3
    refine zi_lstore_n dX10_digest_310 rfl (by decide) rfl ?_
    refine zi_ldc2 (v := 31) dX10_digest_311 (zme 5 7 (by decide +kernel) rfl) ?_
    refine zi_ldc2 (v := 31) dX10_digest_314 (zme 5 7 (by decide +kernel) rfl) ?_
    refine zi_lload_n dX10_digest_317 rfl rfl ?_
    refine zi_lmul dX10_digest_318 ?_
    refine zi_aload_n dX10_digest_319 rfl rfl ?_
    refine zi_iconst (v := 0) dX10_digest_320 (by decide) ?_
    refine zt_Vi (As := [.int (0 : Int32)]) dX10_digest_321 lk_X10_333 sk0 rfl ⟨⟨by decide, by decide⟩, rfl, rfl⟩ rfl ⟨Nat.le_of_ble_eq_true rfl, rfl, rfl⟩ h (fun y7 S7 L7 h => ?_)
    refine zi_i2l dX10_digest_324 ?_
    refine zi_ladd dX10_digest_325 ?_
    refine zi_lmul dX10_digest_326 ?_
    refine zi_aload_n dX10_digest_327 rfl rfl ?_
    refine zi_iconst (v := 1) dX10_digest_328 (by decide) ?_
    refine zt_Vi (As := [.int (1 : Int32)]) dX10_digest_329 lk_X10_333 sk0 rfl ⟨⟨by decide, by decide⟩, rfl, rfl⟩ rfl ⟨Nat.le_of_ble_eq_true rfl, rfl, rfl⟩ h (fun y8 S8 L8 h => ?_)
    refine zi_i2l dX10_digest_332 ?_
    refine zi_ladd dX10_digest_333 ?_
    refine zt_nml (fun z4 ez4 => ?_)
    replace h := h z4 ez4
    refine zi_lstore_n dX10_digest_334 rfl (by decide) rfl ?_
    refine zi_ldc2 (v := 31) dX10_digest_335 (zme 5 7 (by decide +kernel) rfl) ?_
    refine zi_ldc2 (v := 31) dX10_digest_338 (zme 5 7 (by decide +kernel) rfl) ?_
    refine zi_lload_n dX10_digest_341 rfl rfl ?_
    refine zi_lmul dX10_digest_342 ?_
    refine zi_aload_n dX10_digest_343 rfl rfl ?_
    refine zi_iconst (v := 0) dX10_digest_344 (by decide) ?_
    refine zt_Vi (As := [.int (0 : Int32)]) dX10_digest_345 lk_X10_336 sk0 rfl ⟨⟨by decide, by decide⟩, rfl, rfl⟩ rfl ⟨Nat.le_of_ble_eq_true rfl, rfl, rfl⟩ h (fun y9 S9 L9 h => ?_)
    refine zi_i2l dX10_digest_348 ?_
    refine zi_ladd dX10_digest_349 ?_
    refine zi_lmul dX10_digest_350 ?_
    refine zi_aload_n dX10_digest_351 rfl rfl ?_
    refine zi_iconst (v := 1) dX10_digest_352 (by decide) ?_
    refine zt_Vi (As := [.int (1 : Int32)]) dX10_digest_353 lk_X10_336 sk0 rfl ⟨⟨by decide, by decide⟩, rfl, rfl⟩ rfl ⟨Nat.le_of_ble_eq_true rfl, rfl, rfl⟩ h (fun y10 S10 L10 h => ?_)
    refine zi_i2l dX10_digest_356 ?_
    refine zi_ladd dX10_digest_357 ?_
    refine zt_nml (fun z5 ez5 => ?_)
    replace h := h z5 ez5
    refine zi_lstore_n dX10_digest_358 rfl (by decide) rfl ?_
    refine zi_iconst (v := 0) dX10_digest_359 (by decide) ?_
    refine zi_istore_n dX10_digest_360 rfl (by decide) rfl ?_
    refine zt_drop (lv' := [some (.ref 0), some (.long z5), none, some (.int (0 : Int32)), none]) [true, true, false, true, false] rfl ?_
    exact h
  · replace h := h.2 q9
    refine zi_ldc2 (v := 31) dX10_digest_169 (zme 5 7 (by decide +kernel) rfl) ?_
    refine zi_ldc2 (v := 31) dX10_digest_172 (zme 5 7 (by decide +kernel) rfl) ?_
    refine zi_lload_n dX10_digest_175 rfl rfl ?_
    refine zi_lmul dX10_digest_176 ?_
    refine zi_aload_n dX10_digest_177 rfl rfl ?_
    refine zi_bipush (v := 11) dX10_digest_178 (by decide) ?_
    refine zi_iload_n dX10_digest_180 rfl rfl ?_
    refine zi_iconst (v := 0) dX10_digest_181 (by decide) ?_
    refine zt_Vi (As := [.int (11 : Int32), .int v3, .int (0 : Int32)]) dX10_digest_182 lk_X10_324 sk0 rfl ⟨⟨by decide, by decide⟩, rfl, rfl⟩ rfl ⟨Nat.le_of_ble_eq_true rfl, rfl, rfl⟩ h (fun y1 S1 L1 h => ?_)
    refine zi_i2l dX10_digest_185 ?_
    refine zi_ladd dX10_digest_186 ?_
    refine zi_lmul dX10_digest_187 ?_
    refine zi_aload_n dX10_digest_188 rfl rfl ?_
    refine zi_bipush (v := 11) dX10_digest_189 (by decide) ?_
    refine zi_iload_n dX10_digest_191 rfl rfl ?_
    refine zi_iconst (v := 1) dX10_digest_192 (by decide) ?_
    refine zt_Vi (As := [.int (11 : Int32), .int v3, .int (1 : Int32)]) dX10_digest_193 lk_X10_324 sk0 rfl ⟨⟨by decide, by decide⟩, rfl, rfl⟩ rfl ⟨Nat.le_of_ble_eq_true rfl, rfl, rfl⟩ h (fun y2 S2 L2 h => ?_)
    refine zi_i2l dX10_digest_196 ?_
    refine zi_ladd dX10_digest_197 ?_
    refine zt_nml (fun z1 ez1 => ?_)
    replace h := h z1 ez1
    refine zi_lstore_n dX10_digest_198 rfl (by decide) rfl ?_
    refine zi_ldc2 (v := 31) dX10_digest_199 (zme 5 7 (by decide +kernel) rfl) ?_
    refine zi_ldc2 (v := 31) dX10_digest_202 (zme 5 7 (by decide +kernel) rfl) ?_
    refine zi_lload_n dX10_digest_205 rfl rfl ?_
    refine zi_lmul dX10_digest_206 ?_
    refine zi_aload_n dX10_digest_207 rfl rfl ?_
    refine zi_bipush (v := 23) dX10_digest_208 (by decide) ?_
    refine zi_iload_n dX10_digest_210 rfl rfl ?_
    refine zi_iconst (v := 0) dX10_digest_211 (by decide) ?_
    refine zt_Vi (As := [.int (23 : Int32), .int v3, .int (0 : Int32)]) dX10_digest_212 lk_X10_324 sk0 rfl ⟨⟨by decide, by decide⟩, rfl, rfl⟩ rfl ⟨Nat.le_of_ble_eq_true rfl, rfl, rfl⟩ h (fun y3 S3 L3 h => ?_)
    refine zi_i2l dX10_digest_215 ?_
    refine zi_ladd dX10_digest_216 ?_
    refine zi_lmul dX10_digest_217 ?_
    refine zi_aload_n dX10_digest_218 rfl rfl ?_
    refine zi_bipush (v := 23) dX10_digest_219 (by decide) ?_
    refine zi_iload_n dX10_digest_221 rfl rfl ?_
    refine zi_iconst (v := 1) dX10_digest_222 (by decide) ?_
    refine zt_Vi (As := [.int (23 : Int32), .int v3, .int (1 : Int32)]) dX10_digest_223 lk_X10_324 sk0 rfl ⟨⟨by decide, by decide⟩, rfl, rfl⟩ rfl ⟨Nat.le_of_ble_eq_true rfl, rfl, rfl⟩ h (fun y4 S4 L4 h => ?_)
    refine zi_i2l dX10_digest_226 ?_
    refine zi_ladd dX10_digest_227 ?_
    refine zt_nml (fun z2 ez2 => ?_)
    replace h := h z2 ez2
    refine zi_lstore_n dX10_digest_228 rfl (by decide) rfl ?_
    obtain ⟨x1, ex1⟩ : ∃ y : Int32, y = v3 + (1 : Int32) := ⟨_, rfl⟩
    replace h := h x1 ex1
    refine zi_iinc (v := x1) dX10_digest_229 rfl (by rw [ex1]; rfl) (by decide) rfl ?_
    refine zi_goto (tgt := 164) dX10_digest_232 (by decide) ?_
    refine zt_drop (lv' := [some (.ref 0), some (.long z2), none, some (.int x1), none]) [true, true, false, true, false] rfl ?_
    exact h
set_option maxHeartbeats 2000000 in
theorem b_X10_digest_103 {v1 : Int64} {v3 : Int32} {v4 : Int32} {X : Nat × (Nat → Int32)} {S : zS} {L : zL} {P : Int64 → zS → zL → Prop} (h : (((2 : Int32) < v4 → zCi mX10_was S L [.ref 0, .int v3, .int (0 : Int32)] (fun y1 S1 L1 => zCi mX10_was S1 L1 [.ref 0, .int v3, .int (1 : Int32)] (fun y2 S2 L2 => ∀ z1 : Int64, z1 = (((31 : Int64) * (((31 : Int64) * v1) + y1.toInt64)) + y2.toInt64) → ∀ x1 : Int32, x1 = v3 + (1 : Int32) → zU mX10_digest X S2 L2 86 [some (.ref 0), some (.long z1), none, some (.int x1), none] [] (zpl P)))) ∧ (¬ (2 : Int32) < v4 → zCi mX10_deed S L [.ref 0, .int v3, .int v4] (fun y1 S1 L1 => ∀ z1 : Int64, z1 = (((31 : Int64) * v1) + y1.toInt64) → ∀ x1 : Int32, x1 = v4 + (1 : Int32) → zU mX10_digest X S1 L1 103 [some (.ref 0), some (.long z1), none, some (.int v3), some (.int x1)] [] (zpl P))))) : zU mX10_digest X S L 103 [some (.ref 0), some (.long v1), none, some (.int v3), some (.int v4)] [] (zpl P) := by
  refine zi_iload dX10_digest_103 rfl ?_
  refine zi_iconst (v := 2) dX10_digest_105 (by decide) ?_
  refine zi_icmp_gt (tgt := 130) dX10_digest_106 (by decide) (fun q9 => ?_) (fun q9 => ?_)
  · replace h := h.1 q9
    refine zi_ldc2 (v := 31) dX10_digest_130 (zme 5 7 (by decide +kernel) rfl) ?_
    refine zi_ldc2 (v := 31) dX10_digest_133 (zme 5 7 (by decide +kernel) rfl) ?_
    refine zi_lload_n dX10_digest_136 rfl rfl ?_
    refine zi_lmul dX10_digest_137 ?_
    refine zi_aload_n dX10_digest_138 rfl rfl ?_
    refine zi_iload_n dX10_digest_139 rfl rfl ?_
    refine zi_iconst (v := 0) dX10_digest_140 (by decide) ?_
    refine zt_Vi (As := [.int v3, .int (0 : Int32)]) dX10_digest_141 lk_X10_321 sk0 rfl ⟨⟨by decide, by decide⟩, rfl, rfl⟩ rfl ⟨Nat.le_of_ble_eq_true rfl, rfl, rfl⟩ h (fun y1 S1 L1 h => ?_)
    refine zi_i2l dX10_digest_144 ?_
    refine zi_ladd dX10_digest_145 ?_
    refine zi_lmul dX10_digest_146 ?_
    refine zi_aload_n dX10_digest_147 rfl rfl ?_
    refine zi_iload_n dX10_digest_148 rfl rfl ?_
    refine zi_iconst (v := 1) dX10_digest_149 (by decide) ?_
    refine zt_Vi (As := [.int v3, .int (1 : Int32)]) dX10_digest_150 lk_X10_321 sk0 rfl ⟨⟨by decide, by decide⟩, rfl, rfl⟩ rfl ⟨Nat.le_of_ble_eq_true rfl, rfl, rfl⟩ h (fun y2 S2 L2 h => ?_)
    refine zi_i2l dX10_digest_153 ?_
    refine zi_ladd dX10_digest_154 ?_
    refine zt_nml (fun z1 ez1 => ?_)
    replace h := h z1 ez1
    refine zi_lstore_n dX10_digest_155 rfl (by decide) rfl ?_
    obtain ⟨x1, ex1⟩ : ∃ y : Int32, y = v3 + (1 : Int32) := ⟨_, rfl⟩
    replace h := h x1 ex1
    refine zi_iinc (v := x1) dX10_digest_156 rfl (by rw [ex1]; rfl) (by decide) rfl ?_
    refine zi_goto (tgt := 86) dX10_digest_159 (by decide) ?_
    refine zt_drop (lv' := [some (.ref 0), some (.long z1), none, some (.int x1), none]) [true, true, false, true, false] rfl ?_
    exact h
  · replace h := h.2 q9
    refine zi_ldc2 (v := 31) dX10_digest_109 (zme 5 7 (by decide +kernel) rfl) ?_
    refine zi_lload_n dX10_digest_112 rfl rfl ?_
    refine zi_lmul dX10_digest_113 ?_
    refine zi_aload_n dX10_digest_114 rfl rfl ?_
    refine zi_iload_n dX10_digest_115 rfl rfl ?_
    refine zi_iload dX10_digest_116 rfl ?_
    refine zt_Vi (As := [.int v3, .int v4]) dX10_digest_118 lk_X10_318 sk0 rfl ⟨⟨by decide, by decide⟩, rfl, rfl⟩ rfl ⟨Nat.le_of_ble_eq_true rfl, rfl, rfl⟩ h (fun y1 S1 L1 h => ?_)
    refine zi_i2l dX10_digest_121 ?_
    refine zi_ladd dX10_digest_122 ?_
    refine zt_nml (fun z1 ez1 => ?_)
    replace h := h z1 ez1
    refine zi_lstore_n dX10_digest_123 rfl (by decide) rfl ?_
    obtain ⟨x1, ex1⟩ : ∃ y : Int32, y = v4 + (1 : Int32) := ⟨_, rfl⟩
    replace h := h x1 ex1
    refine zi_iinc (v := x1) dX10_digest_124 rfl (by rw [ex1]; rfl) (by decide) rfl ?_
    refine zi_goto (tgt := 103) dX10_digest_127 (by decide) ?_
    refine zt_drop (lv' := [some (.ref 0), some (.long z1), none, some (.int v3), some (.int x1)]) [true, true, false, true, true] rfl ?_
    exact h
set_option maxHeartbeats 2000000 in
theorem b_X10_digest_361 {v1 : Int64} {v3 : Int32} {X : Nat × (Nat → Int32)} {S : zS} {L : zL} {P : Int64 → zS → zL → Prop} (h : (((2 : Int32) < v3 → zCi mX10_spare S L [.ref 0, .int (-1 : Int32)] (fun y1 S1 L1 => zCi mX10_spare S1 L1 [.ref 0, .int (0 : Int32)] (fun y2 S2 L2 => ∀ z1 : Int64, z1 = (((31 : Int64) * (((31 : Int64) * v1) + y1.toInt64)) + y2.toInt64) → zCi mX10_never S2 L2 [.ref 0] (fun y3 S3 L3 => ∀ z2 : Int64, z2 = (((31 : Int64) * z1) + y3.toInt64) → zCi mX10_years S3 L3 [.ref 0, .int (7 : Int32), .int (9 : Int32), .int (0 : Int32)] (fun y4 S4 L4 => zCi mX10_years S4 L4 [.ref 0, .int (7 : Int32), .int (9 : Int32), .int (1 : Int32)] (fun y5 S5 L5 => P (((31 : Int64) * (((31 : Int64) * z2) + y4.toInt64)) + y5.toInt64) S5 L5)))))) ∧ (¬ (2 : Int32) < v3 → zCi mX10_plan S L [.ref 0, .int (2 : Int32), .int v3] (fun y1 S1 L1 => ∀ z1 : Int64, z1 = (((31 : Int64) * v1) + y1.toInt64) → ∀ x1 : Int32, x1 = v3 + (1 : Int32) → zU mX10_digest X S1 L1 361 [some (.ref 0), some (.long z1), none, some (.int x1), none] [] (zpl P))))) : zU mX10_digest X S L 361 [some (.ref 0), some (.long v1), none, some (.int v3), none] [] (zpl P) := by
  refine zi_iload_n dX10_digest_361 rfl rfl ?_
  refine zi_iconst (v := 2) dX10_digest_362 (by decide) ?_
  refine zi_icmp_gt (tgt := 386) dX10_digest_363 (by decide) (fun q9 => ?_) (fun q9 => ?_)
  · replace h := h.1 q9
    refine zi_ldc2 (v := 31) dX10_digest_386 (zme 5 7 (by decide +kernel) rfl) ?_
    refine zi_ldc2 (v := 31) dX10_digest_389 (zme 5 7 (by decide +kernel) rfl) ?_
    refine zi_lload_n dX10_digest_392 rfl rfl ?_
    refine zi_lmul dX10_digest_393 ?_
    refine zi_aload_n dX10_digest_394 rfl rfl ?_
    refine zi_iconst (v := -1) dX10_digest_395 (by decide) ?_
    refine zt_Vi (As := [.int (-1 : Int32)]) dX10_digest_396 lk_X10_342 sk0 rfl ⟨⟨by decide, by decide⟩, rfl, rfl⟩ rfl ⟨Nat.le_of_ble_eq_true rfl, rfl, rfl⟩ h (fun y1 S1 L1 h => ?_)
    refine zi_i2l dX10_digest_399 ?_
    refine zi_ladd dX10_digest_400 ?_
    refine zi_lmul dX10_digest_401 ?_
    refine zi_aload_n dX10_digest_402 rfl rfl ?_
    refine zi_iconst (v := 0) dX10_digest_403 (by decide) ?_
    refine zt_Vi (As := [.int (0 : Int32)]) dX10_digest_404 lk_X10_342 sk0 rfl ⟨⟨by decide, by decide⟩, rfl, rfl⟩ rfl ⟨Nat.le_of_ble_eq_true rfl, rfl, rfl⟩ h (fun y2 S2 L2 h => ?_)
    refine zi_i2l dX10_digest_407 ?_
    refine zi_ladd dX10_digest_408 ?_
    refine zt_nml (fun z1 ez1 => ?_)
    replace h := h z1 ez1
    refine zi_lstore_n dX10_digest_409 rfl (by decide) rfl ?_
    refine zi_ldc2 (v := 31) dX10_digest_410 (zme 5 7 (by decide +kernel) rfl) ?_
    refine zi_lload_n dX10_digest_413 rfl rfl ?_
    refine zi_lmul dX10_digest_414 ?_
    refine zi_aload_n dX10_digest_415 rfl rfl ?_
    refine zt_Vi (As := []) dX10_digest_416 lk_X10_345 sk0 rfl ⟨⟨by decide, by decide⟩, rfl, rfl⟩ rfl ⟨Nat.le_of_ble_eq_true rfl, rfl, rfl⟩ h (fun y3 S3 L3 h => ?_)
    refine zi_i2l dX10_digest_419 ?_
    refine zi_ladd dX10_digest_420 ?_
    refine zt_nml (fun z2 ez2 => ?_)
    replace h := h z2 ez2
    refine zi_lstore_n dX10_digest_421 rfl (by decide) rfl ?_
    refine zi_ldc2 (v := 31) dX10_digest_422 (zme 5 7 (by decide +kernel) rfl) ?_
    refine zi_ldc2 (v := 31) dX10_digest_425 (zme 5 7 (by decide +kernel) rfl) ?_
    refine zi_lload_n dX10_digest_428 rfl rfl ?_
    refine zi_lmul dX10_digest_429 ?_
    refine zi_aload_n dX10_digest_430 rfl rfl ?_
    refine zi_bipush (v := 7) dX10_digest_431 (by decide) ?_
    refine zi_bipush (v := 9) dX10_digest_433 (by decide) ?_
    refine zi_iconst (v := 0) dX10_digest_435 (by decide) ?_
    refine zt_Vi (As := [.int (7 : Int32), .int (9 : Int32), .int (0 : Int32)]) dX10_digest_436 lk_X10_347 sk0 rfl ⟨⟨by decide, by decide⟩, rfl, rfl⟩ rfl ⟨Nat.le_of_ble_eq_true rfl, rfl, rfl⟩ h (fun y4 S4 L4 h => ?_)
    refine zi_i2l dX10_digest_439 ?_
    refine zi_ladd dX10_digest_440 ?_
    refine zi_lmul dX10_digest_441 ?_
    refine zi_aload_n dX10_digest_442 rfl rfl ?_
    refine zi_bipush (v := 7) dX10_digest_443 (by decide) ?_
    refine zi_bipush (v := 9) dX10_digest_445 (by decide) ?_
    refine zi_iconst (v := 1) dX10_digest_447 (by decide) ?_
    refine zt_Vi (As := [.int (7 : Int32), .int (9 : Int32), .int (1 : Int32)]) dX10_digest_448 lk_X10_347 sk0 rfl ⟨⟨by decide, by decide⟩, rfl, rfl⟩ rfl ⟨Nat.le_of_ble_eq_true rfl, rfl, rfl⟩ h (fun y5 S5 L5 h => ?_)
    refine zi_i2l dX10_digest_451 ?_
    refine zi_ladd dX10_digest_452 ?_
    exact zt_lret dX10_digest_453 rfl h
  · replace h := h.2 q9
    refine zi_ldc2 (v := 31) dX10_digest_366 (zme 5 7 (by decide +kernel) rfl) ?_
    refine zi_lload_n dX10_digest_369 rfl rfl ?_
    refine zi_lmul dX10_digest_370 ?_
    refine zi_aload_n dX10_digest_371 rfl rfl ?_
    refine zi_iconst (v := 2) dX10_digest_372 (by decide) ?_
    refine zi_iload_n dX10_digest_373 rfl rfl ?_
    refine zt_Vi (As := [.int (2 : Int32), .int v3]) dX10_digest_374 lk_X10_339 sk0 rfl ⟨⟨by decide, by decide⟩, rfl, rfl⟩ rfl ⟨Nat.le_of_ble_eq_true rfl, rfl, rfl⟩ h (fun y1 S1 L1 h => ?_)
    refine zi_i2l dX10_digest_377 ?_
    refine zi_ladd dX10_digest_378 ?_
    refine zt_nml (fun z1 ez1 => ?_)
    replace h := h z1 ez1
    refine zi_lstore_n dX10_digest_379 rfl (by decide) rfl ?_
    obtain ⟨x1, ex1⟩ : ∃ y : Int32, y = v3 + (1 : Int32) := ⟨_, rfl⟩
    replace h := h x1 ex1
    refine zi_iinc (v := x1) dX10_digest_380 rfl (by rw [ex1]; rfl) (by decide) rfl ?_
    refine zi_goto (tgt := 361) dX10_digest_383 (by decide) ?_
    refine zt_drop (lv' := [some (.ref 0), some (.long z1), none, some (.int x1), none]) [true, true, false, true, false] rfl ?_
    exact h
theorem e_X10_digest {S : zS} {L : zL} {P : Int64 → zS → zL → Prop} (h : ∀ X, zU mX10_digest X S L 0 [some (.ref 0), none, none, none, none] [] (zpl P)) : zCl mX10_digest S L [.ref 0] P := zCl_of pn_X10_digest (Nat.le_of_ble_eq_true rfl) (fun X => zt_pad (j := 4) rfl (h X))
set_option maxHeartbeats 2000000 in
theorem b_X10_digestPerson_0 {before : Int64} {p : Int32} {X : Nat × (Nat → Int32)} {S : zS} {L : zL} {P : Int64 → zS → zL → Prop} (h : zU mX10_digestPerson X S L 6 [some (.ref 0), none, none, some (.int p), some (.long before), none, some (.int (0 : Int32)), none, none] [] (zpl P)) : zU mX10_digestPerson X S L 0 [some (.ref 0), some (.long before), none, some (.int p), none, none, none, none, none] [] (zpl P) := by
  refine zi_lload_n dX10_digestPerson_0 rfl rfl ?_
  refine zi_lstore dX10_digestPerson_1 (by decide) rfl ?_
  refine zi_iconst (v := 0) dX10_digestPerson_3 (by decide) ?_
  refine zi_istore dX10_digestPerson_4 (by decide) rfl ?_
  refine zt_drop (lv' := [some (.ref 0), none, none, some (.int p), some (.long before), none, some (.int (0 : Int32)), none, none]) [true, false, false, true, true, false, true, false, false] rfl ?_
  exact h
set_option maxHeartbeats 2000000 in
theorem b_X10_digestPerson_6 {v3 : Int32} {v4 : Int64} {v6 : Int32} {X : Nat × (Nat → Int32)} {S : zS} {L : zL} {P : Int64 → zS → zL → Prop} (h : (((2 : Int32) < v6 → zU mX10_digestPerson X S L 38 [some (.ref 0), none, none, some (.int v3), some (.long v4), none, some (.int (0 : Int32)), none, none] [] (zpl P)) ∧ (¬ (2 : Int32) < v6 → zCi mX10_person S L [.ref 0, .int v3, .int v6] (fun y1 S1 L1 => ∀ z1 : Int64, z1 = (((31 : Int64) * v4) + y1.toInt64) → ∀ x1 : Int32, x1 = v6 + (1 : Int32) → zU mX10_digestPerson X S1 L1 6 [some (.ref 0), none, none, some (.int v3), some (.long z1), none, some (.int x1), none, none] [] (zpl P))))) : zU mX10_digestPerson X S L 6 [some (.ref 0), none, none, some (.int v3), some (.long v4), none, some (.int v6), none, none] [] (zpl P) := by
  refine zi_iload dX10_digestPerson_6 rfl ?_
  refine zi_iconst (v := 2) dX10_digestPerson_8 (by decide) ?_
  refine zi_icmp_gt (tgt := 35) dX10_digestPerson_9 (by decide) (fun q9 => ?_) (fun q9 => ?_)
  · replace h := h.1 q9
    refine zi_iconst (v := 0) dX10_digestPerson_35 (by decide) ?_
    refine zi_istore dX10_digestPerson_36 (by decide) rfl ?_
    refine zt_drop (lv' := [some (.ref 0), none, none, some (.int v3), some (.long v4), none, some (.int (0 : Int32)), none, none]) [true, false, false, true, true, false, true, false, false] rfl ?_
    exact h
  · replace h := h.2 q9
    refine zi_ldc2 (v := 31) dX10_digestPerson_12 (zme 5 7 (by decide +kernel) rfl) ?_
    refine zi_lload dX10_digestPerson_15 rfl ?_
    refine zi_lmul dX10_digestPerson_17 ?_
    refine zi_aload_n dX10_digestPerson_18 rfl rfl ?_
    refine zi_iload_n dX10_digestPerson_19 rfl rfl ?_
    refine zi_iload dX10_digestPerson_20 rfl ?_
    refine zt_Vi (As := [.int v3, .int v6]) dX10_digestPerson_22 lk_X10_350 sk0 rfl ⟨⟨by decide, by decide⟩, rfl, rfl⟩ rfl ⟨Nat.le_of_ble_eq_true rfl, rfl, rfl⟩ h (fun y1 S1 L1 h => ?_)
    refine zi_i2l dX10_digestPerson_25 ?_
    refine zi_ladd dX10_digestPerson_26 ?_
    refine zt_nml (fun z1 ez1 => ?_)
    replace h := h z1 ez1
    refine zi_lstore dX10_digestPerson_27 (by decide) rfl ?_
    obtain ⟨x1, ex1⟩ : ∃ y : Int32, y = v6 + (1 : Int32) := ⟨_, rfl⟩
    replace h := h x1 ex1
    refine zi_iinc (v := x1) dX10_digestPerson_29 rfl (by rw [ex1]; rfl) (by decide) rfl ?_
    refine zi_goto (tgt := 6) dX10_digestPerson_32 (by decide) ?_
    refine zt_drop (lv' := [some (.ref 0), none, none, some (.int v3), some (.long z1), none, some (.int x1), none, none]) [true, false, false, true, true, false, true, false, false] rfl ?_
    exact h
set_option maxHeartbeats 2000000 in
theorem b_X10_digestPerson_38 {v3 : Int32} {v4 : Int64} {v6 : Int32} {X : Nat × (Nat → Int32)} {S : zS} {L : zL} {P : Int64 → zS → zL → Prop} (h : (((4 : Int32) ≤ v6 → zCi mX10_dies S L [.ref 0, .int v3] (fun y1 S1 L1 => ∀ z1 : Int64, z1 = (((31 : Int64) * v4) + y1.toInt64) → zCi mX10_light S1 L1 [.ref 0, .int v3, .int (9 : Int32), .int (-1 : Int32)] (fun y2 S2 L2 => zCi mX10_light S2 L2 [.ref 0, .int v3, .int (9 : Int32), .int (0 : Int32)] (fun y3 S3 L3 => ∀ z2 : Int64, z2 = (((31 : Int64) * (((31 : Int64) * z1) + y2.toInt64)) + y3.toInt64) → zCi mX10_home S3 L3 [.ref 0, .int v3, .int (0 : Int32)] (fun y4 S4 L4 => zCi mX10_home S4 L4 [.ref 0, .int v3, .int (1 : Int32)] (fun y5 S5 L5 => ∀ z3 : Int64, z3 = (((31 : Int64) * (((31 : Int64) * z2) + y4.toInt64)) + y5.toInt64) → zCi mX10_ask S5 L5 [.ref 0, .int v3] (fun y6 S6 L6 => ∀ z4 : Int64, z4 = (((31 : Int64) * z3) + y6.toInt64) → zCl mX10_virtue S6 L6 [.ref 0, .int (5 : Int32), .int (5 : Int32), .int v3, .int (0 : Int32)] (fun y7 S7 L7 => zCl mX10_virtue S7 L7 [.ref 0, .int (5 : Int32), .int (5 : Int32), .int v3, .int (1 : Int32)] (fun y8 S8 L8 => P (((31 : Int64) * (((31 : Int64) * z4) + y7)) + y8) S8 L8))))))))) ∧ (¬ (4 : Int32) ≤ v6 → ((¬ v6 = 0 → ((¬ v6 = (1 : Int32) → ((¬ v6 = (2 : Int32) → zU mX10_digestPerson X S L 81 [some (.ref 0), none, none, some (.int v3), some (.long v4), none, some (.int v6), some (.int (23 : Int32)), some (.int (0 : Int32))] [] (zpl P)) ∧ (v6 = (2 : Int32) → zU mX10_digestPerson X S L 81 [some (.ref 0), none, none, some (.int v3), some (.long v4), none, some (.int v6), some (.int (11 : Int32)), some (.int (0 : Int32))] [] (zpl P)))) ∧ (v6 = (1 : Int32) → zU mX10_digestPerson X S L 81 [some (.ref 0), none, none, some (.int v3), some (.long v4), none, some (.int v6), some (.int (5 : Int32)), some (.int (0 : Int32))] [] (zpl P)))) ∧ (v6 = 0 → zU mX10_digestPerson X S L 81 [some (.ref 0), none, none, some (.int v3), some (.long v4), none, some (.int v6), some (.int (0 : Int32)), some (.int (0 : Int32))] [] (zpl P)))))) : zU mX10_digestPerson X S L 38 [some (.ref 0), none, none, some (.int v3), some (.long v4), none, some (.int v6), none, none] [] (zpl P) := by
  refine zi_iload dX10_digestPerson_38 rfl ?_
  refine zi_iconst (v := 4) dX10_digestPerson_40 (by decide) ?_
  refine zi_icmp_ge (tgt := 118) dX10_digestPerson_41 (by decide) (fun q9 => ?_) (fun q9 => ?_)
  · replace h := h.1 q9
    refine zi_ldc2 (v := 31) dX10_digestPerson_118 (zme 5 7 (by decide +kernel) rfl) ?_
    refine zi_lload dX10_digestPerson_121 rfl ?_
    refine zi_lmul dX10_digestPerson_123 ?_
    refine zi_aload_n dX10_digestPerson_124 rfl rfl ?_
    refine zi_iload_n dX10_digestPerson_125 rfl rfl ?_
    refine zt_Vi (As := [.int v3]) dX10_digestPerson_126 lk_X10_356 sk0 rfl ⟨⟨by decide, by decide⟩, rfl, rfl⟩ rfl ⟨Nat.le_of_ble_eq_true rfl, rfl, rfl⟩ h (fun y1 S1 L1 h => ?_)
    refine zi_i2l dX10_digestPerson_129 ?_
    refine zi_ladd dX10_digestPerson_130 ?_
    refine zt_nml (fun z1 ez1 => ?_)
    replace h := h z1 ez1
    refine zi_lstore dX10_digestPerson_131 (by decide) rfl ?_
    refine zi_ldc2 (v := 31) dX10_digestPerson_133 (zme 5 7 (by decide +kernel) rfl) ?_
    refine zi_ldc2 (v := 31) dX10_digestPerson_136 (zme 5 7 (by decide +kernel) rfl) ?_
    refine zi_lload dX10_digestPerson_139 rfl ?_
    refine zi_lmul dX10_digestPerson_141 ?_
    refine zi_aload_n dX10_digestPerson_142 rfl rfl ?_
    refine zi_iload_n dX10_digestPerson_143 rfl rfl ?_
    refine zi_bipush (v := 9) dX10_digestPerson_144 (by decide) ?_
    refine zi_iconst (v := -1) dX10_digestPerson_146 (by decide) ?_
    refine zt_Vi (As := [.int v3, .int (9 : Int32), .int (-1 : Int32)]) dX10_digestPerson_147 lk_X10_359 sk0 rfl ⟨⟨by decide, by decide⟩, rfl, rfl⟩ rfl ⟨Nat.le_of_ble_eq_true rfl, rfl, rfl⟩ h (fun y2 S2 L2 h => ?_)
    refine zi_i2l dX10_digestPerson_150 ?_
    refine zi_ladd dX10_digestPerson_151 ?_
    refine zi_lmul dX10_digestPerson_152 ?_
    refine zi_aload_n dX10_digestPerson_153 rfl rfl ?_
    refine zi_iload_n dX10_digestPerson_154 rfl rfl ?_
    refine zi_bipush (v := 9) dX10_digestPerson_155 (by decide) ?_
    refine zi_iconst (v := 0) dX10_digestPerson_157 (by decide) ?_
    refine zt_Vi (As := [.int v3, .int (9 : Int32), .int (0 : Int32)]) dX10_digestPerson_158 lk_X10_359 sk0 rfl ⟨⟨by decide, by decide⟩, rfl, rfl⟩ rfl ⟨Nat.le_of_ble_eq_true rfl, rfl, rfl⟩ h (fun y3 S3 L3 h => ?_)
    refine zi_i2l dX10_digestPerson_161 ?_
    refine zi_ladd dX10_digestPerson_162 ?_
    refine zt_nml (fun z2 ez2 => ?_)
    replace h := h z2 ez2
    refine zi_lstore dX10_digestPerson_163 (by decide) rfl ?_
    refine zi_ldc2 (v := 31) dX10_digestPerson_165 (zme 5 7 (by decide +kernel) rfl) ?_
    refine zi_ldc2 (v := 31) dX10_digestPerson_168 (zme 5 7 (by decide +kernel) rfl) ?_
    refine zi_lload dX10_digestPerson_171 rfl ?_
    refine zi_lmul dX10_digestPerson_173 ?_
    refine zi_aload_n dX10_digestPerson_174 rfl rfl ?_
    refine zi_iload_n dX10_digestPerson_175 rfl rfl ?_
    refine zi_iconst (v := 0) dX10_digestPerson_176 (by decide) ?_
    refine zt_Vi (As := [.int v3, .int (0 : Int32)]) dX10_digestPerson_177 lk_X10_362 sk0 rfl ⟨⟨by decide, by decide⟩, rfl, rfl⟩ rfl ⟨Nat.le_of_ble_eq_true rfl, rfl, rfl⟩ h (fun y4 S4 L4 h => ?_)
    refine zi_i2l dX10_digestPerson_180 ?_
    refine zi_ladd dX10_digestPerson_181 ?_
    refine zi_lmul dX10_digestPerson_182 ?_
    refine zi_aload_n dX10_digestPerson_183 rfl rfl ?_
    refine zi_iload_n dX10_digestPerson_184 rfl rfl ?_
    refine zi_iconst (v := 1) dX10_digestPerson_185 (by decide) ?_
    refine zt_Vi (As := [.int v3, .int (1 : Int32)]) dX10_digestPerson_186 lk_X10_362 sk0 rfl ⟨⟨by decide, by decide⟩, rfl, rfl⟩ rfl ⟨Nat.le_of_ble_eq_true rfl, rfl, rfl⟩ h (fun y5 S5 L5 h => ?_)
    refine zi_i2l dX10_digestPerson_189 ?_
    refine zi_ladd dX10_digestPerson_190 ?_
    refine zt_nml (fun z3 ez3 => ?_)
    replace h := h z3 ez3
    refine zi_lstore dX10_digestPerson_191 (by decide) rfl ?_
    refine zi_ldc2 (v := 31) dX10_digestPerson_193 (zme 5 7 (by decide +kernel) rfl) ?_
    refine zi_lload dX10_digestPerson_196 rfl ?_
    refine zi_lmul dX10_digestPerson_198 ?_
    refine zi_aload_n dX10_digestPerson_199 rfl rfl ?_
    refine zi_iload_n dX10_digestPerson_200 rfl rfl ?_
    refine zt_Vi (As := [.int v3]) dX10_digestPerson_201 lk_X10_365 sk0 rfl ⟨⟨by decide, by decide⟩, rfl, rfl⟩ rfl ⟨Nat.le_of_ble_eq_true rfl, rfl, rfl⟩ h (fun y6 S6 L6 h => ?_)
    refine zi_i2l dX10_digestPerson_204 ?_
    refine zi_ladd dX10_digestPerson_205 ?_
    refine zt_nml (fun z4 ez4 => ?_)
    replace h := h z4 ez4
    refine zi_lstore dX10_digestPerson_206 (by decide) rfl ?_
    refine zi_ldc2 (v := 31) dX10_digestPerson_208 (zme 5 7 (by decide +kernel) rfl) ?_
    refine zi_ldc2 (v := 31) dX10_digestPerson_211 (zme 5 7 (by decide +kernel) rfl) ?_
    refine zi_lload dX10_digestPerson_214 rfl ?_
    refine zi_lmul dX10_digestPerson_216 ?_
    refine zi_aload_n dX10_digestPerson_217 rfl rfl ?_
    refine zi_iconst (v := 5) dX10_digestPerson_218 (by decide) ?_
    refine zi_iconst (v := 5) dX10_digestPerson_219 (by decide) ?_
    refine zi_iload_n dX10_digestPerson_220 rfl rfl ?_
    refine zi_iconst (v := 0) dX10_digestPerson_221 (by decide) ?_
    refine zt_Vl (As := [.int (5 : Int32), .int (5 : Int32), .int v3, .int (0 : Int32)]) dX10_digestPerson_222 lk_X10_368 sk0 rfl ⟨⟨by decide, by decide⟩, rfl, rfl⟩ rfl ⟨Nat.le_of_ble_eq_true rfl, rfl, rfl⟩ h (fun y7 S7 L7 h => ?_)
    refine zi_ladd dX10_digestPerson_225 ?_
    refine zi_lmul dX10_digestPerson_226 ?_
    refine zi_aload_n dX10_digestPerson_227 rfl rfl ?_
    refine zi_iconst (v := 5) dX10_digestPerson_228 (by decide) ?_
    refine zi_iconst (v := 5) dX10_digestPerson_229 (by decide) ?_
    refine zi_iload_n dX10_digestPerson_230 rfl rfl ?_
    refine zi_iconst (v := 1) dX10_digestPerson_231 (by decide) ?_
    refine zt_Vl (As := [.int (5 : Int32), .int (5 : Int32), .int v3, .int (1 : Int32)]) dX10_digestPerson_232 lk_X10_368 sk0 rfl ⟨⟨by decide, by decide⟩, rfl, rfl⟩ rfl ⟨Nat.le_of_ble_eq_true rfl, rfl, rfl⟩ h (fun y8 S8 L8 h => ?_)
    refine zi_ladd dX10_digestPerson_235 ?_
    exact zt_lret dX10_digestPerson_236 rfl h
  · replace h := h.2 q9
    refine zi_iload dX10_digestPerson_44 rfl ?_
    refine zi_if_ne (tgt := 53) dX10_digestPerson_46 (by decide) (fun q9 => ?_) (fun q9 => ?_)
    · replace h := h.1 q9
      refine zi_iload dX10_digestPerson_53 rfl ?_
      refine zi_iconst (v := 1) dX10_digestPerson_55 (by decide) ?_
      refine zi_icmp_ne (tgt := 63) dX10_digestPerson_56 (by decide) (fun q9 => ?_) (fun q9 => ?_)
      · replace h := h.1 q9
        refine zi_iload dX10_digestPerson_63 rfl ?_
        refine zi_iconst (v := 2) dX10_digestPerson_65 (by decide) ?_
        refine zi_icmp_ne (tgt := 74) dX10_digestPerson_66 (by decide) (fun q9 => ?_) (fun q9 => ?_)
        · replace h := h.1 q9
          refine zi_bipush (v := 23) dX10_digestPerson_74 (by decide) ?_
          refine zi_istore dX10_digestPerson_76 (by decide) rfl ?_
          refine zi_iconst (v := 0) dX10_digestPerson_78 (by decide) ?_
          refine zi_istore dX10_digestPerson_79 (by decide) rfl ?_
          refine zt_drop (lv' := [some (.ref 0), none, none, some (.int v3), some (.long v4), none, some (.int v6), some (.int (23 : Int32)), some (.int (0 : Int32))]) [true, false, false, true, true, false, true, true, true] rfl ?_
          exact h
        · replace h := h.2 q9
          refine zi_bipush (v := 11) dX10_digestPerson_69 (by decide) ?_
          refine zi_goto (tgt := 76) dX10_digestPerson_71 (by decide) ?_
          refine zi_istore dX10_digestPerson_76 (by decide) rfl ?_
          refine zi_iconst (v := 0) dX10_digestPerson_78 (by decide) ?_
          refine zi_istore dX10_digestPerson_79 (by decide) rfl ?_
          refine zt_drop (lv' := [some (.ref 0), none, none, some (.int v3), some (.long v4), none, some (.int v6), some (.int (11 : Int32)), some (.int (0 : Int32))]) [true, false, false, true, true, false, true, true, true] rfl ?_
          exact h
      · replace h := h.2 q9
        refine zi_iconst (v := 5) dX10_digestPerson_59 (by decide) ?_
        refine zi_goto (tgt := 76) dX10_digestPerson_60 (by decide) ?_
        refine zi_istore dX10_digestPerson_76 (by decide) rfl ?_
        refine zi_iconst (v := 0) dX10_digestPerson_78 (by decide) ?_
        refine zi_istore dX10_digestPerson_79 (by decide) rfl ?_
        refine zt_drop (lv' := [some (.ref 0), none, none, some (.int v3), some (.long v4), none, some (.int v6), some (.int (5 : Int32)), some (.int (0 : Int32))]) [true, false, false, true, true, false, true, true, true] rfl ?_
        exact h
    · replace h := h.2 q9
      refine zi_iconst (v := 0) dX10_digestPerson_49 (by decide) ?_
      refine zi_goto (tgt := 76) dX10_digestPerson_50 (by decide) ?_
      refine zi_istore dX10_digestPerson_76 (by decide) rfl ?_
      refine zi_iconst (v := 0) dX10_digestPerson_78 (by decide) ?_
      refine zi_istore dX10_digestPerson_79 (by decide) rfl ?_
      refine zt_drop (lv' := [some (.ref 0), none, none, some (.int v3), some (.long v4), none, some (.int v6), some (.int (0 : Int32)), some (.int (0 : Int32))]) [true, false, false, true, true, false, true, true, true] rfl ?_
      exact h
set_option maxHeartbeats 2000000 in
theorem b_X10_digestPerson_81 {v3 : Int32} {v4 : Int64} {v6 : Int32} {v7 : Int32} {v8 : Int32} {X : Nat × (Nat → Int32)} {S : zS} {L : zL} {P : Int64 → zS → zL → Prop} (h : (((2 : Int32) < v8 → ∀ x1 : Int32, x1 = v6 + (1 : Int32) → zU mX10_digestPerson X S L 38 [some (.ref 0), none, none, some (.int v3), some (.long v4), none, some (.int x1), none, none] [] (zpl P)) ∧ (¬ (2 : Int32) < v8 → zCi mX10_wool S L [.ref 0, .int v7, .int v3, .int v8] (fun y1 S1 L1 => ∀ z1 : Int64, z1 = (((31 : Int64) * v4) + y1.toInt64) → ∀ x1 : Int32, x1 = v8 + (1 : Int32) → zU mX10_digestPerson X S1 L1 81 [some (.ref 0), none, none, some (.int v3), some (.long z1), none, some (.int v6), some (.int v7), some (.int x1)] [] (zpl P))))) : zU mX10_digestPerson X S L 81 [some (.ref 0), none, none, some (.int v3), some (.long v4), none, some (.int v6), some (.int v7), some (.int v8)] [] (zpl P) := by
  refine zi_iload dX10_digestPerson_81 rfl ?_
  refine zi_iconst (v := 2) dX10_digestPerson_83 (by decide) ?_
  refine zi_icmp_gt (tgt := 112) dX10_digestPerson_84 (by decide) (fun q9 => ?_) (fun q9 => ?_)
  · replace h := h.1 q9
    obtain ⟨x1, ex1⟩ : ∃ y : Int32, y = v6 + (1 : Int32) := ⟨_, rfl⟩
    replace h := h x1 ex1
    refine zi_iinc (v := x1) dX10_digestPerson_112 rfl (by rw [ex1]; rfl) (by decide) rfl ?_
    refine zi_goto (tgt := 38) dX10_digestPerson_115 (by decide) ?_
    refine zt_drop (lv' := [some (.ref 0), none, none, some (.int v3), some (.long v4), none, some (.int x1), none, none]) [true, false, false, true, true, false, true, false, false] rfl ?_
    exact h
  · replace h := h.2 q9
    refine zi_ldc2 (v := 31) dX10_digestPerson_87 (zme 5 7 (by decide +kernel) rfl) ?_
    refine zi_lload dX10_digestPerson_90 rfl ?_
    refine zi_lmul dX10_digestPerson_92 ?_
    refine zi_aload_n dX10_digestPerson_93 rfl rfl ?_
    refine zi_iload dX10_digestPerson_94 rfl ?_
    refine zi_iload_n dX10_digestPerson_96 rfl rfl ?_
    refine zi_iload dX10_digestPerson_97 rfl ?_
    refine zt_Vi (As := [.int v7, .int v3, .int v8]) dX10_digestPerson_99 lk_X10_353 sk0 rfl ⟨⟨by decide, by decide⟩, rfl, rfl⟩ rfl ⟨Nat.le_of_ble_eq_true rfl, rfl, rfl⟩ h (fun y1 S1 L1 h => ?_)
    refine zi_i2l dX10_digestPerson_102 ?_
    refine zi_ladd dX10_digestPerson_103 ?_
    refine zt_nml (fun z1 ez1 => ?_)
    replace h := h z1 ez1
    refine zi_lstore dX10_digestPerson_104 (by decide) rfl ?_
    obtain ⟨x1, ex1⟩ : ∃ y : Int32, y = v8 + (1 : Int32) := ⟨_, rfl⟩
    replace h := h x1 ex1
    refine zi_iinc (v := x1) dX10_digestPerson_106 rfl (by rw [ex1]; rfl) (by decide) rfl ?_
    refine zi_goto (tgt := 81) dX10_digestPerson_109 (by decide) ?_
    refine zt_drop (lv' := [some (.ref 0), none, none, some (.int v3), some (.long z1), none, some (.int v6), some (.int v7), some (.int x1)]) [true, false, false, true, true, false, true, true, true] rfl ?_
    exact h
theorem e_X10_digestPerson {before : Int64} {p : Int32} {S : zS} {L : zL} {P : Int64 → zS → zL → Prop} (h : ∀ X, zU mX10_digestPerson X S L 0 [some (.ref 0), some (.long before), none, some (.int p), none, none, none, none, none] [] (zpl P)) : zCl mX10_digestPerson S L [.ref 0, .long before, .int p] P := zCl_of pn_X10_digestPerson (Nat.le_of_ble_eq_true rfl) (fun X => zt_pad (j := 5) rfl (h X))
