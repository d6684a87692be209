/-! THE LAW's cases, by program (wip/whole/gen_law.py) -/
set_option maxRecDepth 100000 in
set_option maxHeartbeats 4000000 in
theorem lc_addCourse {K : gw_K} {Γ : gw_G} (C : gw_C K Γ cL_law 7 RL) {b L : Nat} {xs : Nat → Int32} (hX : va_X b L xs (gw_s K) (gw_s K).heap) (hbl : b < (gw_s K).heap.size) (hbA : ¬ gw_A Γ b) (τ μ : gw_S) (o : Nat → Int64) (x4 : Int32) (h1 : vp_in (x4 + 1) L) (h2 : vp_in (x4 + 2) L) (h3 : vp_in (x4 + 3) L) (cells slots : Nat) (hc : cells + 1 ≤ 601024) (hs : slots + 6 ≤ 7293034) (r : (Int32 ⊕ String) × gw_S) (hf : f_X3_addCourse τ (xs (x4 + 1).toNatClampNeg) (xs (x4 + 2).toNatClampNeg) (xs (x4 + 3).toNatClampNeg) = some r) (he : ∀ e, r.1 = .inr e → e = "java/lang/IllegalArgumentException" ∨ e = "java/lang/IllegalStateException") (q : Int32 × gw_S) (hm : f_X4_addCourse μ (xs (x4 + 1).toNatClampNeg) (xs (x4 + 2).toNatClampNeg) (xs (x4 + 3).toNatClampNeg) = some q) (ht : q.2 0 18 = lw_k ["java/lang/IllegalArgumentException", "java/lang/IllegalStateException"] r.1) (hv : ∀ v, r.1 = .inl v → v = q.1) (k : gw_J K Γ room_1 (cells + 1) (slots + 6) (gw_W Γ r.2 q.2 (lw_o r.1 o)) 2404 [(0, .ref b), (1, .ref (gw_a Γ 0)), (2, .ref (gw_a Γ 132)), (3, .ref (gw_a Γ 151)), (4, .int x4)] []) : gw_J K Γ room_1 cells slots (gw_W Γ τ μ o) 200 [(0, .ref b), (1, .ref (gw_a Γ 0)), (2, .ref (gw_a Γ 132)), (3, .ref (gw_a Γ 151)), (4, .int x4)] [] := by
  refine gj_aload_n C 1 dL_law_200 rfl ?_
  refine gj_aload_n C 0 dL_law_201 rfl ?_
  refine gj_iload C 4 dL_law_202 rfl ?_
  refine gj_iconst (v := 1) C dL_law_204 (by decide) ?_
  refine gj_iadd C dL_law_205 ?_
  refine gj_sld C hX hbl hbA h1 dL_law_206 ?_
  refine gj_aload_n C 0 dL_law_207 rfl ?_
  refine gj_iload C 4 dL_law_208 rfl ?_
  refine gj_iconst (v := 2) C dL_law_210 (by decide) ?_
  refine gj_iadd C dL_law_211 ?_
  refine gj_sld C hX hbl hbA h2 dL_law_212 ?_
  refine gj_aload_n C 0 dL_law_213 rfl ?_
  refine gj_iload C 4 dL_law_214 rfl ?_
  refine gj_iconst (v := 3) C dL_law_216 (by decide) ?_
  refine gj_iadd C dL_law_217 ?_
  refine gj_sld C hX hbl hbA h3 dL_law_218 ?_
  refine gj_aload_n C 3 dL_law_219 rfl ?_
  refine gj_cW (As := [.ref (gw_a Γ 0), .int (xs (x4 + 1).toNatClampNeg), .int (xs (x4 + 2).toNatClampNeg), .int (xs (x4 + 3).toNatClampNeg), .ref (gw_a Γ 151)]) (rest := []) C cw_L_122 (w_addCourse (gw_l K) Γ τ μ o (xs (x4 + 1).toNatClampNeg) (xs (x4 + 2).toNatClampNeg) (xs (x4 + 3).toNatClampNeg) r hf he) rfl (Nat.le_of_ble_eq_true rfl) dL_law_220 (gw_rmo rfl hc hs) rfl ?_
  refine gj_istore C 5 [(5, .int (lw_k ["java/lang/IllegalArgumentException", "java/lang/IllegalStateException"] r.1)), (0, .ref b), (1, .ref (gw_a Γ 0)), (2, .ref (gw_a Γ 132)), (3, .ref (gw_a Γ 151)), (4, .int x4)] dL_law_223 (by decide) rfl ?_
  refine gj_aload_n C 3 dL_law_225 rfl ?_
  refine gj_aload_n C 1 dL_law_226 rfl ?_
  refine gj_iload C 5 dL_law_227 rfl ?_
  refine gj_iconst (v := 1) C dL_law_229 (by decide) ?_
  refine gj_iadd C dL_law_230 ?_
  refine gj_sld C hX hbl hbA h1 dL_law_231 ?_
  refine gj_aload_n C 1 dL_law_232 rfl ?_
  refine gj_iload C 5 dL_law_233 rfl ?_
  refine gj_iconst (v := 2) C dL_law_235 (by decide) ?_
  refine gj_iadd C dL_law_236 ?_
  refine gj_sld C hX hbl hbA h2 dL_law_237 ?_
  refine gj_aload_n C 1 dL_law_238 rfl ?_
  refine gj_iload C 5 dL_law_239 rfl ?_
  refine gj_iconst (v := 3) C dL_law_241 (by decide) ?_
  refine gj_iadd C dL_law_242 ?_
  refine gj_sld C hX hbl hbA h3 dL_law_243 ?_
  refine gj_cVi (As := [.int (xs (x4 + 1).toNatClampNeg), .int (xs (x4 + 2).toNatClampNeg), .int (xs (x4 + 3).toNatClampNeg)]) (rest := []) C cb_L_127 (s_X4_addCourse (gw_l K) Γ r.2 μ (lw_o r.1 o) (xs (x4 + 1).toNatClampNeg) (xs (x4 + 2).toNatClampNeg) (xs (x4 + 3).toNatClampNeg) q hm) rfl (Nat.le_of_ble_eq_true rfl) gw_atD rfl rfl dL_law_244 (gw_rmo rfl (by show _ ≤ 601024; omega) (by show _ ≤ 7293034; omega)) rfl ?_
  refine gj_istore C 6 [(6, .int q.1), (5, .int (lw_k ["java/lang/IllegalArgumentException", "java/lang/IllegalStateException"] r.1)), (0, .ref b), (1, .ref (gw_a Γ 0)), (2, .ref (gw_a Γ 132)), (3, .ref (gw_a Γ 151)), (4, .int x4)] dL_law_247 (by decide) rfl ?_
  refine gj_aload_n C 4 dL_law_249 rfl ?_
  refine gj_cVi (As := []) (rest := []) C cb_L_128 (s_X4_thrown (gw_l K) Γ r.2 q.2 (lw_o r.1 o) (q.2 0 18) rfl) rfl (Nat.le_of_ble_eq_true rfl) gw_atD rfl rfl dL_law_250 (gw_rmo rfl (by show _ ≤ 601024; omega) (by show _ ≤ 7293034; omega)) rfl ?_
  refine gj_iload C 1 dL_law_253 rfl ?_
  refine gj_ic_eq C 260 dL_law_255 (by decide) (fun _ => ?_) (fun c => absurd ht c)
  refine gj_iload C 1 dL_law_260 rfl ?_
  obtain ⟨r1, r2⟩ := r
  cases r1 with
  | inr e =>
    refine gj_if_ne C 277 dL_law_262 (by decide) (fun _ => ?_) (fun c => ?_)
    · refine gj_goto C 2404 dL_law_277 (by decide) ?_
      exact gj_pick [2, 3, 4, 5, 6] _ rfl k
    · exfalso
      rcases he e rfl with rfl | rfl
      · exact absurd c (show ¬ lw_k ["java/lang/IllegalArgumentException", "java/lang/IllegalStateException"] (.inr "java/lang/IllegalArgumentException") = 0 from by decide +kernel)
      · exact absurd c (show ¬ lw_k ["java/lang/IllegalArgumentException", "java/lang/IllegalStateException"] (.inr "java/lang/IllegalStateException") = 0 from by decide +kernel)
  | inl v =>
    refine gj_if_ne C 277 dL_law_262 (by decide) (fun c => absurd rfl c) (fun _ => ?_)
    refine gj_aload_n C 5 dL_law_265 rfl ?_
    refine gj_iconst (v := 0) C dL_law_266 (by decide) ?_
    refine gj_lald C (vp_in_nI (n := 0) (N := 1) (by decide) (by decide)) dL_law_267 ?_
    refine gj_iload C 0 dL_law_268 rfl ?_
    refine gj_i2l C dL_law_270 ?_
    refine gj_lcmp C dL_law_271 ?_
    refine gj_if_eq C 277 dL_law_272 (by decide) (fun _ => ?_) (fun c => absurd ?_ c)
    · refine gj_goto C 2404 dL_law_277 (by decide) ?_
      exact gj_pick [2, 3, 4, 5, 6] _ rfl k
    · have e := hv v rfl
      subst e
      exact lg_cmp_self _
set_option maxRecDepth 100000 in
set_option maxHeartbeats 4000000 in
theorem lc_setSeats {K : gw_K} {Γ : gw_G} (C : gw_C K Γ cL_law 7 RL) {b L : Nat} {xs : Nat → Int32} (hX : va_X b L xs (gw_s K) (gw_s K).heap) (hbl : b < (gw_s K).heap.size) (hbA : ¬ gw_A Γ b) (τ μ : gw_S) (o : Nat → Int64) (x4 : Int32) (h1 : vp_in (x4 + 1) L) (h2 : vp_in (x4 + 2) L) (cells slots : Nat) (hc : cells + 2 ≤ 601024) (hs : slots + 12 ≤ 7293034) (r : (Int32 ⊕ String) × gw_S) (hf : f_X3_setSeats τ (xs (x4 + 1).toNatClampNeg) (xs (x4 + 2).toNatClampNeg) = some r) (he : ∀ e, r.1 = .inr e → e = "java/lang/IndexOutOfBoundsException" ∨ e = "java/lang/IllegalArgumentException" ∨ e = "java/lang/IllegalStateException") (q : Int32 × gw_S) (hm : f_X4_setSeats μ (xs (x4 + 1).toNatClampNeg) (xs (x4 + 2).toNatClampNeg) = some q) (ht : q.2 0 18 = lw_k ["java/lang/IndexOutOfBoundsException", "java/lang/IllegalArgumentException", "java/lang/IllegalStateException"] r.1) (hv : ∀ v, r.1 = .inl v → v = q.1) (k : gw_J K Γ room_1 (cells + 2) (slots + 12) (gw_W Γ r.2 q.2 (lw_o r.1 o)) 2404 [(0, .ref b), (1, .ref (gw_a Γ 0)), (2, .ref (gw_a Γ 132)), (3, .ref (gw_a Γ 151)), (4, .int x4)] []) : gw_J K Γ room_1 cells slots (gw_W Γ τ μ o) 280 [(0, .ref b), (1, .ref (gw_a Γ 0)), (2, .ref (gw_a Γ 132)), (3, .ref (gw_a Γ 151)), (4, .int x4)] [] := by
  refine gj_aload_n C 1 dL_law_280 rfl ?_
  refine gj_aload_n C 0 dL_law_281 rfl ?_
  refine gj_iload C 4 dL_law_282 rfl ?_
  refine gj_iconst (v := 1) C dL_law_284 (by decide) ?_
  refine gj_iadd C dL_law_285 ?_
  refine gj_sld C hX hbl hbA h1 dL_law_286 ?_
  refine gj_aload_n C 0 dL_law_287 rfl ?_
  refine gj_iload C 4 dL_law_288 rfl ?_
  refine gj_iconst (v := 2) C dL_law_290 (by decide) ?_
  refine gj_iadd C dL_law_291 ?_
  refine gj_sld C hX hbl hbA h2 dL_law_292 ?_
  refine gj_aload_n C 3 dL_law_293 rfl ?_
  refine gj_cW (As := [.ref (gw_a Γ 0), .int (xs (x4 + 1).toNatClampNeg), .int (xs (x4 + 2).toNatClampNeg), .ref (gw_a Γ 151)]) (rest := []) C cw_L_132 (w_setSeats (gw_l K) Γ τ μ o (xs (x4 + 1).toNatClampNeg) (xs (x4 + 2).toNatClampNeg) r hf he) rfl (Nat.le_of_ble_eq_true rfl) dL_law_294 (gw_rmo rfl hc hs) rfl ?_
  refine gj_istore C 5 [(5, .int (lw_k ["java/lang/IndexOutOfBoundsException", "java/lang/IllegalArgumentException", "java/lang/IllegalStateException"] r.1)), (0, .ref b), (1, .ref (gw_a Γ 0)), (2, .ref (gw_a Γ 132)), (3, .ref (gw_a Γ 151)), (4, .int x4)] dL_law_297 (by decide) rfl ?_
  refine gj_aload_n C 3 dL_law_299 rfl ?_
  refine gj_aload_n C 1 dL_law_300 rfl ?_
  refine gj_iload C 5 dL_law_301 rfl ?_
  refine gj_iconst (v := 1) C dL_law_303 (by decide) ?_
  refine gj_iadd C dL_law_304 ?_
  refine gj_sld C hX hbl hbA h1 dL_law_305 ?_
  refine gj_aload_n C 1 dL_law_306 rfl ?_
  refine gj_iload C 5 dL_law_307 rfl ?_
  refine gj_iconst (v := 2) C dL_law_309 (by decide) ?_
  refine gj_iadd C dL_law_310 ?_
  refine gj_sld C hX hbl hbA h2 dL_law_311 ?_
  refine gj_cVi (As := [.int (xs (x4 + 1).toNatClampNeg), .int (xs (x4 + 2).toNatClampNeg)]) (rest := []) C cb_L_135 (s_X4_setSeats (gw_l K) Γ r.2 μ (lw_o r.1 o) (xs (x4 + 1).toNatClampNeg) (xs (x4 + 2).toNatClampNeg) q hm) rfl (Nat.le_of_ble_eq_true rfl) gw_atD rfl rfl dL_law_312 (gw_rmo rfl (by show _ ≤ 601024; omega) (by show _ ≤ 7293034; omega)) rfl ?_
  refine gj_istore C 6 [(6, .int q.1), (5, .int (lw_k ["java/lang/IndexOutOfBoundsException", "java/lang/IllegalArgumentException", "java/lang/IllegalStateException"] r.1)), (0, .ref b), (1, .ref (gw_a Γ 0)), (2, .ref (gw_a Γ 132)), (3, .ref (gw_a Γ 151)), (4, .int x4)] dL_law_315 (by decide) rfl ?_
  refine gj_aload_n C 4 dL_law_317 rfl ?_
  refine gj_cVi (As := []) (rest := []) C cb_L_128 (s_X4_thrown (gw_l K) Γ r.2 q.2 (lw_o r.1 o) (q.2 0 18) rfl) rfl (Nat.le_of_ble_eq_true rfl) gw_atD rfl rfl dL_law_318 (gw_rmo rfl (by show _ ≤ 601024; omega) (by show _ ≤ 7293034; omega)) rfl ?_
  refine gj_iload C 1 dL_law_321 rfl ?_
  refine gj_ic_eq C 328 dL_law_323 (by decide) (fun _ => ?_) (fun c => absurd ht c)
  refine gj_iload C 1 dL_law_328 rfl ?_
  obtain ⟨r1, r2⟩ := r
  cases r1 with
  | inr e =>
    refine gj_if_ne C 345 dL_law_330 (by decide) (fun _ => ?_) (fun c => ?_)
    · refine gj_goto C 2404 dL_law_345 (by decide) ?_
      exact gj_pick [2, 3, 4, 5, 6] _ rfl k
    · exfalso
      rcases he e rfl with rfl | rfl | rfl
      · exact absurd c (show ¬ lw_k ["java/lang/IndexOutOfBoundsException", "java/lang/IllegalArgumentException", "java/lang/IllegalStateException"] (.inr "java/lang/IndexOutOfBoundsException") = 0 from by decide +kernel)
      · exact absurd c (show ¬ lw_k ["java/lang/IndexOutOfBoundsException", "java/lang/IllegalArgumentException", "java/lang/IllegalStateException"] (.inr "java/lang/IllegalArgumentException") = 0 from by decide +kernel)
      · exact absurd c (show ¬ lw_k ["java/lang/IndexOutOfBoundsException", "java/lang/IllegalArgumentException", "java/lang/IllegalStateException"] (.inr "java/lang/IllegalStateException") = 0 from by decide +kernel)
  | inl v =>
    refine gj_if_ne C 345 dL_law_330 (by decide) (fun c => absurd rfl c) (fun _ => ?_)
    refine gj_aload_n C 5 dL_law_333 rfl ?_
    refine gj_iconst (v := 0) C dL_law_334 (by decide) ?_
    refine gj_lald C (vp_in_nI (n := 0) (N := 1) (by decide) (by decide)) dL_law_335 ?_
    refine gj_iload C 0 dL_law_336 rfl ?_
    refine gj_i2l C dL_law_338 ?_
    refine gj_lcmp C dL_law_339 ?_
    refine gj_if_eq C 345 dL_law_340 (by decide) (fun _ => ?_) (fun c => absurd ?_ c)
    · refine gj_goto C 2404 dL_law_345 (by decide) ?_
      exact gj_pick [2, 3, 4, 5, 6] _ rfl k
    · have e := hv v rfl
      subst e
      exact lg_cmp_self _
set_option maxRecDepth 100000 in
set_option maxHeartbeats 4000000 in
theorem lc_addPrerequisite {K : gw_K} {Γ : gw_G} (C : gw_C K Γ cL_law 7 RL) {b L : Nat} {xs : Nat → Int32} (hX : va_X b L xs (gw_s K) (gw_s K).heap) (hbl : b < (gw_s K).heap.size) (hbA : ¬ gw_A Γ b) (τ μ : gw_S) (o : Nat → Int64) (x4 : Int32) (h1 : vp_in (x4 + 1) L) (h2 : vp_in (x4 + 2) L) (cells slots : Nat) (hc : cells + 3 ≤ 601024) (hs : slots + 18 ≤ 7293034) (r : (Int32 ⊕ String) × gw_S) (hf : f_X3_addPrerequisite τ (xs (x4 + 1).toNatClampNeg) (xs (x4 + 2).toNatClampNeg) = some r) (he : ∀ e, r.1 = .inr e → e = "java/lang/IndexOutOfBoundsException" ∨ e = "java/lang/IllegalStateException") (q : Int32 × gw_S) (hm : f_X4_addPrerequisite μ (xs (x4 + 1).toNatClampNeg) (xs (x4 + 2).toNatClampNeg) = some q) (ht : q.2 0 18 = lw_k ["java/lang/IndexOutOfBoundsException", "java/lang/IllegalStateException"] r.1) (hv : ∀ v, r.1 = .inl v → v = q.1) (k : gw_J K Γ room_1 (cells + 3) (slots + 18) (gw_W Γ r.2 q.2 (lw_o r.1 o)) 2404 [(0, .ref b), (1, .ref (gw_a Γ 0)), (2, .ref (gw_a Γ 132)), (3, .ref (gw_a Γ 151)), (4, .int x4)] []) : gw_J K Γ room_1 cells slots (gw_W Γ τ μ o) 348 [(0, .ref b), (1, .ref (gw_a Γ 0)), (2, .ref (gw_a Γ 132)), (3, .ref (gw_a Γ 151)), (4, .int x4)] [] := by
  refine gj_aload_n C 1 dL_law_348 rfl ?_
  refine gj_aload_n C 0 dL_law_349 rfl ?_
  refine gj_iload C 4 dL_law_350 rfl ?_
  refine gj_iconst (v := 1) C dL_law_352 (by decide) ?_
  refine gj_iadd C dL_law_353 ?_
  refine gj_sld C hX hbl hbA h1 dL_law_354 ?_
  refine gj_aload_n C 0 dL_law_355 rfl ?_
  refine gj_iload C 4 dL_law_356 rfl ?_
  refine gj_iconst (v := 2) C dL_law_358 (by decide) ?_
  refine gj_iadd C dL_law_359 ?_
  refine gj_sld C hX hbl hbA h2 dL_law_360 ?_
  refine gj_aload_n C 3 dL_law_361 rfl ?_
  refine gj_cW (As := [.ref (gw_a Γ 0), .int (xs (x4 + 1).toNatClampNeg), .int (xs (x4 + 2).toNatClampNeg), .ref (gw_a Γ 151)]) (rest := []) C cw_L_136 (w_addPrerequisite (gw_l K) Γ τ μ o (xs (x4 + 1).toNatClampNeg) (xs (x4 + 2).toNatClampNeg) r hf he) rfl (Nat.le_of_ble_eq_true rfl) dL_law_362 (gw_rmo rfl hc hs) rfl ?_
  refine gj_istore C 5 [(5, .int (lw_k ["java/lang/IndexOutOfBoundsException", "java/lang/IllegalStateException"] r.1)), (0, .ref b), (1, .ref (gw_a Γ 0)), (2, .ref (gw_a Γ 132)), (3, .ref (gw_a Γ 151)), (4, .int x4)] dL_law_365 (by decide) rfl ?_
  refine gj_aload_n C 3 dL_law_367 rfl ?_
  refine gj_aload_n C 1 dL_law_368 rfl ?_
  refine gj_iload C 5 dL_law_369 rfl ?_
  refine gj_iconst (v := 1) C dL_law_371 (by decide) ?_
  refine gj_iadd C dL_law_372 ?_
  refine gj_sld C hX hbl hbA h1 dL_law_373 ?_
  refine gj_aload_n C 1 dL_law_374 rfl ?_
  refine gj_iload C 5 dL_law_375 rfl ?_
  refine gj_iconst (v := 2) C dL_law_377 (by decide) ?_
  refine gj_iadd C dL_law_378 ?_
  refine gj_sld C hX hbl hbA h2 dL_law_379 ?_
  refine gj_cVi (As := [.int (xs (x4 + 1).toNatClampNeg), .int (xs (x4 + 2).toNatClampNeg)]) (rest := []) C cb_L_138 (s_X4_addPrerequisite (gw_l K) Γ r.2 μ (lw_o r.1 o) (xs (x4 + 1).toNatClampNeg) (xs (x4 + 2).toNatClampNeg) q hm) rfl (Nat.le_of_ble_eq_true rfl) gw_atD rfl rfl dL_law_380 (gw_rmo rfl (by show _ ≤ 601024; omega) (by show _ ≤ 7293034; omega)) rfl ?_
  refine gj_istore C 6 [(6, .int q.1), (5, .int (lw_k ["java/lang/IndexOutOfBoundsException", "java/lang/IllegalStateException"] r.1)), (0, .ref b), (1, .ref (gw_a Γ 0)), (2, .ref (gw_a Γ 132)), (3, .ref (gw_a Γ 151)), (4, .int x4)] dL_law_383 (by decide) rfl ?_
  refine gj_aload_n C 4 dL_law_385 rfl ?_
  refine gj_cVi (As := []) (rest := []) C cb_L_128 (s_X4_thrown (gw_l K) Γ r.2 q.2 (lw_o r.1 o) (q.2 0 18) rfl) rfl (Nat.le_of_ble_eq_true rfl) gw_atD rfl rfl dL_law_386 (gw_rmo rfl (by show _ ≤ 601024; omega) (by show _ ≤ 7293034; omega)) rfl ?_
  refine gj_iload C 1 dL_law_389 rfl ?_
  refine gj_ic_eq C 396 dL_law_391 (by decide) (fun _ => ?_) (fun c => absurd ht c)
  refine gj_iload C 1 dL_law_396 rfl ?_
  obtain ⟨r1, r2⟩ := r
  cases r1 with
  | inr e =>
    refine gj_if_ne C 413 dL_law_398 (by decide) (fun _ => ?_) (fun c => ?_)
    · refine gj_goto C 2404 dL_law_413 (by decide) ?_
      exact gj_pick [2, 3, 4, 5, 6] _ rfl k
    · exfalso
      rcases he e rfl with rfl | rfl
      · exact absurd c (show ¬ lw_k ["java/lang/IndexOutOfBoundsException", "java/lang/IllegalStateException"] (.inr "java/lang/IndexOutOfBoundsException") = 0 from by decide +kernel)
      · exact absurd c (show ¬ lw_k ["java/lang/IndexOutOfBoundsException", "java/lang/IllegalStateException"] (.inr "java/lang/IllegalStateException") = 0 from by decide +kernel)
  | inl v =>
    refine gj_if_ne C 413 dL_law_398 (by decide) (fun c => absurd rfl c) (fun _ => ?_)
    refine gj_aload_n C 5 dL_law_401 rfl ?_
    refine gj_iconst (v := 0) C dL_law_402 (by decide) ?_
    refine gj_lald C (vp_in_nI (n := 0) (N := 1) (by decide) (by decide)) dL_law_403 ?_
    refine gj_iload C 0 dL_law_404 rfl ?_
    refine gj_i2l C dL_law_406 ?_
    refine gj_lcmp C dL_law_407 ?_
    refine gj_if_eq C 413 dL_law_408 (by decide) (fun _ => ?_) (fun c => absurd ?_ c)
    · refine gj_goto C 2404 dL_law_413 (by decide) ?_
      exact gj_pick [2, 3, 4, 5, 6] _ rfl k
    · have e := hv v rfl
      subst e
      exact lg_cmp_self _
set_option maxRecDepth 100000 in
set_option maxHeartbeats 4000000 in
theorem lc_requires {K : gw_K} {Γ : gw_G} (C : gw_C K Γ cL_law 7 RL) {b L : Nat} {xs : Nat → Int32} (hX : va_X b L xs (gw_s K) (gw_s K).heap) (hbl : b < (gw_s K).heap.size) (hbA : ¬ gw_A Γ b) (τ μ : gw_S) (o : Nat → Int64) (x4 : Int32) (h1 : vp_in (x4 + 1) L) (h2 : vp_in (x4 + 2) L) (cells slots : Nat) (hc : cells + 2 ≤ 601024) (hs : slots + 12 ≤ 7293034) (r : (Int32 ⊕ String)) (hf : f_X3_requires τ (xs (x4 + 1).toNatClampNeg) (xs (x4 + 2).toNatClampNeg) = some r) (he : ∀ e, r = .inr e → e = "java/lang/IndexOutOfBoundsException") (q : Int32 × gw_S) (hm : f_X4_requires μ (xs (x4 + 1).toNatClampNeg) (xs (x4 + 2).toNatClampNeg) = some q) (ht : q.2 0 18 = lw_k ["java/lang/IndexOutOfBoundsException"] r) (hv : ∀ v, r = .inl v → (v = 0 ↔ q.1 = 0)) (k : gw_J K Γ room_1 (cells + 2) (slots + 12) (gw_W Γ τ q.2 (lw_oz r o)) 2404 [(0, .ref b), (1, .ref (gw_a Γ 0)), (2, .ref (gw_a Γ 132)), (3, .ref (gw_a Γ 151)), (4, .int x4)] []) : gw_J K Γ room_1 cells slots (gw_W Γ τ μ o) 416 [(0, .ref b), (1, .ref (gw_a Γ 0)), (2, .ref (gw_a Γ 132)), (3, .ref (gw_a Γ 151)), (4, .int x4)] [] := by
  refine gj_aload_n C 1 dL_law_416 rfl ?_
  refine gj_aload_n C 0 dL_law_417 rfl ?_
  refine gj_iload C 4 dL_law_418 rfl ?_
  refine gj_iconst (v := 1) C dL_law_420 (by decide) ?_
  refine gj_iadd C dL_law_421 ?_
  refine gj_sld C hX hbl hbA h1 dL_law_422 ?_
  refine gj_aload_n C 0 dL_law_423 rfl ?_
  refine gj_iload C 4 dL_law_424 rfl ?_
  refine gj_iconst (v := 2) C dL_law_426 (by decide) ?_
  refine gj_iadd C dL_law_427 ?_
  refine gj_sld C hX hbl hbA h2 dL_law_428 ?_
  refine gj_aload_n C 3 dL_law_429 rfl ?_
  refine gj_cW (As := [.ref (gw_a Γ 0), .int (xs (x4 + 1).toNatClampNeg), .int (xs (x4 + 2).toNatClampNeg), .ref (gw_a Γ 151)]) (rest := []) C cw_L_139 (w_requires (gw_l K) Γ τ μ o (xs (x4 + 1).toNatClampNeg) (xs (x4 + 2).toNatClampNeg) r hf he) rfl (Nat.le_of_ble_eq_true rfl) dL_law_430 (gw_rmo rfl hc hs) rfl ?_
  refine gj_istore C 5 [(5, .int (lw_k ["java/lang/IndexOutOfBoundsException"] r)), (0, .ref b), (1, .ref (gw_a Γ 0)), (2, .ref (gw_a Γ 132)), (3, .ref (gw_a Γ 151)), (4, .int x4)] dL_law_433 (by decide) rfl ?_
  refine gj_aload_n C 3 dL_law_435 rfl ?_
  refine gj_aload_n C 1 dL_law_436 rfl ?_
  refine gj_iload C 5 dL_law_437 rfl ?_
  refine gj_iconst (v := 1) C dL_law_439 (by decide) ?_
  refine gj_iadd C dL_law_440 ?_
  refine gj_sld C hX hbl hbA h1 dL_law_441 ?_
  refine gj_aload_n C 1 dL_law_442 rfl ?_
  refine gj_iload C 5 dL_law_443 rfl ?_
  refine gj_iconst (v := 2) C dL_law_445 (by decide) ?_
  refine gj_iadd C dL_law_446 ?_
  refine gj_sld C hX hbl hbA h2 dL_law_447 ?_
  refine gj_cVi (As := [.int (xs (x4 + 1).toNatClampNeg), .int (xs (x4 + 2).toNatClampNeg)]) (rest := []) C cb_L_141 (s_X4_requires (gw_l K) Γ τ μ (lw_oz r o) (xs (x4 + 1).toNatClampNeg) (xs (x4 + 2).toNatClampNeg) q hm) rfl (Nat.le_of_ble_eq_true rfl) gw_atD rfl rfl dL_law_448 (gw_rmo rfl (by show _ ≤ 601024; omega) (by show _ ≤ 7293034; omega)) rfl ?_
  refine gj_istore C 6 [(6, .int q.1), (5, .int (lw_k ["java/lang/IndexOutOfBoundsException"] r)), (0, .ref b), (1, .ref (gw_a Γ 0)), (2, .ref (gw_a Γ 132)), (3, .ref (gw_a Γ 151)), (4, .int x4)] dL_law_451 (by decide) rfl ?_
  refine gj_aload_n C 4 dL_law_453 rfl ?_
  refine gj_cVi (As := []) (rest := []) C cb_L_128 (s_X4_thrown (gw_l K) Γ τ q.2 (lw_oz r o) (q.2 0 18) rfl) rfl (Nat.le_of_ble_eq_true rfl) gw_atD rfl rfl dL_law_454 (gw_rmo rfl (by show _ ≤ 601024; omega) (by show _ ≤ 7293034; omega)) rfl ?_
  refine gj_iload C 1 dL_law_457 rfl ?_
  refine gj_ic_eq C 464 dL_law_459 (by decide) (fun _ => ?_) (fun c => absurd ht c)
  refine gj_iload C 1 dL_law_464 rfl ?_
  cases r with
  | inr e =>
    refine gj_if_ne C 488 dL_law_466 (by decide) (fun _ => ?_) (fun c => ?_)
    · refine gj_goto C 2404 dL_law_488 (by decide) ?_
      exact gj_pick [2, 3, 4, 5, 6] _ rfl k
    · exfalso
      rcases he e rfl with rfl
      · exact absurd c (show ¬ lw_k ["java/lang/IndexOutOfBoundsException"] (.inr "java/lang/IndexOutOfBoundsException") = 0 from by decide +kernel)
  | inl v =>
    refine gj_if_ne C 488 dL_law_466 (by decide) (fun c => absurd rfl c) (fun _ => ?_)
    refine gj_aload_n C 5 dL_law_469 rfl ?_
    refine gj_iconst (v := 0) C dL_law_470 (by decide) ?_
    refine gj_lald C (vp_in_nI (n := 0) (N := 1) (by decide) (by decide)) dL_law_471 ?_
    refine gj_iload C 0 dL_law_472 rfl ?_
    refine gj_if_eq C 481 dL_law_474 (by decide) (fun c => ?_) (fun c => ?_)
    · refine gj_lconst (v := 0) C dL_law_481 (by decide) ?_
      refine gj_lcmp C dL_law_482 ?_
      refine gj_if_eq C 488 dL_law_483 (by decide) (fun _ => ?_) (fun c2 => absurd ?_ c2)
      · refine gj_goto C 2404 dL_law_488 (by decide) ?_
        exact gj_pick [2, 3, 4, 5, 6] _ rfl k
      · show lg_cmp (if v = 0 then (0 : Int64) else 1) 0 = 0
        rw [if_pos ((hv v rfl).mpr c)]; exact lg_cmp_self _
    · refine gj_lconst (v := 1) C dL_law_477 (by decide) ?_
      refine gj_goto C 482 dL_law_478 (by decide) ?_
      refine gj_lcmp C dL_law_482 ?_
      refine gj_if_eq C 488 dL_law_483 (by decide) (fun _ => ?_) (fun c2 => absurd ?_ c2)
      · refine gj_goto C 2404 dL_law_488 (by decide) ?_
        exact gj_pick [2, 3, 4, 5, 6] _ rfl k
      · show lg_cmp (if v = 0 then (0 : Int64) else 1) 1 = 0
        rw [if_neg (fun z => c ((hv v rfl).mp z))]; exact lg_cmp_self _
set_option maxRecDepth 100000 in
set_option maxHeartbeats 4000000 in
theorem lc_level {K : gw_K} {Γ : gw_G} (C : gw_C K Γ cL_law 7 RL) {b L : Nat} {xs : Nat → Int32} (hX : va_X b L xs (gw_s K) (gw_s K).heap) (hbl : b < (gw_s K).heap.size) (hbA : ¬ gw_A Γ b) (τ μ : gw_S) (o : Nat → Int64) (x4 : Int32) (h1 : vp_in (x4 + 1) L) (cells slots : Nat) (hc : cells + 1 ≤ 601024) (hs : slots + 6 ≤ 7293034) (r : (Int32 ⊕ String)) (hf : f_X3_level τ (xs (x4 + 1).toNatClampNeg) = some r) (he : ∀ e, r = .inr e → e = "java/lang/IndexOutOfBoundsException") (q : Int32 × gw_S) (hm : f_X4_level μ (xs (x4 + 1).toNatClampNeg) = some q) (ht : q.2 0 18 = lw_k ["java/lang/IndexOutOfBoundsException"] r) (hv : ∀ v, r = .inl v → v = q.1) (k : gw_J K Γ room_1 (cells + 1) (slots + 6) (gw_W Γ τ q.2 (lw_o r o)) 2404 [(0, .ref b), (1, .ref (gw_a Γ 0)), (2, .ref (gw_a Γ 132)), (3, .ref (gw_a Γ 151)), (4, .int x4)] []) : gw_J K Γ room_1 cells slots (gw_W Γ τ μ o) 491 [(0, .ref b), (1, .ref (gw_a Γ 0)), (2, .ref (gw_a Γ 132)), (3, .ref (gw_a Γ 151)), (4, .int x4)] [] := by
  refine gj_aload_n C 1 dL_law_491 rfl ?_
  refine gj_aload_n C 0 dL_law_492 rfl ?_
  refine gj_iload C 4 dL_law_493 rfl ?_
  refine gj_iconst (v := 1) C dL_law_495 (by decide) ?_
  refine gj_iadd C dL_law_496 ?_
  refine gj_sld C hX hbl hbA h1 dL_law_497 ?_
  refine gj_aload_n C 3 dL_law_498 rfl ?_
  refine gj_cW (As := [.ref (gw_a Γ 0), .int (xs (x4 + 1).toNatClampNeg), .ref (gw_a Γ 151)]) (rest := []) C cw_L_142 (w_level (gw_l K) Γ τ μ o (xs (x4 + 1).toNatClampNeg) r hf he) rfl (Nat.le_of_ble_eq_true rfl) dL_law_499 (gw_rmo rfl hc hs) rfl ?_
  refine gj_istore C 5 [(5, .int (lw_k ["java/lang/IndexOutOfBoundsException"] r)), (0, .ref b), (1, .ref (gw_a Γ 0)), (2, .ref (gw_a Γ 132)), (3, .ref (gw_a Γ 151)), (4, .int x4)] dL_law_502 (by decide) rfl ?_
  refine gj_aload_n C 3 dL_law_504 rfl ?_
  refine gj_aload_n C 1 dL_law_505 rfl ?_
  refine gj_iload C 5 dL_law_506 rfl ?_
  refine gj_iconst (v := 1) C dL_law_508 (by decide) ?_
  refine gj_iadd C dL_law_509 ?_
  refine gj_sld C hX hbl hbA h1 dL_law_510 ?_
  refine gj_cVi (As := [.int (xs (x4 + 1).toNatClampNeg)]) (rest := []) C cb_L_145 (s_X4_level (gw_l K) Γ τ μ (lw_o r o) (xs (x4 + 1).toNatClampNeg) q hm) rfl (Nat.le_of_ble_eq_true rfl) gw_atD rfl rfl dL_law_511 (gw_rmo rfl (by show _ ≤ 601024; omega) (by show _ ≤ 7293034; omega)) rfl ?_
  refine gj_istore C 6 [(6, .int q.1), (5, .int (lw_k ["java/lang/IndexOutOfBoundsException"] r)), (0, .ref b), (1, .ref (gw_a Γ 0)), (2, .ref (gw_a Γ 132)), (3, .ref (gw_a Γ 151)), (4, .int x4)] dL_law_514 (by decide) rfl ?_
  refine gj_aload_n C 4 dL_law_516 rfl ?_
  refine gj_cVi (As := []) (rest := []) C cb_L_128 (s_X4_thrown (gw_l K) Γ τ q.2 (lw_o r o) (q.2 0 18) rfl) rfl (Nat.le_of_ble_eq_true rfl) gw_atD rfl rfl dL_law_517 (gw_rmo rfl (by show _ ≤ 601024; omega) (by show _ ≤ 7293034; omega)) rfl ?_
  refine gj_iload C 1 dL_law_520 rfl ?_
  refine gj_ic_eq C 527 dL_law_522 (by decide) (fun _ => ?_) (fun c => absurd ht c)
  refine gj_iload C 1 dL_law_527 rfl ?_
  cases r with
  | inr e =>
    refine gj_if_ne C 544 dL_law_529 (by decide) (fun _ => ?_) (fun c => ?_)
    · refine gj_goto C 2404 dL_law_544 (by decide) ?_
      exact gj_pick [2, 3, 4, 5, 6] _ rfl k
    · exfalso
      rcases he e rfl with rfl
      · exact absurd c (show ¬ lw_k ["java/lang/IndexOutOfBoundsException"] (.inr "java/lang/IndexOutOfBoundsException") = 0 from by decide +kernel)
  | inl v =>
    refine gj_if_ne C 544 dL_law_529 (by decide) (fun c => absurd rfl c) (fun _ => ?_)
    refine gj_aload_n C 5 dL_law_532 rfl ?_
    refine gj_iconst (v := 0) C dL_law_533 (by decide) ?_
    refine gj_lald C (vp_in_nI (n := 0) (N := 1) (by decide) (by decide)) dL_law_534 ?_
    refine gj_iload C 0 dL_law_535 rfl ?_
    refine gj_i2l C dL_law_537 ?_
    refine gj_lcmp C dL_law_538 ?_
    refine gj_if_eq C 544 dL_law_539 (by decide) (fun _ => ?_) (fun c => absurd ?_ c)
    · refine gj_goto C 2404 dL_law_544 (by decide) ?_
      exact gj_pick [2, 3, 4, 5, 6] _ rfl k
    · have e := hv v rfl
      subst e
      exact lg_cmp_self _
set_option maxRecDepth 100000 in
set_option maxHeartbeats 4000000 in
theorem lc_courses {K : gw_K} {Γ : gw_G} (C : gw_C K Γ cL_law 7 RL) {b L : Nat} {xs : Nat → Int32} (hX : va_X b L xs (gw_s K) (gw_s K).heap) (hbl : b < (gw_s K).heap.size) (hbA : ¬ gw_A Γ b) (τ μ : gw_S) (o : Nat → Int64) (x4 : Int32) (cells slots : Nat) (hc : cells ≤ 601024) (hs : slots ≤ 7293034) (r : Int32) (hf : f_X3_courses τ = some r) (q : Int32 × gw_S) (hm : f_X4_courses μ = some q) (hv : r = q.1) (k : gw_J K Γ room_1 cells slots (gw_W Γ τ q.2 o) 2404 [(0, .ref b), (1, .ref (gw_a Γ 0)), (2, .ref (gw_a Γ 132)), (3, .ref (gw_a Γ 151)), (4, .int x4)] []) : gw_J K Γ room_1 cells slots (gw_W Γ τ μ o) 547 [(0, .ref b), (1, .ref (gw_a Γ 0)), (2, .ref (gw_a Γ 132)), (3, .ref (gw_a Γ 151)), (4, .int x4)] [] := by
  refine gj_aload_n C 1 dL_law_547 rfl ?_
  refine gj_cVi (As := []) (rest := []) C cb_L_146 (s_X3_courses (gw_l K) Γ τ μ o r hf) rfl (Nat.le_of_ble_eq_true rfl) gw_atM rfl rfl dL_law_548 (gw_rmo rfl hc hs) rfl ?_
  refine gj_aload_n C 2 dL_law_551 rfl ?_
  refine gj_cVi (As := []) (rest := [.int r]) C cb_L_149 (s_X4_courses (gw_l K) Γ τ μ o q hm) rfl (Nat.le_of_ble_eq_true rfl) gw_atD rfl rfl dL_law_552 (gw_rmo rfl hc hs) rfl ?_
  exact gj_ic_eq C 2404 dL_law_555 (by decide) (fun _ => k) (fun c => absurd hv c)
set_option maxRecDepth 100000 in
set_option maxHeartbeats 4000000 in
theorem lc_enrolled {K : gw_K} {Γ : gw_G} (C : gw_C K Γ cL_law 7 RL) {b L : Nat} {xs : Nat → Int32} (hX : va_X b L xs (gw_s K) (gw_s K).heap) (hbl : b < (gw_s K).heap.size) (hbA : ¬ gw_A Γ b) (τ μ : gw_S) (o : Nat → Int64) (x4 : Int32) (h1 : vp_in (x4 + 1) L) (cells slots : Nat) (hc : cells + 1 ≤ 601024) (hs : slots + 6 ≤ 7293034) (r : (Int32 ⊕ String)) (hf : f_X3_enrolled τ (xs (x4 + 1).toNatClampNeg) = some r) (he : ∀ e, r = .inr e → e = "java/lang/IndexOutOfBoundsException") (q : Int32 × gw_S) (hm : f_X4_enrolled μ (xs (x4 + 1).toNatClampNeg) = some q) (ht : q.2 0 18 = lw_k ["java/lang/IndexOutOfBoundsException"] r) (hv : ∀ v, r = .inl v → v = q.1) (k : gw_J K Γ room_1 (cells + 1) (slots + 6) (gw_W Γ τ q.2 (lw_o r o)) 2404 [(0, .ref b), (1, .ref (gw_a Γ 0)), (2, .ref (gw_a Γ 132)), (3, .ref (gw_a Γ 151)), (4, .int x4)] []) : gw_J K Γ room_1 cells slots (gw_W Γ τ μ o) 560 [(0, .ref b), (1, .ref (gw_a Γ 0)), (2, .ref (gw_a Γ 132)), (3, .ref (gw_a Γ 151)), (4, .int x4)] [] := by
  refine gj_aload_n C 1 dL_law_560 rfl ?_
  refine gj_aload_n C 0 dL_law_561 rfl ?_
  refine gj_iload C 4 dL_law_562 rfl ?_
  refine gj_iconst (v := 1) C dL_law_564 (by decide) ?_
  refine gj_iadd C dL_law_565 ?_
  refine gj_sld C hX hbl hbA h1 dL_law_566 ?_
  refine gj_aload_n C 3 dL_law_567 rfl ?_
  refine gj_cW (As := [.ref (gw_a Γ 0), .int (xs (x4 + 1).toNatClampNeg), .ref (gw_a Γ 151)]) (rest := []) C cw_L_150 (w_enrolled (gw_l K) Γ τ μ o (xs (x4 + 1).toNatClampNeg) r hf he) rfl (Nat.le_of_ble_eq_true rfl) dL_law_568 (gw_rmo rfl hc hs) rfl ?_
  refine gj_istore C 5 [(5, .int (lw_k ["java/lang/IndexOutOfBoundsException"] r)), (0, .ref b), (1, .ref (gw_a Γ 0)), (2, .ref (gw_a Γ 132)), (3, .ref (gw_a Γ 151)), (4, .int x4)] dL_law_571 (by decide) rfl ?_
  refine gj_aload_n C 3 dL_law_573 rfl ?_
  refine gj_aload_n C 1 dL_law_574 rfl ?_
  refine gj_iload C 5 dL_law_575 rfl ?_
  refine gj_iconst (v := 1) C dL_law_577 (by decide) ?_
  refine gj_iadd C dL_law_578 ?_
  refine gj_sld C hX hbl hbA h1 dL_law_579 ?_
  refine gj_cVi (As := [.int (xs (x4 + 1).toNatClampNeg)]) (rest := []) C cb_L_152 (s_X4_enrolled (gw_l K) Γ τ μ (lw_o r o) (xs (x4 + 1).toNatClampNeg) q hm) rfl (Nat.le_of_ble_eq_true rfl) gw_atD rfl rfl dL_law_580 (gw_rmo rfl (by show _ ≤ 601024; omega) (by show _ ≤ 7293034; omega)) rfl ?_
  refine gj_istore C 6 [(6, .int q.1), (5, .int (lw_k ["java/lang/IndexOutOfBoundsException"] r)), (0, .ref b), (1, .ref (gw_a Γ 0)), (2, .ref (gw_a Γ 132)), (3, .ref (gw_a Γ 151)), (4, .int x4)] dL_law_583 (by decide) rfl ?_
  refine gj_aload_n C 4 dL_law_585 rfl ?_
  refine gj_cVi (As := []) (rest := []) C cb_L_128 (s_X4_thrown (gw_l K) Γ τ q.2 (lw_o r o) (q.2 0 18) rfl) rfl (Nat.le_of_ble_eq_true rfl) gw_atD rfl rfl dL_law_586 (gw_rmo rfl (by show _ ≤ 601024; omega) (by show _ ≤ 7293034; omega)) rfl ?_
  refine gj_iload C 1 dL_law_589 rfl ?_
  refine gj_ic_eq C 596 dL_law_591 (by decide) (fun _ => ?_) (fun c => absurd ht c)
  refine gj_iload C 1 dL_law_596 rfl ?_
  cases r with
  | inr e =>
    refine gj_if_ne C 613 dL_law_598 (by decide) (fun _ => ?_) (fun c => ?_)
    · refine gj_goto C 2404 dL_law_613 (by decide) ?_
      exact gj_pick [2, 3, 4, 5, 6] _ rfl k
    · exfalso
      rcases he e rfl with rfl
      · exact absurd c (show ¬ lw_k ["java/lang/IndexOutOfBoundsException"] (.inr "java/lang/IndexOutOfBoundsException") = 0 from by decide +kernel)
  | inl v =>
    refine gj_if_ne C 613 dL_law_598 (by decide) (fun c => absurd rfl c) (fun _ => ?_)
    refine gj_aload_n C 5 dL_law_601 rfl ?_
    refine gj_iconst (v := 0) C dL_law_602 (by decide) ?_
    refine gj_lald C (vp_in_nI (n := 0) (N := 1) (by decide) (by decide)) dL_law_603 ?_
    refine gj_iload C 0 dL_law_604 rfl ?_
    refine gj_i2l C dL_law_606 ?_
    refine gj_lcmp C dL_law_607 ?_
    refine gj_if_eq C 613 dL_law_608 (by decide) (fun _ => ?_) (fun c => absurd ?_ c)
    · refine gj_goto C 2404 dL_law_613 (by decide) ?_
      exact gj_pick [2, 3, 4, 5, 6] _ rfl k
    · have e := hv v rfl
      subst e
      exact lg_cmp_self _
set_option maxRecDepth 100000 in
set_option maxHeartbeats 4000000 in
theorem lc_freeSeats {K : gw_K} {Γ : gw_G} (C : gw_C K Γ cL_law 7 RL) {b L : Nat} {xs : Nat → Int32} (hX : va_X b L xs (gw_s K) (gw_s K).heap) (hbl : b < (gw_s K).heap.size) (hbA : ¬ gw_A Γ b) (τ μ : gw_S) (o : Nat → Int64) (x4 : Int32) (h1 : vp_in (x4 + 1) L) (cells slots : Nat) (hc : cells + 1 ≤ 601024) (hs : slots + 6 ≤ 7293034) (r : (Int32 ⊕ String)) (hf : f_X3_freeSeats τ (xs (x4 + 1).toNatClampNeg) = some r) (he : ∀ e, r = .inr e → e = "java/lang/IndexOutOfBoundsException") (q : Int32 × gw_S) (hm : f_X4_freeSeats μ (xs (x4 + 1).toNatClampNeg) = some q) (ht : q.2 0 18 = lw_k ["java/lang/IndexOutOfBoundsException"] r) (hv : ∀ v, r = .inl v → v = q.1) (k : gw_J K Γ room_1 (cells + 1) (slots + 6) (gw_W Γ τ q.2 (lw_o r o)) 2404 [(0, .ref b), (1, .ref (gw_a Γ 0)), (2, .ref (gw_a Γ 132)), (3, .ref (gw_a Γ 151)), (4, .int x4)] []) : gw_J K Γ room_1 cells slots (gw_W Γ τ μ o) 616 [(0, .ref b), (1, .ref (gw_a Γ 0)), (2, .ref (gw_a Γ 132)), (3, .ref (gw_a Γ 151)), (4, .int x4)] [] := by
  refine gj_aload_n C 1 dL_law_616 rfl ?_
  refine gj_aload_n C 0 dL_law_617 rfl ?_
  refine gj_iload C 4 dL_law_618 rfl ?_
  refine gj_iconst (v := 1) C dL_law_620 (by decide) ?_
  refine gj_iadd C dL_law_621 ?_
  refine gj_sld C hX hbl hbA h1 dL_law_622 ?_
  refine gj_aload_n C 3 dL_law_623 rfl ?_
  refine gj_cW (As := [.ref (gw_a Γ 0), .int (xs (x4 + 1).toNatClampNeg), .ref (gw_a Γ 151)]) (rest := []) C cw_L_153 (w_freeSeats (gw_l K) Γ τ μ o (xs (x4 + 1).toNatClampNeg) r hf he) rfl (Nat.le_of_ble_eq_true rfl) dL_law_624 (gw_rmo rfl hc hs) rfl ?_
  refine gj_istore C 5 [(5, .int (lw_k ["java/lang/IndexOutOfBoundsException"] r)), (0, .ref b), (1, .ref (gw_a Γ 0)), (2, .ref (gw_a Γ 132)), (3, .ref (gw_a Γ 151)), (4, .int x4)] dL_law_627 (by decide) rfl ?_
  refine gj_aload_n C 3 dL_law_629 rfl ?_
  refine gj_aload_n C 1 dL_law_630 rfl ?_
  refine gj_iload C 5 dL_law_631 rfl ?_
  refine gj_iconst (v := 1) C dL_law_633 (by decide) ?_
  refine gj_iadd C dL_law_634 ?_
  refine gj_sld C hX hbl hbA h1 dL_law_635 ?_
  refine gj_cVi (As := [.int (xs (x4 + 1).toNatClampNeg)]) (rest := []) C cb_L_155 (s_X4_freeSeats (gw_l K) Γ τ μ (lw_o r o) (xs (x4 + 1).toNatClampNeg) q hm) rfl (Nat.le_of_ble_eq_true rfl) gw_atD rfl rfl dL_law_636 (gw_rmo rfl (by show _ ≤ 601024; omega) (by show _ ≤ 7293034; omega)) rfl ?_
  refine gj_istore C 6 [(6, .int q.1), (5, .int (lw_k ["java/lang/IndexOutOfBoundsException"] r)), (0, .ref b), (1, .ref (gw_a Γ 0)), (2, .ref (gw_a Γ 132)), (3, .ref (gw_a Γ 151)), (4, .int x4)] dL_law_639 (by decide) rfl ?_
  refine gj_aload_n C 4 dL_law_641 rfl ?_
  refine gj_cVi (As := []) (rest := []) C cb_L_128 (s_X4_thrown (gw_l K) Γ τ q.2 (lw_o r o) (q.2 0 18) rfl) rfl (Nat.le_of_ble_eq_true rfl) gw_atD rfl rfl dL_law_642 (gw_rmo rfl (by show _ ≤ 601024; omega) (by show _ ≤ 7293034; omega)) rfl ?_
  refine gj_iload C 1 dL_law_645 rfl ?_
  refine gj_ic_eq C 652 dL_law_647 (by decide) (fun _ => ?_) (fun c => absurd ht c)
  refine gj_iload C 1 dL_law_652 rfl ?_
  cases r with
  | inr e =>
    refine gj_if_ne C 669 dL_law_654 (by decide) (fun _ => ?_) (fun c => ?_)
    · refine gj_goto C 2404 dL_law_669 (by decide) ?_
      exact gj_pick [2, 3, 4, 5, 6] _ rfl k
    · exfalso
      rcases he e rfl with rfl
      · exact absurd c (show ¬ lw_k ["java/lang/IndexOutOfBoundsException"] (.inr "java/lang/IndexOutOfBoundsException") = 0 from by decide +kernel)
  | inl v =>
    refine gj_if_ne C 669 dL_law_654 (by decide) (fun c => absurd rfl c) (fun _ => ?_)
    refine gj_aload_n C 5 dL_law_657 rfl ?_
    refine gj_iconst (v := 0) C dL_law_658 (by decide) ?_
    refine gj_lald C (vp_in_nI (n := 0) (N := 1) (by decide) (by decide)) dL_law_659 ?_
    refine gj_iload C 0 dL_law_660 rfl ?_
    refine gj_i2l C dL_law_662 ?_
    refine gj_lcmp C dL_law_663 ?_
    refine gj_if_eq C 669 dL_law_664 (by decide) (fun _ => ?_) (fun c => absurd ?_ c)
    · refine gj_goto C 2404 dL_law_669 (by decide) ?_
      exact gj_pick [2, 3, 4, 5, 6] _ rfl k
    · have e := hv v rfl
      subst e
      exact lg_cmp_self _
set_option maxRecDepth 100000 in
set_option maxHeartbeats 4000000 in
theorem lc_addStudent {K : gw_K} {Γ : gw_G} (C : gw_C K Γ cL_law 7 RL) {b L : Nat} {xs : Nat → Int32} (hX : va_X b L xs (gw_s K) (gw_s K).heap) (hbl : b < (gw_s K).heap.size) (hbA : ¬ gw_A Γ b) (τ μ : gw_S) (o : Nat → Int64) (x4 : Int32) (h1 : vp_in (x4 + 1) L) (h2 : vp_in (x4 + 2) L) (cells slots : Nat) (hc : cells + 1 ≤ 601024) (hs : slots + 6 ≤ 7293034) (r : (Int32 ⊕ String) × gw_S) (hf : f_X3_addStudent τ (xs (x4 + 1).toNatClampNeg) (xs (x4 + 2).toNatClampNeg) = some r) (he : ∀ e, r.1 = .inr e → e = "java/lang/IllegalArgumentException" ∨ e = "java/lang/IllegalStateException") (q : Int32 × gw_S) (hm : f_X4_addStudent μ (xs (x4 + 1).toNatClampNeg) (xs (x4 + 2).toNatClampNeg) = some q) (ht : q.2 0 18 = lw_k ["java/lang/IllegalArgumentException", "java/lang/IllegalStateException"] r.1) (hv : ∀ v, r.1 = .inl v → v = q.1) (k : gw_J K Γ room_1 (cells + 1) (slots + 6) (gw_W Γ r.2 q.2 (lw_o r.1 o)) 2404 [(0, .ref b), (1, .ref (gw_a Γ 0)), (2, .ref (gw_a Γ 132)), (3, .ref (gw_a Γ 151)), (4, .int x4)] []) : gw_J K Γ room_1 cells slots (gw_W Γ τ μ o) 672 [(0, .ref b), (1, .ref (gw_a Γ 0)), (2, .ref (gw_a Γ 132)), (3, .ref (gw_a Γ 151)), (4, .int x4)] [] := by
  refine gj_aload_n C 1 dL_law_672 rfl ?_
  refine gj_aload_n C 0 dL_law_673 rfl ?_
  refine gj_iload C 4 dL_law_674 rfl ?_
  refine gj_iconst (v := 1) C dL_law_676 (by decide) ?_
  refine gj_iadd C dL_law_677 ?_
  refine gj_sld C hX hbl hbA h1 dL_law_678 ?_
  refine gj_aload_n C 0 dL_law_679 rfl ?_
  refine gj_iload C 4 dL_law_680 rfl ?_
  refine gj_iconst (v := 2) C dL_law_682 (by decide) ?_
  refine gj_iadd C dL_law_683 ?_
  refine gj_sld C hX hbl hbA h2 dL_law_684 ?_
  refine gj_aload_n C 3 dL_law_685 rfl ?_
  refine gj_cW (As := [.ref (gw_a Γ 0), .int (xs (x4 + 1).toNatClampNeg), .int (xs (x4 + 2).toNatClampNeg), .ref (gw_a Γ 151)]) (rest := []) C cw_L_156 (w_addStudent (gw_l K) Γ τ μ o (xs (x4 + 1).toNatClampNeg) (xs (x4 + 2).toNatClampNeg) r hf he) rfl (Nat.le_of_ble_eq_true rfl) dL_law_686 (gw_rmo rfl hc hs) rfl ?_
  refine gj_istore C 5 [(5, .int (lw_k ["java/lang/IllegalArgumentException", "java/lang/IllegalStateException"] r.1)), (0, .ref b), (1, .ref (gw_a Γ 0)), (2, .ref (gw_a Γ 132)), (3, .ref (gw_a Γ 151)), (4, .int x4)] dL_law_689 (by decide) rfl ?_
  refine gj_aload_n C 3 dL_law_691 rfl ?_
  refine gj_aload_n C 1 dL_law_692 rfl ?_
  refine gj_iload C 5 dL_law_693 rfl ?_
  refine gj_iconst (v := 1) C dL_law_695 (by decide) ?_
  refine gj_iadd C dL_law_696 ?_
  refine gj_sld C hX hbl hbA h1 dL_law_697 ?_
  refine gj_aload_n C 1 dL_law_698 rfl ?_
  refine gj_iload C 5 dL_law_699 rfl ?_
  refine gj_iconst (v := 2) C dL_law_701 (by decide) ?_
  refine gj_iadd C dL_law_702 ?_
  refine gj_sld C hX hbl hbA h2 dL_law_703 ?_
  refine gj_cVi (As := [.int (xs (x4 + 1).toNatClampNeg), .int (xs (x4 + 2).toNatClampNeg)]) (rest := []) C cb_L_158 (s_X4_addStudent (gw_l K) Γ r.2 μ (lw_o r.1 o) (xs (x4 + 1).toNatClampNeg) (xs (x4 + 2).toNatClampNeg) q hm) rfl (Nat.le_of_ble_eq_true rfl) gw_atD rfl rfl dL_law_704 (gw_rmo rfl (by show _ ≤ 601024; omega) (by show _ ≤ 7293034; omega)) rfl ?_
  refine gj_istore C 6 [(6, .int q.1), (5, .int (lw_k ["java/lang/IllegalArgumentException", "java/lang/IllegalStateException"] r.1)), (0, .ref b), (1, .ref (gw_a Γ 0)), (2, .ref (gw_a Γ 132)), (3, .ref (gw_a Γ 151)), (4, .int x4)] dL_law_707 (by decide) rfl ?_
  refine gj_aload_n C 4 dL_law_709 rfl ?_
  refine gj_cVi (As := []) (rest := []) C cb_L_128 (s_X4_thrown (gw_l K) Γ r.2 q.2 (lw_o r.1 o) (q.2 0 18) rfl) rfl (Nat.le_of_ble_eq_true rfl) gw_atD rfl rfl dL_law_710 (gw_rmo rfl (by show _ ≤ 601024; omega) (by show _ ≤ 7293034; omega)) rfl ?_
  refine gj_iload C 1 dL_law_713 rfl ?_
  refine gj_ic_eq C 720 dL_law_715 (by decide) (fun _ => ?_) (fun c => absurd ht c)
  refine gj_iload C 1 dL_law_720 rfl ?_
  obtain ⟨r1, r2⟩ := r
  cases r1 with
  | inr e =>
    refine gj_if_ne C 737 dL_law_722 (by decide) (fun _ => ?_) (fun c => ?_)
    · refine gj_goto C 2404 dL_law_737 (by decide) ?_
      exact gj_pick [2, 3, 4, 5, 6] _ rfl k
    · exfalso
      rcases he e rfl with rfl | rfl
      · exact absurd c (show ¬ lw_k ["java/lang/IllegalArgumentException", "java/lang/IllegalStateException"] (.inr "java/lang/IllegalArgumentException") = 0 from by decide +kernel)
      · exact absurd c (show ¬ lw_k ["java/lang/IllegalArgumentException", "java/lang/IllegalStateException"] (.inr "java/lang/IllegalStateException") = 0 from by decide +kernel)
  | inl v =>
    refine gj_if_ne C 737 dL_law_722 (by decide) (fun c => absurd rfl c) (fun _ => ?_)
    refine gj_aload_n C 5 dL_law_725 rfl ?_
    refine gj_iconst (v := 0) C dL_law_726 (by decide) ?_
    refine gj_lald C (vp_in_nI (n := 0) (N := 1) (by decide) (by decide)) dL_law_727 ?_
    refine gj_iload C 0 dL_law_728 rfl ?_
    refine gj_i2l C dL_law_730 ?_
    refine gj_lcmp C dL_law_731 ?_
    refine gj_if_eq C 737 dL_law_732 (by decide) (fun _ => ?_) (fun c => absurd ?_ c)
    · refine gj_goto C 2404 dL_law_737 (by decide) ?_
      exact gj_pick [2, 3, 4, 5, 6] _ rfl k
    · have e := hv v rfl
      subst e
      exact lg_cmp_self _
set_option maxRecDepth 100000 in
set_option maxHeartbeats 4000000 in
theorem lc_pass {K : gw_K} {Γ : gw_G} (C : gw_C K Γ cL_law 7 RL) {b L : Nat} {xs : Nat → Int32} (hX : va_X b L xs (gw_s K) (gw_s K).heap) (hbl : b < (gw_s K).heap.size) (hbA : ¬ gw_A Γ b) (τ μ : gw_S) (o : Nat → Int64) (x4 : Int32) (h1 : vp_in (x4 + 1) L) (h2 : vp_in (x4 + 2) L) (cells slots : Nat) (hc : cells + 3 ≤ 601024) (hs : slots + 18 ≤ 7293034) (r : (Int32 ⊕ String) × gw_S) (hf : f_X3_pass τ (xs (x4 + 1).toNatClampNeg) (xs (x4 + 2).toNatClampNeg) = some r) (he : ∀ e, r.1 = .inr e → e = "java/lang/IndexOutOfBoundsException" ∨ e = "java/lang/IllegalStateException") (q : Int32 × gw_S) (hm : f_X4_pass μ (xs (x4 + 1).toNatClampNeg) (xs (x4 + 2).toNatClampNeg) = some q) (ht : q.2 0 18 = lw_k ["java/lang/IndexOutOfBoundsException", "java/lang/IllegalStateException"] r.1) (hv : ∀ v, r.1 = .inl v → v = q.1) (k : gw_J K Γ room_1 (cells + 3) (slots + 18) (gw_W Γ r.2 q.2 (lw_o r.1 o)) 2404 [(0, .ref b), (1, .ref (gw_a Γ 0)), (2, .ref (gw_a Γ 132)), (3, .ref (gw_a Γ 151)), (4, .int x4)] []) : gw_J K Γ room_1 cells slots (gw_W Γ τ μ o) 740 [(0, .ref b), (1, .ref (gw_a Γ 0)), (2, .ref (gw_a Γ 132)), (3, .ref (gw_a Γ 151)), (4, .int x4)] [] := by
  refine gj_aload_n C 1 dL_law_740 rfl ?_
  refine gj_aload_n C 0 dL_law_741 rfl ?_
  refine gj_iload C 4 dL_law_742 rfl ?_
  refine gj_iconst (v := 1) C dL_law_744 (by decide) ?_
  refine gj_iadd C dL_law_745 ?_
  refine gj_sld C hX hbl hbA h1 dL_law_746 ?_
  refine gj_aload_n C 0 dL_law_747 rfl ?_
  refine gj_iload C 4 dL_law_748 rfl ?_
  refine gj_iconst (v := 2) C dL_law_750 (by decide) ?_
  refine gj_iadd C dL_law_751 ?_
  refine gj_sld C hX hbl hbA h2 dL_law_752 ?_
  refine gj_aload_n C 3 dL_law_753 rfl ?_
  refine gj_cW (As := [.ref (gw_a Γ 0), .int (xs (x4 + 1).toNatClampNeg), .int (xs (x4 + 2).toNatClampNeg), .ref (gw_a Γ 151)]) (rest := []) C cw_L_159 (w_pass (gw_l K) Γ τ μ o (xs (x4 + 1).toNatClampNeg) (xs (x4 + 2).toNatClampNeg) r hf he) rfl (Nat.le_of_ble_eq_true rfl) dL_law_754 (gw_rmo rfl hc hs) rfl ?_
  refine gj_istore C 5 [(5, .int (lw_k ["java/lang/IndexOutOfBoundsException", "java/lang/IllegalStateException"] r.1)), (0, .ref b), (1, .ref (gw_a Γ 0)), (2, .ref (gw_a Γ 132)), (3, .ref (gw_a Γ 151)), (4, .int x4)] dL_law_757 (by decide) rfl ?_
  refine gj_aload_n C 3 dL_law_759 rfl ?_
  refine gj_aload_n C 1 dL_law_760 rfl ?_
  refine gj_iload C 5 dL_law_761 rfl ?_
  refine gj_iconst (v := 1) C dL_law_763 (by decide) ?_
  refine gj_iadd C dL_law_764 ?_
  refine gj_sld C hX hbl hbA h1 dL_law_765 ?_
  refine gj_aload_n C 1 dL_law_766 rfl ?_
  refine gj_iload C 5 dL_law_767 rfl ?_
  refine gj_iconst (v := 2) C dL_law_769 (by decide) ?_
  refine gj_iadd C dL_law_770 ?_
  refine gj_sld C hX hbl hbA h2 dL_law_771 ?_
  refine gj_cVi (As := [.int (xs (x4 + 1).toNatClampNeg), .int (xs (x4 + 2).toNatClampNeg)]) (rest := []) C cb_L_161 (s_X4_pass (gw_l K) Γ r.2 μ (lw_o r.1 o) (xs (x4 + 1).toNatClampNeg) (xs (x4 + 2).toNatClampNeg) q hm) rfl (Nat.le_of_ble_eq_true rfl) gw_atD rfl rfl dL_law_772 (gw_rmo rfl (by show _ ≤ 601024; omega) (by show _ ≤ 7293034; omega)) rfl ?_
  refine gj_istore C 6 [(6, .int q.1), (5, .int (lw_k ["java/lang/IndexOutOfBoundsException", "java/lang/IllegalStateException"] r.1)), (0, .ref b), (1, .ref (gw_a Γ 0)), (2, .ref (gw_a Γ 132)), (3, .ref (gw_a Γ 151)), (4, .int x4)] dL_law_775 (by decide) rfl ?_
  refine gj_aload_n C 4 dL_law_777 rfl ?_
  refine gj_cVi (As := []) (rest := []) C cb_L_128 (s_X4_thrown (gw_l K) Γ r.2 q.2 (lw_o r.1 o) (q.2 0 18) rfl) rfl (Nat.le_of_ble_eq_true rfl) gw_atD rfl rfl dL_law_778 (gw_rmo rfl (by show _ ≤ 601024; omega) (by show _ ≤ 7293034; omega)) rfl ?_
  refine gj_iload C 1 dL_law_781 rfl ?_
  refine gj_ic_eq C 788 dL_law_783 (by decide) (fun _ => ?_) (fun c => absurd ht c)
  refine gj_iload C 1 dL_law_788 rfl ?_
  obtain ⟨r1, r2⟩ := r
  cases r1 with
  | inr e =>
    refine gj_if_ne C 805 dL_law_790 (by decide) (fun _ => ?_) (fun c => ?_)
    · refine gj_goto C 2404 dL_law_805 (by decide) ?_
      exact gj_pick [2, 3, 4, 5, 6] _ rfl k
    · exfalso
      rcases he e rfl with rfl | rfl
      · exact absurd c (show ¬ lw_k ["java/lang/IndexOutOfBoundsException", "java/lang/IllegalStateException"] (.inr "java/lang/IndexOutOfBoundsException") = 0 from by decide +kernel)
      · exact absurd c (show ¬ lw_k ["java/lang/IndexOutOfBoundsException", "java/lang/IllegalStateException"] (.inr "java/lang/IllegalStateException") = 0 from by decide +kernel)
  | inl v =>
    refine gj_if_ne C 805 dL_law_790 (by decide) (fun c => absurd rfl c) (fun _ => ?_)
    refine gj_aload_n C 5 dL_law_793 rfl ?_
    refine gj_iconst (v := 0) C dL_law_794 (by decide) ?_
    refine gj_lald C (vp_in_nI (n := 0) (N := 1) (by decide) (by decide)) dL_law_795 ?_
    refine gj_iload C 0 dL_law_796 rfl ?_
    refine gj_i2l C dL_law_798 ?_
    refine gj_lcmp C dL_law_799 ?_
    refine gj_if_eq C 805 dL_law_800 (by decide) (fun _ => ?_) (fun c => absurd ?_ c)
    · refine gj_goto C 2404 dL_law_805 (by decide) ?_
      exact gj_pick [2, 3, 4, 5, 6] _ rfl k
    · have e := hv v rfl
      subst e
      exact lg_cmp_self _
set_option maxRecDepth 100000 in
set_option maxHeartbeats 4000000 in
theorem lc_students {K : gw_K} {Γ : gw_G} (C : gw_C K Γ cL_law 7 RL) {b L : Nat} {xs : Nat → Int32} (hX : va_X b L xs (gw_s K) (gw_s K).heap) (hbl : b < (gw_s K).heap.size) (hbA : ¬ gw_A Γ b) (τ μ : gw_S) (o : Nat → Int64) (x4 : Int32) (cells slots : Nat) (hc : cells ≤ 601024) (hs : slots ≤ 7293034) (r : Int32) (hf : f_X3_students τ = some r) (q : Int32 × gw_S) (hm : f_X4_students μ = some q) (hv : r = q.1) (k : gw_J K Γ room_1 cells slots (gw_W Γ τ q.2 o) 2404 [(0, .ref b), (1, .ref (gw_a Γ 0)), (2, .ref (gw_a Γ 132)), (3, .ref (gw_a Γ 151)), (4, .int x4)] []) : gw_J K Γ room_1 cells slots (gw_W Γ τ μ o) 808 [(0, .ref b), (1, .ref (gw_a Γ 0)), (2, .ref (gw_a Γ 132)), (3, .ref (gw_a Γ 151)), (4, .int x4)] [] := by
  refine gj_aload_n C 1 dL_law_808 rfl ?_
  refine gj_cVi (As := []) (rest := []) C cb_L_162 (s_X3_students (gw_l K) Γ τ μ o r hf) rfl (Nat.le_of_ble_eq_true rfl) gw_atM rfl rfl dL_law_809 (gw_rmo rfl hc hs) rfl ?_
  refine gj_aload_n C 2 dL_law_812 rfl ?_
  refine gj_cVi (As := []) (rest := [.int r]) C cb_L_165 (s_X4_students (gw_l K) Γ τ μ o q hm) rfl (Nat.le_of_ble_eq_true rfl) gw_atD rfl rfl dL_law_813 (gw_rmo rfl hc hs) rfl ?_
  exact gj_ic_eq C 2404 dL_law_816 (by decide) (fun _ => k) (fun c => absurd hv c)
set_option maxRecDepth 100000 in
set_option maxHeartbeats 4000000 in
theorem lc_hasPassed {K : gw_K} {Γ : gw_G} (C : gw_C K Γ cL_law 7 RL) {b L : Nat} {xs : Nat → Int32} (hX : va_X b L xs (gw_s K) (gw_s K).heap) (hbl : b < (gw_s K).heap.size) (hbA : ¬ gw_A Γ b) (τ μ : gw_S) (o : Nat → Int64) (x4 : Int32) (h1 : vp_in (x4 + 1) L) (h2 : vp_in (x4 + 2) L) (cells slots : Nat) (hc : cells + 2 ≤ 601024) (hs : slots + 12 ≤ 7293034) (r : (Int32 ⊕ String)) (hf : f_X3_hasPassed τ (xs (x4 + 1).toNatClampNeg) (xs (x4 + 2).toNatClampNeg) = some r) (he : ∀ e, r = .inr e → e = "java/lang/IndexOutOfBoundsException") (q : Int32 × gw_S) (hm : f_X4_hasPassed μ (xs (x4 + 1).toNatClampNeg) (xs (x4 + 2).toNatClampNeg) = some q) (ht : q.2 0 18 = lw_k ["java/lang/IndexOutOfBoundsException"] r) (hv : ∀ v, r = .inl v → (v = 0 ↔ q.1 = 0)) (k : gw_J K Γ room_1 (cells + 2) (slots + 12) (gw_W Γ τ q.2 (lw_oz r o)) 2404 [(0, .ref b), (1, .ref (gw_a Γ 0)), (2, .ref (gw_a Γ 132)), (3, .ref (gw_a Γ 151)), (4, .int x4)] []) : gw_J K Γ room_1 cells slots (gw_W Γ τ μ o) 821 [(0, .ref b), (1, .ref (gw_a Γ 0)), (2, .ref (gw_a Γ 132)), (3, .ref (gw_a Γ 151)), (4, .int x4)] [] := by
  refine gj_aload_n C 1 dL_law_821 rfl ?_
  refine gj_aload_n C 0 dL_law_822 rfl ?_
  refine gj_iload C 4 dL_law_823 rfl ?_
  refine gj_iconst (v := 1) C dL_law_825 (by decide) ?_
  refine gj_iadd C dL_law_826 ?_
  refine gj_sld C hX hbl hbA h1 dL_law_827 ?_
  refine gj_aload_n C 0 dL_law_828 rfl ?_
  refine gj_iload C 4 dL_law_829 rfl ?_
  refine gj_iconst (v := 2) C dL_law_831 (by decide) ?_
  refine gj_iadd C dL_law_832 ?_
  refine gj_sld C hX hbl hbA h2 dL_law_833 ?_
  refine gj_aload_n C 3 dL_law_834 rfl ?_
  refine gj_cW (As := [.ref (gw_a Γ 0), .int (xs (x4 + 1).toNatClampNeg), .int (xs (x4 + 2).toNatClampNeg), .ref (gw_a Γ 151)]) (rest := []) C cw_L_166 (w_hasPassed (gw_l K) Γ τ μ o (xs (x4 + 1).toNatClampNeg) (xs (x4 + 2).toNatClampNeg) r hf he) rfl (Nat.le_of_ble_eq_true rfl) dL_law_835 (gw_rmo rfl hc hs) rfl ?_
  refine gj_istore C 5 [(5, .int (lw_k ["java/lang/IndexOutOfBoundsException"] r)), (0, .ref b), (1, .ref (gw_a Γ 0)), (2, .ref (gw_a Γ 132)), (3, .ref (gw_a Γ 151)), (4, .int x4)] dL_law_838 (by decide) rfl ?_
  refine gj_aload_n C 3 dL_law_840 rfl ?_
  refine gj_aload_n C 1 dL_law_841 rfl ?_
  refine gj_iload C 5 dL_law_842 rfl ?_
  refine gj_iconst (v := 1) C dL_law_844 (by decide) ?_
  refine gj_iadd C dL_law_845 ?_
  refine gj_sld C hX hbl hbA h1 dL_law_846 ?_
  refine gj_aload_n C 1 dL_law_847 rfl ?_
  refine gj_iload C 5 dL_law_848 rfl ?_
  refine gj_iconst (v := 2) C dL_law_850 (by decide) ?_
  refine gj_iadd C dL_law_851 ?_
  refine gj_sld C hX hbl hbA h2 dL_law_852 ?_
  refine gj_cVi (As := [.int (xs (x4 + 1).toNatClampNeg), .int (xs (x4 + 2).toNatClampNeg)]) (rest := []) C cb_L_168 (s_X4_hasPassed (gw_l K) Γ τ μ (lw_oz r o) (xs (x4 + 1).toNatClampNeg) (xs (x4 + 2).toNatClampNeg) q hm) rfl (Nat.le_of_ble_eq_true rfl) gw_atD rfl rfl dL_law_853 (gw_rmo rfl (by show _ ≤ 601024; omega) (by show _ ≤ 7293034; omega)) rfl ?_
  refine gj_istore C 6 [(6, .int q.1), (5, .int (lw_k ["java/lang/IndexOutOfBoundsException"] r)), (0, .ref b), (1, .ref (gw_a Γ 0)), (2, .ref (gw_a Γ 132)), (3, .ref (gw_a Γ 151)), (4, .int x4)] dL_law_856 (by decide) rfl ?_
  refine gj_aload_n C 4 dL_law_858 rfl ?_
  refine gj_cVi (As := []) (rest := []) C cb_L_128 (s_X4_thrown (gw_l K) Γ τ q.2 (lw_oz r o) (q.2 0 18) rfl) rfl (Nat.le_of_ble_eq_true rfl) gw_atD rfl rfl dL_law_859 (gw_rmo rfl (by show _ ≤ 601024; omega) (by show _ ≤ 7293034; omega)) rfl ?_
  refine gj_iload C 1 dL_law_862 rfl ?_
  refine gj_ic_eq C 869 dL_law_864 (by decide) (fun _ => ?_) (fun c => absurd ht c)
  refine gj_iload C 1 dL_law_869 rfl ?_
  cases r with
  | inr e =>
    refine gj_if_ne C 893 dL_law_871 (by decide) (fun _ => ?_) (fun c => ?_)
    · refine gj_goto C 2404 dL_law_893 (by decide) ?_
      exact gj_pick [2, 3, 4, 5, 6] _ rfl k
    · exfalso
      rcases he e rfl with rfl
      · exact absurd c (show ¬ lw_k ["java/lang/IndexOutOfBoundsException"] (.inr "java/lang/IndexOutOfBoundsException") = 0 from by decide +kernel)
  | inl v =>
    refine gj_if_ne C 893 dL_law_871 (by decide) (fun c => absurd rfl c) (fun _ => ?_)
    refine gj_aload_n C 5 dL_law_874 rfl ?_
    refine gj_iconst (v := 0) C dL_law_875 (by decide) ?_
    refine gj_lald C (vp_in_nI (n := 0) (N := 1) (by decide) (by decide)) dL_law_876 ?_
    refine gj_iload C 0 dL_law_877 rfl ?_
    refine gj_if_eq C 886 dL_law_879 (by decide) (fun c => ?_) (fun c => ?_)
    · refine gj_lconst (v := 0) C dL_law_886 (by decide) ?_
      refine gj_lcmp C dL_law_887 ?_
      refine gj_if_eq C 893 dL_law_888 (by decide) (fun _ => ?_) (fun c2 => absurd ?_ c2)
      · refine gj_goto C 2404 dL_law_893 (by decide) ?_
        exact gj_pick [2, 3, 4, 5, 6] _ rfl k
      · show lg_cmp (if v = 0 then (0 : Int64) else 1) 0 = 0
        rw [if_pos ((hv v rfl).mpr c)]; exact lg_cmp_self _
    · refine gj_lconst (v := 1) C dL_law_882 (by decide) ?_
      refine gj_goto C 887 dL_law_883 (by decide) ?_
      refine gj_lcmp C dL_law_887 ?_
      refine gj_if_eq C 893 dL_law_888 (by decide) (fun _ => ?_) (fun c2 => absurd ?_ c2)
      · refine gj_goto C 2404 dL_law_893 (by decide) ?_
        exact gj_pick [2, 3, 4, 5, 6] _ rfl k
      · show lg_cmp (if v = 0 then (0 : Int64) else 1) 1 = 0
        rw [if_neg (fun z => c ((hv v rfl).mp z))]; exact lg_cmp_self _
set_option maxRecDepth 100000 in
set_option maxHeartbeats 4000000 in
theorem lc_isEnrolled {K : gw_K} {Γ : gw_G} (C : gw_C K Γ cL_law 7 RL) {b L : Nat} {xs : Nat → Int32} (hX : va_X b L xs (gw_s K) (gw_s K).heap) (hbl : b < (gw_s K).heap.size) (hbA : ¬ gw_A Γ b) (τ μ : gw_S) (o : Nat → Int64) (x4 : Int32) (h1 : vp_in (x4 + 1) L) (h2 : vp_in (x4 + 2) L) (cells slots : Nat) (hc : cells + 2 ≤ 601024) (hs : slots + 12 ≤ 7293034) (r : (Int32 ⊕ String)) (hf : f_X3_isEnrolled τ (xs (x4 + 1).toNatClampNeg) (xs (x4 + 2).toNatClampNeg) = some r) (he : ∀ e, r = .inr e → e = "java/lang/IndexOutOfBoundsException") (q : Int32 × gw_S) (hm : f_X4_isEnrolled μ (xs (x4 + 1).toNatClampNeg) (xs (x4 + 2).toNatClampNeg) = some q) (ht : q.2 0 18 = lw_k ["java/lang/IndexOutOfBoundsException"] r) (hv : ∀ v, r = .inl v → (v = 0 ↔ q.1 = 0)) (k : gw_J K Γ room_1 (cells + 2) (slots + 12) (gw_W Γ τ q.2 (lw_oz r o)) 2404 [(0, .ref b), (1, .ref (gw_a Γ 0)), (2, .ref (gw_a Γ 132)), (3, .ref (gw_a Γ 151)), (4, .int x4)] []) : gw_J K Γ room_1 cells slots (gw_W Γ τ μ o) 896 [(0, .ref b), (1, .ref (gw_a Γ 0)), (2, .ref (gw_a Γ 132)), (3, .ref (gw_a Γ 151)), (4, .int x4)] [] := by
  refine gj_aload_n C 1 dL_law_896 rfl ?_
  refine gj_aload_n C 0 dL_law_897 rfl ?_
  refine gj_iload C 4 dL_law_898 rfl ?_
  refine gj_iconst (v := 1) C dL_law_900 (by decide) ?_
  refine gj_iadd C dL_law_901 ?_
  refine gj_sld C hX hbl hbA h1 dL_law_902 ?_
  refine gj_aload_n C 0 dL_law_903 rfl ?_
  refine gj_iload C 4 dL_law_904 rfl ?_
  refine gj_iconst (v := 2) C dL_law_906 (by decide) ?_
  refine gj_iadd C dL_law_907 ?_
  refine gj_sld C hX hbl hbA h2 dL_law_908 ?_
  refine gj_aload_n C 3 dL_law_909 rfl ?_
  refine gj_cW (As := [.ref (gw_a Γ 0), .int (xs (x4 + 1).toNatClampNeg), .int (xs (x4 + 2).toNatClampNeg), .ref (gw_a Γ 151)]) (rest := []) C cw_L_169 (w_isEnrolled (gw_l K) Γ τ μ o (xs (x4 + 1).toNatClampNeg) (xs (x4 + 2).toNatClampNeg) r hf he) rfl (Nat.le_of_ble_eq_true rfl) dL_law_910 (gw_rmo rfl hc hs) rfl ?_
  refine gj_istore C 5 [(5, .int (lw_k ["java/lang/IndexOutOfBoundsException"] r)), (0, .ref b), (1, .ref (gw_a Γ 0)), (2, .ref (gw_a Γ 132)), (3, .ref (gw_a Γ 151)), (4, .int x4)] dL_law_913 (by decide) rfl ?_
  refine gj_aload_n C 3 dL_law_915 rfl ?_
  refine gj_aload_n C 1 dL_law_916 rfl ?_
  refine gj_iload C 5 dL_law_917 rfl ?_
  refine gj_iconst (v := 1) C dL_law_919 (by decide) ?_
  refine gj_iadd C dL_law_920 ?_
  refine gj_sld C hX hbl hbA h1 dL_law_921 ?_
  refine gj_aload_n C 1 dL_law_922 rfl ?_
  refine gj_iload C 5 dL_law_923 rfl ?_
  refine gj_iconst (v := 2) C dL_law_925 (by decide) ?_
  refine gj_iadd C dL_law_926 ?_
  refine gj_sld C hX hbl hbA h2 dL_law_927 ?_
  refine gj_cVi (As := [.int (xs (x4 + 1).toNatClampNeg), .int (xs (x4 + 2).toNatClampNeg)]) (rest := []) C cb_L_171 (s_X4_isEnrolled (gw_l K) Γ τ μ (lw_oz r o) (xs (x4 + 1).toNatClampNeg) (xs (x4 + 2).toNatClampNeg) q hm) rfl (Nat.le_of_ble_eq_true rfl) gw_atD rfl rfl dL_law_928 (gw_rmo rfl (by show _ ≤ 601024; omega) (by show _ ≤ 7293034; omega)) rfl ?_
  refine gj_istore C 6 [(6, .int q.1), (5, .int (lw_k ["java/lang/IndexOutOfBoundsException"] r)), (0, .ref b), (1, .ref (gw_a Γ 0)), (2, .ref (gw_a Γ 132)), (3, .ref (gw_a Γ 151)), (4, .int x4)] dL_law_931 (by decide) rfl ?_
  refine gj_aload_n C 4 dL_law_933 rfl ?_
  refine gj_cVi (As := []) (rest := []) C cb_L_128 (s_X4_thrown (gw_l K) Γ τ q.2 (lw_oz r o) (q.2 0 18) rfl) rfl (Nat.le_of_ble_eq_true rfl) gw_atD rfl rfl dL_law_934 (gw_rmo rfl (by show _ ≤ 601024; omega) (by show _ ≤ 7293034; omega)) rfl ?_
  refine gj_iload C 1 dL_law_937 rfl ?_
  refine gj_ic_eq C 944 dL_law_939 (by decide) (fun _ => ?_) (fun c => absurd ht c)
  refine gj_iload C 1 dL_law_944 rfl ?_
  cases r with
  | inr e =>
    refine gj_if_ne C 968 dL_law_946 (by decide) (fun _ => ?_) (fun c => ?_)
    · refine gj_goto C 2404 dL_law_968 (by decide) ?_
      exact gj_pick [2, 3, 4, 5, 6] _ rfl k
    · exfalso
      rcases he e rfl with rfl
      · exact absurd c (show ¬ lw_k ["java/lang/IndexOutOfBoundsException"] (.inr "java/lang/IndexOutOfBoundsException") = 0 from by decide +kernel)
  | inl v =>
    refine gj_if_ne C 968 dL_law_946 (by decide) (fun c => absurd rfl c) (fun _ => ?_)
    refine gj_aload_n C 5 dL_law_949 rfl ?_
    refine gj_iconst (v := 0) C dL_law_950 (by decide) ?_
    refine gj_lald C (vp_in_nI (n := 0) (N := 1) (by decide) (by decide)) dL_law_951 ?_
    refine gj_iload C 0 dL_law_952 rfl ?_
    refine gj_if_eq C 961 dL_law_954 (by decide) (fun c => ?_) (fun c => ?_)
    · refine gj_lconst (v := 0) C dL_law_961 (by decide) ?_
      refine gj_lcmp C dL_law_962 ?_
      refine gj_if_eq C 968 dL_law_963 (by decide) (fun _ => ?_) (fun c2 => absurd ?_ c2)
      · refine gj_goto C 2404 dL_law_968 (by decide) ?_
        exact gj_pick [2, 3, 4, 5, 6] _ rfl k
      · show lg_cmp (if v = 0 then (0 : Int64) else 1) 0 = 0
        rw [if_pos ((hv v rfl).mpr c)]; exact lg_cmp_self _
    · refine gj_lconst (v := 1) C dL_law_957 (by decide) ?_
      refine gj_goto C 962 dL_law_958 (by decide) ?_
      refine gj_lcmp C dL_law_962 ?_
      refine gj_if_eq C 968 dL_law_963 (by decide) (fun _ => ?_) (fun c2 => absurd ?_ c2)
      · refine gj_goto C 2404 dL_law_968 (by decide) ?_
        exact gj_pick [2, 3, 4, 5, 6] _ rfl k
      · show lg_cmp (if v = 0 then (0 : Int64) else 1) 1 = 0
        rw [if_neg (fun z => c ((hv v rfl).mp z))]; exact lg_cmp_self _
set_option maxRecDepth 100000 in
set_option maxHeartbeats 4000000 in
theorem lc_credits {K : gw_K} {Γ : gw_G} (C : gw_C K Γ cL_law 7 RL) {b L : Nat} {xs : Nat → Int32} (hX : va_X b L xs (gw_s K) (gw_s K).heap) (hbl : b < (gw_s K).heap.size) (hbA : ¬ gw_A Γ b) (τ μ : gw_S) (o : Nat → Int64) (x4 : Int32) (h1 : vp_in (x4 + 1) L) (cells slots : Nat) (hc : cells + 1 ≤ 601024) (hs : slots + 6 ≤ 7293034) (r : (Int32 ⊕ String)) (hf : f_X3_credits τ (xs (x4 + 1).toNatClampNeg) = some r) (he : ∀ e, r = .inr e → e = "java/lang/IndexOutOfBoundsException") (q : Int32 × gw_S) (hm : f_X4_credits μ (xs (x4 + 1).toNatClampNeg) = some q) (ht : q.2 0 18 = lw_k ["java/lang/IndexOutOfBoundsException"] r) (hv : ∀ v, r = .inl v → v = q.1) (k : gw_J K Γ room_1 (cells + 1) (slots + 6) (gw_W Γ τ q.2 (lw_o r o)) 2404 [(0, .ref b), (1, .ref (gw_a Γ 0)), (2, .ref (gw_a Γ 132)), (3, .ref (gw_a Γ 151)), (4, .int x4)] []) : gw_J K Γ room_1 cells slots (gw_W Γ τ μ o) 971 [(0, .ref b), (1, .ref (gw_a Γ 0)), (2, .ref (gw_a Γ 132)), (3, .ref (gw_a Γ 151)), (4, .int x4)] [] := by
  refine gj_aload_n C 1 dL_law_971 rfl ?_
  refine gj_aload_n C 0 dL_law_972 rfl ?_
  refine gj_iload C 4 dL_law_973 rfl ?_
  refine gj_iconst (v := 1) C dL_law_975 (by decide) ?_
  refine gj_iadd C dL_law_976 ?_
  refine gj_sld C hX hbl hbA h1 dL_law_977 ?_
  refine gj_aload_n C 3 dL_law_978 rfl ?_
  refine gj_cW (As := [.ref (gw_a Γ 0), .int (xs (x4 + 1).toNatClampNeg), .ref (gw_a Γ 151)]) (rest := []) C cw_L_172 (w_credits (gw_l K) Γ τ μ o (xs (x4 + 1).toNatClampNeg) r hf he) rfl (Nat.le_of_ble_eq_true rfl) dL_law_979 (gw_rmo rfl hc hs) rfl ?_
  refine gj_istore C 5 [(5, .int (lw_k ["java/lang/IndexOutOfBoundsException"] r)), (0, .ref b), (1, .ref (gw_a Γ 0)), (2, .ref (gw_a Γ 132)), (3, .ref (gw_a Γ 151)), (4, .int x4)] dL_law_982 (by decide) rfl ?_
  refine gj_aload_n C 3 dL_law_984 rfl ?_
  refine gj_aload_n C 1 dL_law_985 rfl ?_
  refine gj_iload C 5 dL_law_986 rfl ?_
  refine gj_iconst (v := 1) C dL_law_988 (by decide) ?_
  refine gj_iadd C dL_law_989 ?_
  refine gj_sld C hX hbl hbA h1 dL_law_990 ?_
  refine gj_cVi (As := [.int (xs (x4 + 1).toNatClampNeg)]) (rest := []) C cb_L_174 (s_X4_credits (gw_l K) Γ τ μ (lw_o r o) (xs (x4 + 1).toNatClampNeg) q hm) rfl (Nat.le_of_ble_eq_true rfl) gw_atD rfl rfl dL_law_991 (gw_rmo rfl (by show _ ≤ 601024; omega) (by show _ ≤ 7293034; omega)) rfl ?_
  refine gj_istore C 6 [(6, .int q.1), (5, .int (lw_k ["java/lang/IndexOutOfBoundsException"] r)), (0, .ref b), (1, .ref (gw_a Γ 0)), (2, .ref (gw_a Γ 132)), (3, .ref (gw_a Γ 151)), (4, .int x4)] dL_law_994 (by decide) rfl ?_
  refine gj_aload_n C 4 dL_law_996 rfl ?_
  refine gj_cVi (As := []) (rest := []) C cb_L_128 (s_X4_thrown (gw_l K) Γ τ q.2 (lw_o r o) (q.2 0 18) rfl) rfl (Nat.le_of_ble_eq_true rfl) gw_atD rfl rfl dL_law_997 (gw_rmo rfl (by show _ ≤ 601024; omega) (by show _ ≤ 7293034; omega)) rfl ?_
  refine gj_iload C 1 dL_law_1000 rfl ?_
  refine gj_ic_eq C 1007 dL_law_1002 (by decide) (fun _ => ?_) (fun c => absurd ht c)
  refine gj_iload C 1 dL_law_1007 rfl ?_
  cases r with
  | inr e =>
    refine gj_if_ne C 1024 dL_law_1009 (by decide) (fun _ => ?_) (fun c => ?_)
    · refine gj_goto C 2404 dL_law_1024 (by decide) ?_
      exact gj_pick [2, 3, 4, 5, 6] _ rfl k
    · exfalso
      rcases he e rfl with rfl
      · exact absurd c (show ¬ lw_k ["java/lang/IndexOutOfBoundsException"] (.inr "java/lang/IndexOutOfBoundsException") = 0 from by decide +kernel)
  | inl v =>
    refine gj_if_ne C 1024 dL_law_1009 (by decide) (fun c => absurd rfl c) (fun _ => ?_)
    refine gj_aload_n C 5 dL_law_1012 rfl ?_
    refine gj_iconst (v := 0) C dL_law_1013 (by decide) ?_
    refine gj_lald C (vp_in_nI (n := 0) (N := 1) (by decide) (by decide)) dL_law_1014 ?_
    refine gj_iload C 0 dL_law_1015 rfl ?_
    refine gj_i2l C dL_law_1017 ?_
    refine gj_lcmp C dL_law_1018 ?_
    refine gj_if_eq C 1024 dL_law_1019 (by decide) (fun _ => ?_) (fun c => absurd ?_ c)
    · refine gj_goto C 2404 dL_law_1024 (by decide) ?_
      exact gj_pick [2, 3, 4, 5, 6] _ rfl k
    · have e := hv v rfl
      subst e
      exact lg_cmp_self _
set_option maxRecDepth 100000 in
set_option maxHeartbeats 4000000 in
theorem lc_missing {K : gw_K} {Γ : gw_G} (C : gw_C K Γ cL_law 7 RL) {b L : Nat} {xs : Nat → Int32} (hX : va_X b L xs (gw_s K) (gw_s K).heap) (hbl : b < (gw_s K).heap.size) (hbA : ¬ gw_A Γ b) (τ μ : gw_S) (o : Nat → Int64) (x4 : Int32) (h1 : vp_in (x4 + 1) L) (h2 : vp_in (x4 + 2) L) (cells slots : Nat) (hc : cells + 2 ≤ 601024) (hs : slots + 12 ≤ 7293034) (r : (Int32 ⊕ String)) (hf : f_X3_missing τ (xs (x4 + 1).toNatClampNeg) (xs (x4 + 2).toNatClampNeg) = some r) (he : ∀ e, r = .inr e → e = "java/lang/IndexOutOfBoundsException") (q : Int32 × gw_S) (hm : f_X4_missing μ (xs (x4 + 1).toNatClampNeg) (xs (x4 + 2).toNatClampNeg) = some q) (ht : q.2 0 18 = lw_k ["java/lang/IndexOutOfBoundsException"] r) (hv : ∀ v, r = .inl v → v = q.1) (k : gw_J K Γ room_1 (cells + 2) (slots + 12) (gw_W Γ τ q.2 (lw_o r o)) 2404 [(0, .ref b), (1, .ref (gw_a Γ 0)), (2, .ref (gw_a Γ 132)), (3, .ref (gw_a Γ 151)), (4, .int x4)] []) : gw_J K Γ room_1 cells slots (gw_W Γ τ μ o) 1027 [(0, .ref b), (1, .ref (gw_a Γ 0)), (2, .ref (gw_a Γ 132)), (3, .ref (gw_a Γ 151)), (4, .int x4)] [] := by
  refine gj_aload_n C 1 dL_law_1027 rfl ?_
  refine gj_aload_n C 0 dL_law_1028 rfl ?_
  refine gj_iload C 4 dL_law_1029 rfl ?_
  refine gj_iconst (v := 1) C dL_law_1031 (by decide) ?_
  refine gj_iadd C dL_law_1032 ?_
  refine gj_sld C hX hbl hbA h1 dL_law_1033 ?_
  refine gj_aload_n C 0 dL_law_1034 rfl ?_
  refine gj_iload C 4 dL_law_1035 rfl ?_
  refine gj_iconst (v := 2) C dL_law_1037 (by decide) ?_
  refine gj_iadd C dL_law_1038 ?_
  refine gj_sld C hX hbl hbA h2 dL_law_1039 ?_
  refine gj_aload_n C 3 dL_law_1040 rfl ?_
  refine gj_cW (As := [.ref (gw_a Γ 0), .int (xs (x4 + 1).toNatClampNeg), .int (xs (x4 + 2).toNatClampNeg), .ref (gw_a Γ 151)]) (rest := []) C cw_L_175 (w_missing (gw_l K) Γ τ μ o (xs (x4 + 1).toNatClampNeg) (xs (x4 + 2).toNatClampNeg) r hf he) rfl (Nat.le_of_ble_eq_true rfl) dL_law_1041 (gw_rmo rfl hc hs) rfl ?_
  refine gj_istore C 5 [(5, .int (lw_k ["java/lang/IndexOutOfBoundsException"] r)), (0, .ref b), (1, .ref (gw_a Γ 0)), (2, .ref (gw_a Γ 132)), (3, .ref (gw_a Γ 151)), (4, .int x4)] dL_law_1044 (by decide) rfl ?_
  refine gj_aload_n C 3 dL_law_1046 rfl ?_
  refine gj_aload_n C 1 dL_law_1047 rfl ?_
  refine gj_iload C 5 dL_law_1048 rfl ?_
  refine gj_iconst (v := 1) C dL_law_1050 (by decide) ?_
  refine gj_iadd C dL_law_1051 ?_
  refine gj_sld C hX hbl hbA h1 dL_law_1052 ?_
  refine gj_aload_n C 1 dL_law_1053 rfl ?_
  refine gj_iload C 5 dL_law_1054 rfl ?_
  refine gj_iconst (v := 2) C dL_law_1056 (by decide) ?_
  refine gj_iadd C dL_law_1057 ?_
  refine gj_sld C hX hbl hbA h2 dL_law_1058 ?_
  refine gj_cVi (As := [.int (xs (x4 + 1).toNatClampNeg), .int (xs (x4 + 2).toNatClampNeg)]) (rest := []) C cb_L_177 (s_X4_missing (gw_l K) Γ τ μ (lw_o r o) (xs (x4 + 1).toNatClampNeg) (xs (x4 + 2).toNatClampNeg) q hm) rfl (Nat.le_of_ble_eq_true rfl) gw_atD rfl rfl dL_law_1059 (gw_rmo rfl (by show _ ≤ 601024; omega) (by show _ ≤ 7293034; omega)) rfl ?_
  refine gj_istore C 6 [(6, .int q.1), (5, .int (lw_k ["java/lang/IndexOutOfBoundsException"] r)), (0, .ref b), (1, .ref (gw_a Γ 0)), (2, .ref (gw_a Γ 132)), (3, .ref (gw_a Γ 151)), (4, .int x4)] dL_law_1062 (by decide) rfl ?_
  refine gj_aload_n C 4 dL_law_1064 rfl ?_
  refine gj_cVi (As := []) (rest := []) C cb_L_128 (s_X4_thrown (gw_l K) Γ τ q.2 (lw_o r o) (q.2 0 18) rfl) rfl (Nat.le_of_ble_eq_true rfl) gw_atD rfl rfl dL_law_1065 (gw_rmo rfl (by show _ ≤ 601024; omega) (by show _ ≤ 7293034; omega)) rfl ?_
  refine gj_iload C 1 dL_law_1068 rfl ?_
  refine gj_ic_eq C 1075 dL_law_1070 (by decide) (fun _ => ?_) (fun c => absurd ht c)
  refine gj_iload C 1 dL_law_1075 rfl ?_
  cases r with
  | inr e =>
    refine gj_if_ne C 1092 dL_law_1077 (by decide) (fun _ => ?_) (fun c => ?_)
    · refine gj_goto C 2404 dL_law_1092 (by decide) ?_
      exact gj_pick [2, 3, 4, 5, 6] _ rfl k
    · exfalso
      rcases he e rfl with rfl
      · exact absurd c (show ¬ lw_k ["java/lang/IndexOutOfBoundsException"] (.inr "java/lang/IndexOutOfBoundsException") = 0 from by decide +kernel)
  | inl v =>
    refine gj_if_ne C 1092 dL_law_1077 (by decide) (fun c => absurd rfl c) (fun _ => ?_)
    refine gj_aload_n C 5 dL_law_1080 rfl ?_
    refine gj_iconst (v := 0) C dL_law_1081 (by decide) ?_
    refine gj_lald C (vp_in_nI (n := 0) (N := 1) (by decide) (by decide)) dL_law_1082 ?_
    refine gj_iload C 0 dL_law_1083 rfl ?_
    refine gj_i2l C dL_law_1085 ?_
    refine gj_lcmp C dL_law_1086 ?_
    refine gj_if_eq C 1092 dL_law_1087 (by decide) (fun _ => ?_) (fun c => absurd ?_ c)
    · refine gj_goto C 2404 dL_law_1092 (by decide) ?_
      exact gj_pick [2, 3, 4, 5, 6] _ rfl k
    · have e := hv v rfl
      subst e
      exact lg_cmp_self _
set_option maxRecDepth 100000 in
set_option maxHeartbeats 4000000 in
theorem lc_obstacle {K : gw_K} {Γ : gw_G} (C : gw_C K Γ cL_law 7 RL) {b L : Nat} {xs : Nat → Int32} (hX : va_X b L xs (gw_s K) (gw_s K).heap) (hbl : b < (gw_s K).heap.size) (hbA : ¬ gw_A Γ b) (τ μ : gw_S) (o : Nat → Int64) (x4 : Int32) (h1 : vp_in (x4 + 1) L) (h2 : vp_in (x4 + 2) L) (cells slots : Nat) (hc : cells + 2 ≤ 601024) (hs : slots + 12 ≤ 7293034) (r : (Int32 ⊕ String)) (hf : f_X3_obstacle τ (xs (x4 + 1).toNatClampNeg) (xs (x4 + 2).toNatClampNeg) = some r) (he : ∀ e, r = .inr e → e = "java/lang/IndexOutOfBoundsException") (q : Int32 × gw_S) (hm : f_X4_obstacle μ (xs (x4 + 1).toNatClampNeg) (xs (x4 + 2).toNatClampNeg) = some q) (ht : q.2 0 18 = lw_k ["java/lang/IndexOutOfBoundsException"] r) (hv : ∀ v, r = .inl v → v = q.1) (k : gw_J K Γ room_1 (cells + 2) (slots + 12) (gw_W Γ τ q.2 (lw_o r o)) 2404 [(0, .ref b), (1, .ref (gw_a Γ 0)), (2, .ref (gw_a Γ 132)), (3, .ref (gw_a Γ 151)), (4, .int x4)] []) : gw_J K Γ room_1 cells slots (gw_W Γ τ μ o) 1095 [(0, .ref b), (1, .ref (gw_a Γ 0)), (2, .ref (gw_a Γ 132)), (3, .ref (gw_a Γ 151)), (4, .int x4)] [] := by
  refine gj_aload_n C 1 dL_law_1095 rfl ?_
  refine gj_aload_n C 0 dL_law_1096 rfl ?_
  refine gj_iload C 4 dL_law_1097 rfl ?_
  refine gj_iconst (v := 1) C dL_law_1099 (by decide) ?_
  refine gj_iadd C dL_law_1100 ?_
  refine gj_sld C hX hbl hbA h1 dL_law_1101 ?_
  refine gj_aload_n C 0 dL_law_1102 rfl ?_
  refine gj_iload C 4 dL_law_1103 rfl ?_
  refine gj_iconst (v := 2) C dL_law_1105 (by decide) ?_
  refine gj_iadd C dL_law_1106 ?_
  refine gj_sld C hX hbl hbA h2 dL_law_1107 ?_
  refine gj_aload_n C 3 dL_law_1108 rfl ?_
  refine gj_cW (As := [.ref (gw_a Γ 0), .int (xs (x4 + 1).toNatClampNeg), .int (xs (x4 + 2).toNatClampNeg), .ref (gw_a Γ 151)]) (rest := []) C cw_L_178 (w_obstacle (gw_l K) Γ τ μ o (xs (x4 + 1).toNatClampNeg) (xs (x4 + 2).toNatClampNeg) r hf he) rfl (Nat.le_of_ble_eq_true rfl) dL_law_1109 (gw_rmo rfl hc hs) rfl ?_
  refine gj_istore C 5 [(5, .int (lw_k ["java/lang/IndexOutOfBoundsException"] r)), (0, .ref b), (1, .ref (gw_a Γ 0)), (2, .ref (gw_a Γ 132)), (3, .ref (gw_a Γ 151)), (4, .int x4)] dL_law_1112 (by decide) rfl ?_
  refine gj_aload_n C 3 dL_law_1114 rfl ?_
  refine gj_aload_n C 1 dL_law_1115 rfl ?_
  refine gj_iload C 5 dL_law_1116 rfl ?_
  refine gj_iconst (v := 1) C dL_law_1118 (by decide) ?_
  refine gj_iadd C dL_law_1119 ?_
  refine gj_sld C hX hbl hbA h1 dL_law_1120 ?_
  refine gj_aload_n C 1 dL_law_1121 rfl ?_
  refine gj_iload C 5 dL_law_1122 rfl ?_
  refine gj_iconst (v := 2) C dL_law_1124 (by decide) ?_
  refine gj_iadd C dL_law_1125 ?_
  refine gj_sld C hX hbl hbA h2 dL_law_1126 ?_
  refine gj_cVi (As := [.int (xs (x4 + 1).toNatClampNeg), .int (xs (x4 + 2).toNatClampNeg)]) (rest := []) C cb_L_180 (s_X4_obstacle (gw_l K) Γ τ μ (lw_o r o) (xs (x4 + 1).toNatClampNeg) (xs (x4 + 2).toNatClampNeg) q hm) rfl (Nat.le_of_ble_eq_true rfl) gw_atD rfl rfl dL_law_1127 (gw_rmo rfl (by show _ ≤ 601024; omega) (by show _ ≤ 7293034; omega)) rfl ?_
  refine gj_istore C 6 [(6, .int q.1), (5, .int (lw_k ["java/lang/IndexOutOfBoundsException"] r)), (0, .ref b), (1, .ref (gw_a Γ 0)), (2, .ref (gw_a Γ 132)), (3, .ref (gw_a Γ 151)), (4, .int x4)] dL_law_1130 (by decide) rfl ?_
  refine gj_aload_n C 4 dL_law_1132 rfl ?_
  refine gj_cVi (As := []) (rest := []) C cb_L_128 (s_X4_thrown (gw_l K) Γ τ q.2 (lw_o r o) (q.2 0 18) rfl) rfl (Nat.le_of_ble_eq_true rfl) gw_atD rfl rfl dL_law_1133 (gw_rmo rfl (by show _ ≤ 601024; omega) (by show _ ≤ 7293034; omega)) rfl ?_
  refine gj_iload C 1 dL_law_1136 rfl ?_
  refine gj_ic_eq C 1143 dL_law_1138 (by decide) (fun _ => ?_) (fun c => absurd ht c)
  refine gj_iload C 1 dL_law_1143 rfl ?_
  cases r with
  | inr e =>
    refine gj_if_ne C 1160 dL_law_1145 (by decide) (fun _ => ?_) (fun c => ?_)
    · refine gj_goto C 2404 dL_law_1160 (by decide) ?_
      exact gj_pick [2, 3, 4, 5, 6] _ rfl k
    · exfalso
      rcases he e rfl with rfl
      · exact absurd c (show ¬ lw_k ["java/lang/IndexOutOfBoundsException"] (.inr "java/lang/IndexOutOfBoundsException") = 0 from by decide +kernel)
  | inl v =>
    refine gj_if_ne C 1160 dL_law_1145 (by decide) (fun c => absurd rfl c) (fun _ => ?_)
    refine gj_aload_n C 5 dL_law_1148 rfl ?_
    refine gj_iconst (v := 0) C dL_law_1149 (by decide) ?_
    refine gj_lald C (vp_in_nI (n := 0) (N := 1) (by decide) (by decide)) dL_law_1150 ?_
    refine gj_iload C 0 dL_law_1151 rfl ?_
    refine gj_i2l C dL_law_1153 ?_
    refine gj_lcmp C dL_law_1154 ?_
    refine gj_if_eq C 1160 dL_law_1155 (by decide) (fun _ => ?_) (fun c => absurd ?_ c)
    · refine gj_goto C 2404 dL_law_1160 (by decide) ?_
      exact gj_pick [2, 3, 4, 5, 6] _ rfl k
    · have e := hv v rfl
      subst e
      exact lg_cmp_self _
set_option maxRecDepth 100000 in
set_option maxHeartbeats 4000000 in
theorem lc_wish {K : gw_K} {Γ : gw_G} (C : gw_C K Γ cL_law 7 RL) {b L : Nat} {xs : Nat → Int32} (hX : va_X b L xs (gw_s K) (gw_s K).heap) (hbl : b < (gw_s K).heap.size) (hbA : ¬ gw_A Γ b) (τ μ : gw_S) (o : Nat → Int64) (x4 : Int32) (h1 : vp_in (x4 + 1) L) (h2 : vp_in (x4 + 2) L) (cells slots : Nat) (hc : cells + 3 ≤ 601024) (hs : slots + 18 ≤ 7293034) (r : (Int32 ⊕ String) × gw_S) (hf : f_X3_wish τ (xs (x4 + 1).toNatClampNeg) (xs (x4 + 2).toNatClampNeg) = some r) (he : ∀ e, r.1 = .inr e → e = "java/lang/IndexOutOfBoundsException" ∨ e = "java/lang/IllegalStateException") (q : Int32 × gw_S) (hm : f_X4_wish μ (xs (x4 + 1).toNatClampNeg) (xs (x4 + 2).toNatClampNeg) = some q) (ht : q.2 0 18 = lw_k ["java/lang/IndexOutOfBoundsException", "java/lang/IllegalStateException"] r.1) (hv : ∀ v, r.1 = .inl v → v = q.1) (k : gw_J K Γ room_1 (cells + 3) (slots + 18) (gw_W Γ r.2 q.2 (lw_o r.1 o)) 2404 [(0, .ref b), (1, .ref (gw_a Γ 0)), (2, .ref (gw_a Γ 132)), (3, .ref (gw_a Γ 151)), (4, .int x4)] []) : gw_J K Γ room_1 cells slots (gw_W Γ τ μ o) 1163 [(0, .ref b), (1, .ref (gw_a Γ 0)), (2, .ref (gw_a Γ 132)), (3, .ref (gw_a Γ 151)), (4, .int x4)] [] := by
  refine gj_aload_n C 1 dL_law_1163 rfl ?_
  refine gj_aload_n C 0 dL_law_1164 rfl ?_
  refine gj_iload C 4 dL_law_1165 rfl ?_
  refine gj_iconst (v := 1) C dL_law_1167 (by decide) ?_
  refine gj_iadd C dL_law_1168 ?_
  refine gj_sld C hX hbl hbA h1 dL_law_1169 ?_
  refine gj_aload_n C 0 dL_law_1170 rfl ?_
  refine gj_iload C 4 dL_law_1171 rfl ?_
  refine gj_iconst (v := 2) C dL_law_1173 (by decide) ?_
  refine gj_iadd C dL_law_1174 ?_
  refine gj_sld C hX hbl hbA h2 dL_law_1175 ?_
  refine gj_aload_n C 3 dL_law_1176 rfl ?_
  refine gj_cW (As := [.ref (gw_a Γ 0), .int (xs (x4 + 1).toNatClampNeg), .int (xs (x4 + 2).toNatClampNeg), .ref (gw_a Γ 151)]) (rest := []) C cw_L_181 (w_wish (gw_l K) Γ τ μ o (xs (x4 + 1).toNatClampNeg) (xs (x4 + 2).toNatClampNeg) r hf he) rfl (Nat.le_of_ble_eq_true rfl) dL_law_1177 (gw_rmo rfl hc hs) rfl ?_
  refine gj_istore C 5 [(5, .int (lw_k ["java/lang/IndexOutOfBoundsException", "java/lang/IllegalStateException"] r.1)), (0, .ref b), (1, .ref (gw_a Γ 0)), (2, .ref (gw_a Γ 132)), (3, .ref (gw_a Γ 151)), (4, .int x4)] dL_law_1180 (by decide) rfl ?_
  refine gj_aload_n C 3 dL_law_1182 rfl ?_
  refine gj_aload_n C 1 dL_law_1183 rfl ?_
  refine gj_iload C 5 dL_law_1184 rfl ?_
  refine gj_iconst (v := 1) C dL_law_1186 (by decide) ?_
  refine gj_iadd C dL_law_1187 ?_
  refine gj_sld C hX hbl hbA h1 dL_law_1188 ?_
  refine gj_aload_n C 1 dL_law_1189 rfl ?_
  refine gj_iload C 5 dL_law_1190 rfl ?_
  refine gj_iconst (v := 2) C dL_law_1192 (by decide) ?_
  refine gj_iadd C dL_law_1193 ?_
  refine gj_sld C hX hbl hbA h2 dL_law_1194 ?_
  refine gj_cVi (As := [.int (xs (x4 + 1).toNatClampNeg), .int (xs (x4 + 2).toNatClampNeg)]) (rest := []) C cb_L_183 (s_X4_wish (gw_l K) Γ r.2 μ (lw_o r.1 o) (xs (x4 + 1).toNatClampNeg) (xs (x4 + 2).toNatClampNeg) q hm) rfl (Nat.le_of_ble_eq_true rfl) gw_atD rfl rfl dL_law_1195 (gw_rmo rfl (by show _ ≤ 601024; omega) (by show _ ≤ 7293034; omega)) rfl ?_
  refine gj_istore C 6 [(6, .int q.1), (5, .int (lw_k ["java/lang/IndexOutOfBoundsException", "java/lang/IllegalStateException"] r.1)), (0, .ref b), (1, .ref (gw_a Γ 0)), (2, .ref (gw_a Γ 132)), (3, .ref (gw_a Γ 151)), (4, .int x4)] dL_law_1198 (by decide) rfl ?_
  refine gj_aload_n C 4 dL_law_1200 rfl ?_
  refine gj_cVi (As := []) (rest := []) C cb_L_128 (s_X4_thrown (gw_l K) Γ r.2 q.2 (lw_o r.1 o) (q.2 0 18) rfl) rfl (Nat.le_of_ble_eq_true rfl) gw_atD rfl rfl dL_law_1201 (gw_rmo rfl (by show _ ≤ 601024; omega) (by show _ ≤ 7293034; omega)) rfl ?_
  refine gj_iload C 1 dL_law_1204 rfl ?_
  refine gj_ic_eq C 1211 dL_law_1206 (by decide) (fun _ => ?_) (fun c => absurd ht c)
  refine gj_iload C 1 dL_law_1211 rfl ?_
  obtain ⟨r1, r2⟩ := r
  cases r1 with
  | inr e =>
    refine gj_if_ne C 1228 dL_law_1213 (by decide) (fun _ => ?_) (fun c => ?_)
    · refine gj_goto C 2404 dL_law_1228 (by decide) ?_
      exact gj_pick [2, 3, 4, 5, 6] _ rfl k
    · exfalso
      rcases he e rfl with rfl | rfl
      · exact absurd c (show ¬ lw_k ["java/lang/IndexOutOfBoundsException", "java/lang/IllegalStateException"] (.inr "java/lang/IndexOutOfBoundsException") = 0 from by decide +kernel)
      · exact absurd c (show ¬ lw_k ["java/lang/IndexOutOfBoundsException", "java/lang/IllegalStateException"] (.inr "java/lang/IllegalStateException") = 0 from by decide +kernel)
  | inl v =>
    refine gj_if_ne C 1228 dL_law_1213 (by decide) (fun c => absurd rfl c) (fun _ => ?_)
    refine gj_aload_n C 5 dL_law_1216 rfl ?_
    refine gj_iconst (v := 0) C dL_law_1217 (by decide) ?_
    refine gj_lald C (vp_in_nI (n := 0) (N := 1) (by decide) (by decide)) dL_law_1218 ?_
    refine gj_iload C 0 dL_law_1219 rfl ?_
    refine gj_i2l C dL_law_1221 ?_
    refine gj_lcmp C dL_law_1222 ?_
    refine gj_if_eq C 1228 dL_law_1223 (by decide) (fun _ => ?_) (fun c => absurd ?_ c)
    · refine gj_goto C 2404 dL_law_1228 (by decide) ?_
      exact gj_pick [2, 3, 4, 5, 6] _ rfl k
    · have e := hv v rfl
      subst e
      exact lg_cmp_self _
set_option maxRecDepth 100000 in
set_option maxHeartbeats 4000000 in
theorem lc_dropWish {K : gw_K} {Γ : gw_G} (C : gw_C K Γ cL_law 7 RL) {b L : Nat} {xs : Nat → Int32} (hX : va_X b L xs (gw_s K) (gw_s K).heap) (hbl : b < (gw_s K).heap.size) (hbA : ¬ gw_A Γ b) (τ μ : gw_S) (o : Nat → Int64) (x4 : Int32) (h1 : vp_in (x4 + 1) L) (h2 : vp_in (x4 + 2) L) (cells slots : Nat) (hc : cells + 3 ≤ 601024) (hs : slots + 18 ≤ 7293034) (r : (Int32 ⊕ String) × gw_S) (hf : f_X3_dropWish τ (xs (x4 + 1).toNatClampNeg) (xs (x4 + 2).toNatClampNeg) = some r) (he : ∀ e, r.1 = .inr e → e = "java/lang/IndexOutOfBoundsException" ∨ e = "java/lang/IllegalStateException") (q : Int32 × gw_S) (hm : f_X4_dropWish μ (xs (x4 + 1).toNatClampNeg) (xs (x4 + 2).toNatClampNeg) = some q) (ht : q.2 0 18 = lw_k ["java/lang/IndexOutOfBoundsException", "java/lang/IllegalStateException"] r.1) (hv : ∀ v, r.1 = .inl v → v = q.1) (k : gw_J K Γ room_1 (cells + 3) (slots + 18) (gw_W Γ r.2 q.2 (lw_o r.1 o)) 2404 [(0, .ref b), (1, .ref (gw_a Γ 0)), (2, .ref (gw_a Γ 132)), (3, .ref (gw_a Γ 151)), (4, .int x4)] []) : gw_J K Γ room_1 cells slots (gw_W Γ τ μ o) 1231 [(0, .ref b), (1, .ref (gw_a Γ 0)), (2, .ref (gw_a Γ 132)), (3, .ref (gw_a Γ 151)), (4, .int x4)] [] := by
  refine gj_aload_n C 1 dL_law_1231 rfl ?_
  refine gj_aload_n C 0 dL_law_1232 rfl ?_
  refine gj_iload C 4 dL_law_1233 rfl ?_
  refine gj_iconst (v := 1) C dL_law_1235 (by decide) ?_
  refine gj_iadd C dL_law_1236 ?_
  refine gj_sld C hX hbl hbA h1 dL_law_1237 ?_
  refine gj_aload_n C 0 dL_law_1238 rfl ?_
  refine gj_iload C 4 dL_law_1239 rfl ?_
  refine gj_iconst (v := 2) C dL_law_1241 (by decide) ?_
  refine gj_iadd C dL_law_1242 ?_
  refine gj_sld C hX hbl hbA h2 dL_law_1243 ?_
  refine gj_aload_n C 3 dL_law_1244 rfl ?_
  refine gj_cW (As := [.ref (gw_a Γ 0), .int (xs (x4 + 1).toNatClampNeg), .int (xs (x4 + 2).toNatClampNeg), .ref (gw_a Γ 151)]) (rest := []) C cw_L_184 (w_dropWish (gw_l K) Γ τ μ o (xs (x4 + 1).toNatClampNeg) (xs (x4 + 2).toNatClampNeg) r hf he) rfl (Nat.le_of_ble_eq_true rfl) dL_law_1245 (gw_rmo rfl hc hs) rfl ?_
  refine gj_istore C 5 [(5, .int (lw_k ["java/lang/IndexOutOfBoundsException", "java/lang/IllegalStateException"] r.1)), (0, .ref b), (1, .ref (gw_a Γ 0)), (2, .ref (gw_a Γ 132)), (3, .ref (gw_a Γ 151)), (4, .int x4)] dL_law_1248 (by decide) rfl ?_
  refine gj_aload_n C 3 dL_law_1250 rfl ?_
  refine gj_aload_n C 1 dL_law_1251 rfl ?_
  refine gj_iload C 5 dL_law_1252 rfl ?_
  refine gj_iconst (v := 1) C dL_law_1254 (by decide) ?_
  refine gj_iadd C dL_law_1255 ?_
  refine gj_sld C hX hbl hbA h1 dL_law_1256 ?_
  refine gj_aload_n C 1 dL_law_1257 rfl ?_
  refine gj_iload C 5 dL_law_1258 rfl ?_
  refine gj_iconst (v := 2) C dL_law_1260 (by decide) ?_
  refine gj_iadd C dL_law_1261 ?_
  refine gj_sld C hX hbl hbA h2 dL_law_1262 ?_
  refine gj_cVi (As := [.int (xs (x4 + 1).toNatClampNeg), .int (xs (x4 + 2).toNatClampNeg)]) (rest := []) C cb_L_186 (s_X4_dropWish (gw_l K) Γ r.2 μ (lw_o r.1 o) (xs (x4 + 1).toNatClampNeg) (xs (x4 + 2).toNatClampNeg) q hm) rfl (Nat.le_of_ble_eq_true rfl) gw_atD rfl rfl dL_law_1263 (gw_rmo rfl (by show _ ≤ 601024; omega) (by show _ ≤ 7293034; omega)) rfl ?_
  refine gj_istore C 6 [(6, .int q.1), (5, .int (lw_k ["java/lang/IndexOutOfBoundsException", "java/lang/IllegalStateException"] r.1)), (0, .ref b), (1, .ref (gw_a Γ 0)), (2, .ref (gw_a Γ 132)), (3, .ref (gw_a Γ 151)), (4, .int x4)] dL_law_1266 (by decide) rfl ?_
  refine gj_aload_n C 4 dL_law_1268 rfl ?_
  refine gj_cVi (As := []) (rest := []) C cb_L_128 (s_X4_thrown (gw_l K) Γ r.2 q.2 (lw_o r.1 o) (q.2 0 18) rfl) rfl (Nat.le_of_ble_eq_true rfl) gw_atD rfl rfl dL_law_1269 (gw_rmo rfl (by show _ ≤ 601024; omega) (by show _ ≤ 7293034; omega)) rfl ?_
  refine gj_iload C 1 dL_law_1272 rfl ?_
  refine gj_ic_eq C 1279 dL_law_1274 (by decide) (fun _ => ?_) (fun c => absurd ht c)
  refine gj_iload C 1 dL_law_1279 rfl ?_
  obtain ⟨r1, r2⟩ := r
  cases r1 with
  | inr e =>
    refine gj_if_ne C 1296 dL_law_1281 (by decide) (fun _ => ?_) (fun c => ?_)
    · refine gj_goto C 2404 dL_law_1296 (by decide) ?_
      exact gj_pick [2, 3, 4, 5, 6] _ rfl k
    · exfalso
      rcases he e rfl with rfl | rfl
      · exact absurd c (show ¬ lw_k ["java/lang/IndexOutOfBoundsException", "java/lang/IllegalStateException"] (.inr "java/lang/IndexOutOfBoundsException") = 0 from by decide +kernel)
      · exact absurd c (show ¬ lw_k ["java/lang/IndexOutOfBoundsException", "java/lang/IllegalStateException"] (.inr "java/lang/IllegalStateException") = 0 from by decide +kernel)
  | inl v =>
    refine gj_if_ne C 1296 dL_law_1281 (by decide) (fun c => absurd rfl c) (fun _ => ?_)
    refine gj_aload_n C 5 dL_law_1284 rfl ?_
    refine gj_iconst (v := 0) C dL_law_1285 (by decide) ?_
    refine gj_lald C (vp_in_nI (n := 0) (N := 1) (by decide) (by decide)) dL_law_1286 ?_
    refine gj_iload C 0 dL_law_1287 rfl ?_
    refine gj_i2l C dL_law_1289 ?_
    refine gj_lcmp C dL_law_1290 ?_
    refine gj_if_eq C 1296 dL_law_1291 (by decide) (fun _ => ?_) (fun c => absurd ?_ c)
    · refine gj_goto C 2404 dL_law_1296 (by decide) ?_
      exact gj_pick [2, 3, 4, 5, 6] _ rfl k
    · have e := hv v rfl
      subst e
      exact lg_cmp_self _
set_option maxRecDepth 100000 in
set_option maxHeartbeats 4000000 in
theorem lc_wishes {K : gw_K} {Γ : gw_G} (C : gw_C K Γ cL_law 7 RL) {b L : Nat} {xs : Nat → Int32} (hX : va_X b L xs (gw_s K) (gw_s K).heap) (hbl : b < (gw_s K).heap.size) (hbA : ¬ gw_A Γ b) (τ μ : gw_S) (o : Nat → Int64) (x4 : Int32) (h1 : vp_in (x4 + 1) L) (cells slots : Nat) (hc : cells + 1 ≤ 601024) (hs : slots + 6 ≤ 7293034) (r : (Int32 ⊕ String)) (hf : f_X3_wishes τ (xs (x4 + 1).toNatClampNeg) = some r) (he : ∀ e, r = .inr e → e = "java/lang/IndexOutOfBoundsException") (q : Int32 × gw_S) (hm : f_X4_wishes μ (xs (x4 + 1).toNatClampNeg) = some q) (ht : q.2 0 18 = lw_k ["java/lang/IndexOutOfBoundsException"] r) (hv : ∀ v, r = .inl v → v = q.1) (k : gw_J K Γ room_1 (cells + 1) (slots + 6) (gw_W Γ τ q.2 (lw_o r o)) 2404 [(0, .ref b), (1, .ref (gw_a Γ 0)), (2, .ref (gw_a Γ 132)), (3, .ref (gw_a Γ 151)), (4, .int x4)] []) : gw_J K Γ room_1 cells slots (gw_W Γ τ μ o) 1299 [(0, .ref b), (1, .ref (gw_a Γ 0)), (2, .ref (gw_a Γ 132)), (3, .ref (gw_a Γ 151)), (4, .int x4)] [] := by
  refine gj_aload_n C 1 dL_law_1299 rfl ?_
  refine gj_aload_n C 0 dL_law_1300 rfl ?_
  refine gj_iload C 4 dL_law_1301 rfl ?_
  refine gj_iconst (v := 1) C dL_law_1303 (by decide) ?_
  refine gj_iadd C dL_law_1304 ?_
  refine gj_sld C hX hbl hbA h1 dL_law_1305 ?_
  refine gj_aload_n C 3 dL_law_1306 rfl ?_
  refine gj_cW (As := [.ref (gw_a Γ 0), .int (xs (x4 + 1).toNatClampNeg), .ref (gw_a Γ 151)]) (rest := []) C cw_L_187 (w_wishes (gw_l K) Γ τ μ o (xs (x4 + 1).toNatClampNeg) r hf he) rfl (Nat.le_of_ble_eq_true rfl) dL_law_1307 (gw_rmo rfl hc hs) rfl ?_
  refine gj_istore C 5 [(5, .int (lw_k ["java/lang/IndexOutOfBoundsException"] r)), (0, .ref b), (1, .ref (gw_a Γ 0)), (2, .ref (gw_a Γ 132)), (3, .ref (gw_a Γ 151)), (4, .int x4)] dL_law_1310 (by decide) rfl ?_
  refine gj_aload_n C 3 dL_law_1312 rfl ?_
  refine gj_aload_n C 1 dL_law_1313 rfl ?_
  refine gj_iload C 5 dL_law_1314 rfl ?_
  refine gj_iconst (v := 1) C dL_law_1316 (by decide) ?_
  refine gj_iadd C dL_law_1317 ?_
  refine gj_sld C hX hbl hbA h1 dL_law_1318 ?_
  refine gj_cVi (As := [.int (xs (x4 + 1).toNatClampNeg)]) (rest := []) C cb_L_189 (s_X4_wishes (gw_l K) Γ τ μ (lw_o r o) (xs (x4 + 1).toNatClampNeg) q hm) rfl (Nat.le_of_ble_eq_true rfl) gw_atD rfl rfl dL_law_1319 (gw_rmo rfl (by show _ ≤ 601024; omega) (by show _ ≤ 7293034; omega)) rfl ?_
  refine gj_istore C 6 [(6, .int q.1), (5, .int (lw_k ["java/lang/IndexOutOfBoundsException"] r)), (0, .ref b), (1, .ref (gw_a Γ 0)), (2, .ref (gw_a Γ 132)), (3, .ref (gw_a Γ 151)), (4, .int x4)] dL_law_1322 (by decide) rfl ?_
  refine gj_aload_n C 4 dL_law_1324 rfl ?_
  refine gj_cVi (As := []) (rest := []) C cb_L_128 (s_X4_thrown (gw_l K) Γ τ q.2 (lw_o r o) (q.2 0 18) rfl) rfl (Nat.le_of_ble_eq_true rfl) gw_atD rfl rfl dL_law_1325 (gw_rmo rfl (by show _ ≤ 601024; omega) (by show _ ≤ 7293034; omega)) rfl ?_
  refine gj_iload C 1 dL_law_1328 rfl ?_
  refine gj_ic_eq C 1335 dL_law_1330 (by decide) (fun _ => ?_) (fun c => absurd ht c)
  refine gj_iload C 1 dL_law_1335 rfl ?_
  cases r with
  | inr e =>
    refine gj_if_ne C 1352 dL_law_1337 (by decide) (fun _ => ?_) (fun c => ?_)
    · refine gj_goto C 2404 dL_law_1352 (by decide) ?_
      exact gj_pick [2, 3, 4, 5, 6] _ rfl k
    · exfalso
      rcases he e rfl with rfl
      · exact absurd c (show ¬ lw_k ["java/lang/IndexOutOfBoundsException"] (.inr "java/lang/IndexOutOfBoundsException") = 0 from by decide +kernel)
  | inl v =>
    refine gj_if_ne C 1352 dL_law_1337 (by decide) (fun c => absurd rfl c) (fun _ => ?_)
    refine gj_aload_n C 5 dL_law_1340 rfl ?_
    refine gj_iconst (v := 0) C dL_law_1341 (by decide) ?_
    refine gj_lald C (vp_in_nI (n := 0) (N := 1) (by decide) (by decide)) dL_law_1342 ?_
    refine gj_iload C 0 dL_law_1343 rfl ?_
    refine gj_i2l C dL_law_1345 ?_
    refine gj_lcmp C dL_law_1346 ?_
    refine gj_if_eq C 1352 dL_law_1347 (by decide) (fun _ => ?_) (fun c => absurd ?_ c)
    · refine gj_goto C 2404 dL_law_1352 (by decide) ?_
      exact gj_pick [2, 3, 4, 5, 6] _ rfl k
    · have e := hv v rfl
      subst e
      exact lg_cmp_self _
set_option maxRecDepth 100000 in
set_option maxHeartbeats 4000000 in
theorem lc_wishAt {K : gw_K} {Γ : gw_G} (C : gw_C K Γ cL_law 7 RL) {b L : Nat} {xs : Nat → Int32} (hX : va_X b L xs (gw_s K) (gw_s K).heap) (hbl : b < (gw_s K).heap.size) (hbA : ¬ gw_A Γ b) (τ μ : gw_S) (o : Nat → Int64) (x4 : Int32) (h1 : vp_in (x4 + 1) L) (h2 : vp_in (x4 + 2) L) (cells slots : Nat) (hc : cells + 2 ≤ 601024) (hs : slots + 12 ≤ 7293034) (r : (Int32 ⊕ String)) (hf : f_X3_wishAt τ (xs (x4 + 1).toNatClampNeg) (xs (x4 + 2).toNatClampNeg) = some r) (he : ∀ e, r = .inr e → e = "java/lang/IndexOutOfBoundsException") (q : Int32 × gw_S) (hm : f_X4_wishAt μ (xs (x4 + 1).toNatClampNeg) (xs (x4 + 2).toNatClampNeg) = some q) (ht : q.2 0 18 = lw_k ["java/lang/IndexOutOfBoundsException"] r) (hv : ∀ v, r = .inl v → v = q.1) (k : gw_J K Γ room_1 (cells + 2) (slots + 12) (gw_W Γ τ q.2 (lw_o r o)) 2404 [(0, .ref b), (1, .ref (gw_a Γ 0)), (2, .ref (gw_a Γ 132)), (3, .ref (gw_a Γ 151)), (4, .int x4)] []) : gw_J K Γ room_1 cells slots (gw_W Γ τ μ o) 1355 [(0, .ref b), (1, .ref (gw_a Γ 0)), (2, .ref (gw_a Γ 132)), (3, .ref (gw_a Γ 151)), (4, .int x4)] [] := by
  refine gj_aload_n C 1 dL_law_1355 rfl ?_
  refine gj_aload_n C 0 dL_law_1356 rfl ?_
  refine gj_iload C 4 dL_law_1357 rfl ?_
  refine gj_iconst (v := 1) C dL_law_1359 (by decide) ?_
  refine gj_iadd C dL_law_1360 ?_
  refine gj_sld C hX hbl hbA h1 dL_law_1361 ?_
  refine gj_aload_n C 0 dL_law_1362 rfl ?_
  refine gj_iload C 4 dL_law_1363 rfl ?_
  refine gj_iconst (v := 2) C dL_law_1365 (by decide) ?_
  refine gj_iadd C dL_law_1366 ?_
  refine gj_sld C hX hbl hbA h2 dL_law_1367 ?_
  refine gj_aload_n C 3 dL_law_1368 rfl ?_
  refine gj_cW (As := [.ref (gw_a Γ 0), .int (xs (x4 + 1).toNatClampNeg), .int (xs (x4 + 2).toNatClampNeg), .ref (gw_a Γ 151)]) (rest := []) C cw_L_190 (w_wishAt (gw_l K) Γ τ μ o (xs (x4 + 1).toNatClampNeg) (xs (x4 + 2).toNatClampNeg) r hf he) rfl (Nat.le_of_ble_eq_true rfl) dL_law_1369 (gw_rmo rfl hc hs) rfl ?_
  refine gj_istore C 5 [(5, .int (lw_k ["java/lang/IndexOutOfBoundsException"] r)), (0, .ref b), (1, .ref (gw_a Γ 0)), (2, .ref (gw_a Γ 132)), (3, .ref (gw_a Γ 151)), (4, .int x4)] dL_law_1372 (by decide) rfl ?_
  refine gj_aload_n C 3 dL_law_1374 rfl ?_
  refine gj_aload_n C 1 dL_law_1375 rfl ?_
  refine gj_iload C 5 dL_law_1376 rfl ?_
  refine gj_iconst (v := 1) C dL_law_1378 (by decide) ?_
  refine gj_iadd C dL_law_1379 ?_
  refine gj_sld C hX hbl hbA h1 dL_law_1380 ?_
  refine gj_aload_n C 1 dL_law_1381 rfl ?_
  refine gj_iload C 5 dL_law_1382 rfl ?_
  refine gj_iconst (v := 2) C dL_law_1384 (by decide) ?_
  refine gj_iadd C dL_law_1385 ?_
  refine gj_sld C hX hbl hbA h2 dL_law_1386 ?_
  refine gj_cVi (As := [.int (xs (x4 + 1).toNatClampNeg), .int (xs (x4 + 2).toNatClampNeg)]) (rest := []) C cb_L_192 (s_X4_wishAt (gw_l K) Γ τ μ (lw_o r o) (xs (x4 + 1).toNatClampNeg) (xs (x4 + 2).toNatClampNeg) q hm) rfl (Nat.le_of_ble_eq_true rfl) gw_atD rfl rfl dL_law_1387 (gw_rmo rfl (by show _ ≤ 601024; omega) (by show _ ≤ 7293034; omega)) rfl ?_
  refine gj_istore C 6 [(6, .int q.1), (5, .int (lw_k ["java/lang/IndexOutOfBoundsException"] r)), (0, .ref b), (1, .ref (gw_a Γ 0)), (2, .ref (gw_a Γ 132)), (3, .ref (gw_a Γ 151)), (4, .int x4)] dL_law_1390 (by decide) rfl ?_
  refine gj_aload_n C 4 dL_law_1392 rfl ?_
  refine gj_cVi (As := []) (rest := []) C cb_L_128 (s_X4_thrown (gw_l K) Γ τ q.2 (lw_o r o) (q.2 0 18) rfl) rfl (Nat.le_of_ble_eq_true rfl) gw_atD rfl rfl dL_law_1393 (gw_rmo rfl (by show _ ≤ 601024; omega) (by show _ ≤ 7293034; omega)) rfl ?_
  refine gj_iload C 1 dL_law_1396 rfl ?_
  refine gj_ic_eq C 1403 dL_law_1398 (by decide) (fun _ => ?_) (fun c => absurd ht c)
  refine gj_iload C 1 dL_law_1403 rfl ?_
  cases r with
  | inr e =>
    refine gj_if_ne C 1420 dL_law_1405 (by decide) (fun _ => ?_) (fun c => ?_)
    · refine gj_goto C 2404 dL_law_1420 (by decide) ?_
      exact gj_pick [2, 3, 4, 5, 6] _ rfl k
    · exfalso
      rcases he e rfl with rfl
      · exact absurd c (show ¬ lw_k ["java/lang/IndexOutOfBoundsException"] (.inr "java/lang/IndexOutOfBoundsException") = 0 from by decide +kernel)
  | inl v =>
    refine gj_if_ne C 1420 dL_law_1405 (by decide) (fun c => absurd rfl c) (fun _ => ?_)
    refine gj_aload_n C 5 dL_law_1408 rfl ?_
    refine gj_iconst (v := 0) C dL_law_1409 (by decide) ?_
    refine gj_lald C (vp_in_nI (n := 0) (N := 1) (by decide) (by decide)) dL_law_1410 ?_
    refine gj_iload C 0 dL_law_1411 rfl ?_
    refine gj_i2l C dL_law_1413 ?_
    refine gj_lcmp C dL_law_1414 ?_
    refine gj_if_eq C 1420 dL_law_1415 (by decide) (fun _ => ?_) (fun c => absurd ?_ c)
    · refine gj_goto C 2404 dL_law_1420 (by decide) ?_
      exact gj_pick [2, 3, 4, 5, 6] _ rfl k
    · have e := hv v rfl
      subst e
      exact lg_cmp_self _
set_option maxRecDepth 100000 in
set_option maxHeartbeats 4000000 in
theorem lc_request {K : gw_K} {Γ : gw_G} (C : gw_C K Γ cL_law 7 RL) {b L : Nat} {xs : Nat → Int32} (hX : va_X b L xs (gw_s K) (gw_s K).heap) (hbl : b < (gw_s K).heap.size) (hbA : ¬ gw_A Γ b) (τ μ : gw_S) (o : Nat → Int64) (x4 : Int32) (h1 : vp_in (x4 + 1) L) (h2 : vp_in (x4 + 2) L) (cells slots : Nat) (hc : cells + 3 ≤ 601024) (hs : slots + 18 ≤ 7293034) (r : (Int32 ⊕ String) × gw_S) (hf : f_X3_request τ (xs (x4 + 1).toNatClampNeg) (xs (x4 + 2).toNatClampNeg) = some r) (he : ∀ e, r.1 = .inr e → e = "java/lang/IndexOutOfBoundsException" ∨ e = "java/lang/IllegalStateException") (q : Int32 × gw_S) (hm : f_X4_request μ (xs (x4 + 1).toNatClampNeg) (xs (x4 + 2).toNatClampNeg) = some q) (ht : q.2 0 18 = lw_k ["java/lang/IndexOutOfBoundsException", "java/lang/IllegalStateException"] r.1) (hv : ∀ v, r.1 = .inl v → v = q.1) (k : gw_J K Γ room_1 (cells + 3) (slots + 18) (gw_W Γ r.2 q.2 (lw_o r.1 o)) 2404 [(0, .ref b), (1, .ref (gw_a Γ 0)), (2, .ref (gw_a Γ 132)), (3, .ref (gw_a Γ 151)), (4, .int x4)] []) : gw_J K Γ room_1 cells slots (gw_W Γ τ μ o) 1423 [(0, .ref b), (1, .ref (gw_a Γ 0)), (2, .ref (gw_a Γ 132)), (3, .ref (gw_a Γ 151)), (4, .int x4)] [] := by
  refine gj_aload_n C 1 dL_law_1423 rfl ?_
  refine gj_aload_n C 0 dL_law_1424 rfl ?_
  refine gj_iload C 4 dL_law_1425 rfl ?_
  refine gj_iconst (v := 1) C dL_law_1427 (by decide) ?_
  refine gj_iadd C dL_law_1428 ?_
  refine gj_sld C hX hbl hbA h1 dL_law_1429 ?_
  refine gj_aload_n C 0 dL_law_1430 rfl ?_
  refine gj_iload C 4 dL_law_1431 rfl ?_
  refine gj_iconst (v := 2) C dL_law_1433 (by decide) ?_
  refine gj_iadd C dL_law_1434 ?_
  refine gj_sld C hX hbl hbA h2 dL_law_1435 ?_
  refine gj_aload_n C 3 dL_law_1436 rfl ?_
  refine gj_cW (As := [.ref (gw_a Γ 0), .int (xs (x4 + 1).toNatClampNeg), .int (xs (x4 + 2).toNatClampNeg), .ref (gw_a Γ 151)]) (rest := []) C cw_L_193 (w_request (gw_l K) Γ τ μ o (xs (x4 + 1).toNatClampNeg) (xs (x4 + 2).toNatClampNeg) r hf he) rfl (Nat.le_of_ble_eq_true rfl) dL_law_1437 (gw_rmo rfl hc hs) rfl ?_
  refine gj_istore C 5 [(5, .int (lw_k ["java/lang/IndexOutOfBoundsException", "java/lang/IllegalStateException"] r.1)), (0, .ref b), (1, .ref (gw_a Γ 0)), (2, .ref (gw_a Γ 132)), (3, .ref (gw_a Γ 151)), (4, .int x4)] dL_law_1440 (by decide) rfl ?_
  refine gj_aload_n C 3 dL_law_1442 rfl ?_
  refine gj_aload_n C 1 dL_law_1443 rfl ?_
  refine gj_iload C 5 dL_law_1444 rfl ?_
  refine gj_iconst (v := 1) C dL_law_1446 (by decide) ?_
  refine gj_iadd C dL_law_1447 ?_
  refine gj_sld C hX hbl hbA h1 dL_law_1448 ?_
  refine gj_aload_n C 1 dL_law_1449 rfl ?_
  refine gj_iload C 5 dL_law_1450 rfl ?_
  refine gj_iconst (v := 2) C dL_law_1452 (by decide) ?_
  refine gj_iadd C dL_law_1453 ?_
  refine gj_sld C hX hbl hbA h2 dL_law_1454 ?_
  refine gj_cVi (As := [.int (xs (x4 + 1).toNatClampNeg), .int (xs (x4 + 2).toNatClampNeg)]) (rest := []) C cb_L_195 (s_X4_request (gw_l K) Γ r.2 μ (lw_o r.1 o) (xs (x4 + 1).toNatClampNeg) (xs (x4 + 2).toNatClampNeg) q hm) rfl (Nat.le_of_ble_eq_true rfl) gw_atD rfl rfl dL_law_1455 (gw_rmo rfl (by show _ ≤ 601024; omega) (by show _ ≤ 7293034; omega)) rfl ?_
  refine gj_istore C 6 [(6, .int q.1), (5, .int (lw_k ["java/lang/IndexOutOfBoundsException", "java/lang/IllegalStateException"] r.1)), (0, .ref b), (1, .ref (gw_a Γ 0)), (2, .ref (gw_a Γ 132)), (3, .ref (gw_a Γ 151)), (4, .int x4)] dL_law_1458 (by decide) rfl ?_
  refine gj_aload_n C 4 dL_law_1460 rfl ?_
  refine gj_cVi (As := []) (rest := []) C cb_L_128 (s_X4_thrown (gw_l K) Γ r.2 q.2 (lw_o r.1 o) (q.2 0 18) rfl) rfl (Nat.le_of_ble_eq_true rfl) gw_atD rfl rfl dL_law_1461 (gw_rmo rfl (by show _ ≤ 601024; omega) (by show _ ≤ 7293034; omega)) rfl ?_
  refine gj_iload C 1 dL_law_1464 rfl ?_
  refine gj_ic_eq C 1471 dL_law_1466 (by decide) (fun _ => ?_) (fun c => absurd ht c)
  refine gj_iload C 1 dL_law_1471 rfl ?_
  obtain ⟨r1, r2⟩ := r
  cases r1 with
  | inr e =>
    refine gj_if_ne C 1488 dL_law_1473 (by decide) (fun _ => ?_) (fun c => ?_)
    · refine gj_goto C 2404 dL_law_1488 (by decide) ?_
      exact gj_pick [2, 3, 4, 5, 6] _ rfl k
    · exfalso
      rcases he e rfl with rfl | rfl
      · exact absurd c (show ¬ lw_k ["java/lang/IndexOutOfBoundsException", "java/lang/IllegalStateException"] (.inr "java/lang/IndexOutOfBoundsException") = 0 from by decide +kernel)
      · exact absurd c (show ¬ lw_k ["java/lang/IndexOutOfBoundsException", "java/lang/IllegalStateException"] (.inr "java/lang/IllegalStateException") = 0 from by decide +kernel)
  | inl v =>
    refine gj_if_ne C 1488 dL_law_1473 (by decide) (fun c => absurd rfl c) (fun _ => ?_)
    refine gj_aload_n C 5 dL_law_1476 rfl ?_
    refine gj_iconst (v := 0) C dL_law_1477 (by decide) ?_
    refine gj_lald C (vp_in_nI (n := 0) (N := 1) (by decide) (by decide)) dL_law_1478 ?_
    refine gj_iload C 0 dL_law_1479 rfl ?_
    refine gj_i2l C dL_law_1481 ?_
    refine gj_lcmp C dL_law_1482 ?_
    refine gj_if_eq C 1488 dL_law_1483 (by decide) (fun _ => ?_) (fun c => absurd ?_ c)
    · refine gj_goto C 2404 dL_law_1488 (by decide) ?_
      exact gj_pick [2, 3, 4, 5, 6] _ rfl k
    · have e := hv v rfl
      subst e
      exact lg_cmp_self _
set_option maxRecDepth 100000 in
set_option maxHeartbeats 4000000 in
theorem lc_drop {K : gw_K} {Γ : gw_G} (C : gw_C K Γ cL_law 7 RL) {b L : Nat} {xs : Nat → Int32} (hX : va_X b L xs (gw_s K) (gw_s K).heap) (hbl : b < (gw_s K).heap.size) (hbA : ¬ gw_A Γ b) (τ μ : gw_S) (o : Nat → Int64) (x4 : Int32) (h1 : vp_in (x4 + 1) L) (h2 : vp_in (x4 + 2) L) (cells slots : Nat) (hc : cells + 3 ≤ 601024) (hs : slots + 18 ≤ 7293034) (r : (Int32 ⊕ String) × gw_S) (hf : f_X3_drop τ (xs (x4 + 1).toNatClampNeg) (xs (x4 + 2).toNatClampNeg) = some r) (he : ∀ e, r.1 = .inr e → e = "java/lang/IndexOutOfBoundsException" ∨ e = "java/lang/IllegalStateException") (q : Int32 × gw_S) (hm : f_X4_drop μ (xs (x4 + 1).toNatClampNeg) (xs (x4 + 2).toNatClampNeg) = some q) (ht : q.2 0 18 = lw_k ["java/lang/IndexOutOfBoundsException", "java/lang/IllegalStateException"] r.1) (hv : ∀ v, r.1 = .inl v → v = q.1) (k : gw_J K Γ room_1 (cells + 3) (slots + 18) (gw_W Γ r.2 q.2 (lw_o r.1 o)) 2404 [(0, .ref b), (1, .ref (gw_a Γ 0)), (2, .ref (gw_a Γ 132)), (3, .ref (gw_a Γ 151)), (4, .int x4)] []) : gw_J K Γ room_1 cells slots (gw_W Γ τ μ o) 1491 [(0, .ref b), (1, .ref (gw_a Γ 0)), (2, .ref (gw_a Γ 132)), (3, .ref (gw_a Γ 151)), (4, .int x4)] [] := by
  refine gj_aload_n C 1 dL_law_1491 rfl ?_
  refine gj_aload_n C 0 dL_law_1492 rfl ?_
  refine gj_iload C 4 dL_law_1493 rfl ?_
  refine gj_iconst (v := 1) C dL_law_1495 (by decide) ?_
  refine gj_iadd C dL_law_1496 ?_
  refine gj_sld C hX hbl hbA h1 dL_law_1497 ?_
  refine gj_aload_n C 0 dL_law_1498 rfl ?_
  refine gj_iload C 4 dL_law_1499 rfl ?_
  refine gj_iconst (v := 2) C dL_law_1501 (by decide) ?_
  refine gj_iadd C dL_law_1502 ?_
  refine gj_sld C hX hbl hbA h2 dL_law_1503 ?_
  refine gj_aload_n C 3 dL_law_1504 rfl ?_
  refine gj_cW (As := [.ref (gw_a Γ 0), .int (xs (x4 + 1).toNatClampNeg), .int (xs (x4 + 2).toNatClampNeg), .ref (gw_a Γ 151)]) (rest := []) C cw_L_196 (w_drop (gw_l K) Γ τ μ o (xs (x4 + 1).toNatClampNeg) (xs (x4 + 2).toNatClampNeg) r hf he) rfl (Nat.le_of_ble_eq_true rfl) dL_law_1505 (gw_rmo rfl hc hs) rfl ?_
  refine gj_istore C 5 [(5, .int (lw_k ["java/lang/IndexOutOfBoundsException", "java/lang/IllegalStateException"] r.1)), (0, .ref b), (1, .ref (gw_a Γ 0)), (2, .ref (gw_a Γ 132)), (3, .ref (gw_a Γ 151)), (4, .int x4)] dL_law_1508 (by decide) rfl ?_
  refine gj_aload_n C 3 dL_law_1510 rfl ?_
  refine gj_aload_n C 1 dL_law_1511 rfl ?_
  refine gj_iload C 5 dL_law_1512 rfl ?_
  refine gj_iconst (v := 1) C dL_law_1514 (by decide) ?_
  refine gj_iadd C dL_law_1515 ?_
  refine gj_sld C hX hbl hbA h1 dL_law_1516 ?_
  refine gj_aload_n C 1 dL_law_1517 rfl ?_
  refine gj_iload C 5 dL_law_1518 rfl ?_
  refine gj_iconst (v := 2) C dL_law_1520 (by decide) ?_
  refine gj_iadd C dL_law_1521 ?_
  refine gj_sld C hX hbl hbA h2 dL_law_1522 ?_
  refine gj_cVi (As := [.int (xs (x4 + 1).toNatClampNeg), .int (xs (x4 + 2).toNatClampNeg)]) (rest := []) C cb_L_198 (s_X4_drop (gw_l K) Γ r.2 μ (lw_o r.1 o) (xs (x4 + 1).toNatClampNeg) (xs (x4 + 2).toNatClampNeg) q hm) rfl (Nat.le_of_ble_eq_true rfl) gw_atD rfl rfl dL_law_1523 (gw_rmo rfl (by show _ ≤ 601024; omega) (by show _ ≤ 7293034; omega)) rfl ?_
  refine gj_istore C 6 [(6, .int q.1), (5, .int (lw_k ["java/lang/IndexOutOfBoundsException", "java/lang/IllegalStateException"] r.1)), (0, .ref b), (1, .ref (gw_a Γ 0)), (2, .ref (gw_a Γ 132)), (3, .ref (gw_a Γ 151)), (4, .int x4)] dL_law_1526 (by decide) rfl ?_
  refine gj_aload_n C 4 dL_law_1528 rfl ?_
  refine gj_cVi (As := []) (rest := []) C cb_L_128 (s_X4_thrown (gw_l K) Γ r.2 q.2 (lw_o r.1 o) (q.2 0 18) rfl) rfl (Nat.le_of_ble_eq_true rfl) gw_atD rfl rfl dL_law_1529 (gw_rmo rfl (by show _ ≤ 601024; omega) (by show _ ≤ 7293034; omega)) rfl ?_
  refine gj_iload C 1 dL_law_1532 rfl ?_
  refine gj_ic_eq C 1539 dL_law_1534 (by decide) (fun _ => ?_) (fun c => absurd ht c)
  refine gj_iload C 1 dL_law_1539 rfl ?_
  obtain ⟨r1, r2⟩ := r
  cases r1 with
  | inr e =>
    refine gj_if_ne C 1556 dL_law_1541 (by decide) (fun _ => ?_) (fun c => ?_)
    · refine gj_goto C 2404 dL_law_1556 (by decide) ?_
      exact gj_pick [2, 3, 4, 5, 6] _ rfl k
    · exfalso
      rcases he e rfl with rfl | rfl
      · exact absurd c (show ¬ lw_k ["java/lang/IndexOutOfBoundsException", "java/lang/IllegalStateException"] (.inr "java/lang/IndexOutOfBoundsException") = 0 from by decide +kernel)
      · exact absurd c (show ¬ lw_k ["java/lang/IndexOutOfBoundsException", "java/lang/IllegalStateException"] (.inr "java/lang/IllegalStateException") = 0 from by decide +kernel)
  | inl v =>
    refine gj_if_ne C 1556 dL_law_1541 (by decide) (fun c => absurd rfl c) (fun _ => ?_)
    refine gj_aload_n C 5 dL_law_1544 rfl ?_
    refine gj_iconst (v := 0) C dL_law_1545 (by decide) ?_
    refine gj_lald C (vp_in_nI (n := 0) (N := 1) (by decide) (by decide)) dL_law_1546 ?_
    refine gj_iload C 0 dL_law_1547 rfl ?_
    refine gj_i2l C dL_law_1549 ?_
    refine gj_lcmp C dL_law_1550 ?_
    refine gj_if_eq C 1556 dL_law_1551 (by decide) (fun _ => ?_) (fun c => absurd ?_ c)
    · refine gj_goto C 2404 dL_law_1556 (by decide) ?_
      exact gj_pick [2, 3, 4, 5, 6] _ rfl k
    · have e := hv v rfl
      subst e
      exact lg_cmp_self _
set_option maxRecDepth 100000 in
set_option maxHeartbeats 4000000 in
theorem lc_change {K : gw_K} {Γ : gw_G} (C : gw_C K Γ cL_law 7 RL) {b L : Nat} {xs : Nat → Int32} (hX : va_X b L xs (gw_s K) (gw_s K).heap) (hbl : b < (gw_s K).heap.size) (hbA : ¬ gw_A Γ b) (τ μ : gw_S) (o : Nat → Int64) (x4 : Int32) (h1 : vp_in (x4 + 1) L) (h2 : vp_in (x4 + 2) L) (h3 : vp_in (x4 + 3) L) (cells slots : Nat) (hc : cells + 4 ≤ 601024) (hs : slots + 24 ≤ 7293034) (r : (Int32 ⊕ String) × gw_S) (hf : f_X3_change τ (xs (x4 + 1).toNatClampNeg) (xs (x4 + 2).toNatClampNeg) (xs (x4 + 3).toNatClampNeg) = some r) (he : ∀ e, r.1 = .inr e → e = "java/lang/IndexOutOfBoundsException" ∨ e = "java/lang/IllegalStateException") (q : Int32 × gw_S) (hm : f_X4_change μ (xs (x4 + 1).toNatClampNeg) (xs (x4 + 2).toNatClampNeg) (xs (x4 + 3).toNatClampNeg) = some q) (ht : q.2 0 18 = lw_k ["java/lang/IndexOutOfBoundsException", "java/lang/IllegalStateException"] r.1) (hv : ∀ v, r.1 = .inl v → v = q.1) (k : gw_J K Γ room_1 (cells + 4) (slots + 24) (gw_W Γ r.2 q.2 (lw_o r.1 o)) 2404 [(0, .ref b), (1, .ref (gw_a Γ 0)), (2, .ref (gw_a Γ 132)), (3, .ref (gw_a Γ 151)), (4, .int x4)] []) : gw_J K Γ room_1 cells slots (gw_W Γ τ μ o) 1559 [(0, .ref b), (1, .ref (gw_a Γ 0)), (2, .ref (gw_a Γ 132)), (3, .ref (gw_a Γ 151)), (4, .int x4)] [] := by
  refine gj_aload_n C 1 dL_law_1559 rfl ?_
  refine gj_aload_n C 0 dL_law_1560 rfl ?_
  refine gj_iload C 4 dL_law_1561 rfl ?_
  refine gj_iconst (v := 1) C dL_law_1563 (by decide) ?_
  refine gj_iadd C dL_law_1564 ?_
  refine gj_sld C hX hbl hbA h1 dL_law_1565 ?_
  refine gj_aload_n C 0 dL_law_1566 rfl ?_
  refine gj_iload C 4 dL_law_1567 rfl ?_
  refine gj_iconst (v := 2) C dL_law_1569 (by decide) ?_
  refine gj_iadd C dL_law_1570 ?_
  refine gj_sld C hX hbl hbA h2 dL_law_1571 ?_
  refine gj_aload_n C 0 dL_law_1572 rfl ?_
  refine gj_iload C 4 dL_law_1573 rfl ?_
  refine gj_iconst (v := 3) C dL_law_1575 (by decide) ?_
  refine gj_iadd C dL_law_1576 ?_
  refine gj_sld C hX hbl hbA h3 dL_law_1577 ?_
  refine gj_aload_n C 3 dL_law_1578 rfl ?_
  refine gj_cW (As := [.ref (gw_a Γ 0), .int (xs (x4 + 1).toNatClampNeg), .int (xs (x4 + 2).toNatClampNeg), .int (xs (x4 + 3).toNatClampNeg), .ref (gw_a Γ 151)]) (rest := []) C cw_L_199 (w_change (gw_l K) Γ τ μ o (xs (x4 + 1).toNatClampNeg) (xs (x4 + 2).toNatClampNeg) (xs (x4 + 3).toNatClampNeg) r hf he) rfl (Nat.le_of_ble_eq_true rfl) dL_law_1579 (gw_rmo rfl hc hs) rfl ?_
  refine gj_istore C 5 [(5, .int (lw_k ["java/lang/IndexOutOfBoundsException", "java/lang/IllegalStateException"] r.1)), (0, .ref b), (1, .ref (gw_a Γ 0)), (2, .ref (gw_a Γ 132)), (3, .ref (gw_a Γ 151)), (4, .int x4)] dL_law_1582 (by decide) rfl ?_
  refine gj_aload_n C 3 dL_law_1584 rfl ?_
  refine gj_aload_n C 1 dL_law_1585 rfl ?_
  refine gj_iload C 5 dL_law_1586 rfl ?_
  refine gj_iconst (v := 1) C dL_law_1588 (by decide) ?_
  refine gj_iadd C dL_law_1589 ?_
  refine gj_sld C hX hbl hbA h1 dL_law_1590 ?_
  refine gj_aload_n C 1 dL_law_1591 rfl ?_
  refine gj_iload C 5 dL_law_1592 rfl ?_
  refine gj_iconst (v := 2) C dL_law_1594 (by decide) ?_
  refine gj_iadd C dL_law_1595 ?_
  refine gj_sld C hX hbl hbA h2 dL_law_1596 ?_
  refine gj_aload_n C 1 dL_law_1597 rfl ?_
  refine gj_iload C 5 dL_law_1598 rfl ?_
  refine gj_iconst (v := 3) C dL_law_1600 (by decide) ?_
  refine gj_iadd C dL_law_1601 ?_
  refine gj_sld C hX hbl hbA h3 dL_law_1602 ?_
  refine gj_cVi (As := [.int (xs (x4 + 1).toNatClampNeg), .int (xs (x4 + 2).toNatClampNeg), .int (xs (x4 + 3).toNatClampNeg)]) (rest := []) C cb_L_201 (s_X4_change (gw_l K) Γ r.2 μ (lw_o r.1 o) (xs (x4 + 1).toNatClampNeg) (xs (x4 + 2).toNatClampNeg) (xs (x4 + 3).toNatClampNeg) q hm) rfl (Nat.le_of_ble_eq_true rfl) gw_atD rfl rfl dL_law_1603 (gw_rmo rfl (by show _ ≤ 601024; omega) (by show _ ≤ 7293034; omega)) rfl ?_
  refine gj_istore C 6 [(6, .int q.1), (5, .int (lw_k ["java/lang/IndexOutOfBoundsException", "java/lang/IllegalStateException"] r.1)), (0, .ref b), (1, .ref (gw_a Γ 0)), (2, .ref (gw_a Γ 132)), (3, .ref (gw_a Γ 151)), (4, .int x4)] dL_law_1606 (by decide) rfl ?_
  refine gj_aload_n C 4 dL_law_1608 rfl ?_
  refine gj_cVi (As := []) (rest := []) C cb_L_128 (s_X4_thrown (gw_l K) Γ r.2 q.2 (lw_o r.1 o) (q.2 0 18) rfl) rfl (Nat.le_of_ble_eq_true rfl) gw_atD rfl rfl dL_law_1609 (gw_rmo rfl (by show _ ≤ 601024; omega) (by show _ ≤ 7293034; omega)) rfl ?_
  refine gj_iload C 1 dL_law_1612 rfl ?_
  refine gj_ic_eq C 1619 dL_law_1614 (by decide) (fun _ => ?_) (fun c => absurd ht c)
  refine gj_iload C 1 dL_law_1619 rfl ?_
  obtain ⟨r1, r2⟩ := r
  cases r1 with
  | inr e =>
    refine gj_if_ne C 1636 dL_law_1621 (by decide) (fun _ => ?_) (fun c => ?_)
    · refine gj_goto C 2404 dL_law_1636 (by decide) ?_
      exact gj_pick [2, 3, 4, 5, 6] _ rfl k
    · exfalso
      rcases he e rfl with rfl | rfl
      · exact absurd c (show ¬ lw_k ["java/lang/IndexOutOfBoundsException", "java/lang/IllegalStateException"] (.inr "java/lang/IndexOutOfBoundsException") = 0 from by decide +kernel)
      · exact absurd c (show ¬ lw_k ["java/lang/IndexOutOfBoundsException", "java/lang/IllegalStateException"] (.inr "java/lang/IllegalStateException") = 0 from by decide +kernel)
  | inl v =>
    refine gj_if_ne C 1636 dL_law_1621 (by decide) (fun c => absurd rfl c) (fun _ => ?_)
    refine gj_aload_n C 5 dL_law_1624 rfl ?_
    refine gj_iconst (v := 0) C dL_law_1625 (by decide) ?_
    refine gj_lald C (vp_in_nI (n := 0) (N := 1) (by decide) (by decide)) dL_law_1626 ?_
    refine gj_iload C 0 dL_law_1627 rfl ?_
    refine gj_i2l C dL_law_1629 ?_
    refine gj_lcmp C dL_law_1630 ?_
    refine gj_if_eq C 1636 dL_law_1631 (by decide) (fun _ => ?_) (fun c => absurd ?_ c)
    · refine gj_goto C 2404 dL_law_1636 (by decide) ?_
      exact gj_pick [2, 3, 4, 5, 6] _ rfl k
    · have e := hv v rfl
      subst e
      exact lg_cmp_self _
set_option maxRecDepth 100000 in
set_option maxHeartbeats 4000000 in
theorem lc_accept {K : gw_K} {Γ : gw_G} (C : gw_C K Γ cL_law 7 RL) {b L : Nat} {xs : Nat → Int32} (hX : va_X b L xs (gw_s K) (gw_s K).heap) (hbl : b < (gw_s K).heap.size) (hbA : ¬ gw_A Γ b) (τ μ : gw_S) (o : Nat → Int64) (x4 : Int32) (h1 : vp_in (x4 + 1) L) (h2 : vp_in (x4 + 2) L) (cells slots : Nat) (hc : cells + 3 ≤ 601024) (hs : slots + 18 ≤ 7293034) (r : (Int32 ⊕ String) × gw_S) (hf : f_X3_accept τ (xs (x4 + 1).toNatClampNeg) (xs (x4 + 2).toNatClampNeg) = some r) (he : ∀ e, r.1 = .inr e → e = "java/lang/IndexOutOfBoundsException" ∨ e = "java/lang/IllegalStateException") (q : Int32 × gw_S) (hm : f_X4_accept μ (xs (x4 + 1).toNatClampNeg) (xs (x4 + 2).toNatClampNeg) = some q) (ht : q.2 0 18 = lw_k ["java/lang/IndexOutOfBoundsException", "java/lang/IllegalStateException"] r.1) (hv : ∀ v, r.1 = .inl v → v = q.1) (k : gw_J K Γ room_1 (cells + 3) (slots + 18) (gw_W Γ r.2 q.2 (lw_o r.1 o)) 2404 [(0, .ref b), (1, .ref (gw_a Γ 0)), (2, .ref (gw_a Γ 132)), (3, .ref (gw_a Γ 151)), (4, .int x4)] []) : gw_J K Γ room_1 cells slots (gw_W Γ τ μ o) 1639 [(0, .ref b), (1, .ref (gw_a Γ 0)), (2, .ref (gw_a Γ 132)), (3, .ref (gw_a Γ 151)), (4, .int x4)] [] := by
  refine gj_aload_n C 1 dL_law_1639 rfl ?_
  refine gj_aload_n C 0 dL_law_1640 rfl ?_
  refine gj_iload C 4 dL_law_1641 rfl ?_
  refine gj_iconst (v := 1) C dL_law_1643 (by decide) ?_
  refine gj_iadd C dL_law_1644 ?_
  refine gj_sld C hX hbl hbA h1 dL_law_1645 ?_
  refine gj_aload_n C 0 dL_law_1646 rfl ?_
  refine gj_iload C 4 dL_law_1647 rfl ?_
  refine gj_iconst (v := 2) C dL_law_1649 (by decide) ?_
  refine gj_iadd C dL_law_1650 ?_
  refine gj_sld C hX hbl hbA h2 dL_law_1651 ?_
  refine gj_aload_n C 3 dL_law_1652 rfl ?_
  refine gj_cW (As := [.ref (gw_a Γ 0), .int (xs (x4 + 1).toNatClampNeg), .int (xs (x4 + 2).toNatClampNeg), .ref (gw_a Γ 151)]) (rest := []) C cw_L_202 (w_accept (gw_l K) Γ τ μ o (xs (x4 + 1).toNatClampNeg) (xs (x4 + 2).toNatClampNeg) r hf he) rfl (Nat.le_of_ble_eq_true rfl) dL_law_1653 (gw_rmo rfl hc hs) rfl ?_
  refine gj_istore C 5 [(5, .int (lw_k ["java/lang/IndexOutOfBoundsException", "java/lang/IllegalStateException"] r.1)), (0, .ref b), (1, .ref (gw_a Γ 0)), (2, .ref (gw_a Γ 132)), (3, .ref (gw_a Γ 151)), (4, .int x4)] dL_law_1656 (by decide) rfl ?_
  refine gj_aload_n C 3 dL_law_1658 rfl ?_
  refine gj_aload_n C 1 dL_law_1659 rfl ?_
  refine gj_iload C 5 dL_law_1660 rfl ?_
  refine gj_iconst (v := 1) C dL_law_1662 (by decide) ?_
  refine gj_iadd C dL_law_1663 ?_
  refine gj_sld C hX hbl hbA h1 dL_law_1664 ?_
  refine gj_aload_n C 1 dL_law_1665 rfl ?_
  refine gj_iload C 5 dL_law_1666 rfl ?_
  refine gj_iconst (v := 2) C dL_law_1668 (by decide) ?_
  refine gj_iadd C dL_law_1669 ?_
  refine gj_sld C hX hbl hbA h2 dL_law_1670 ?_
  refine gj_cVi (As := [.int (xs (x4 + 1).toNatClampNeg), .int (xs (x4 + 2).toNatClampNeg)]) (rest := []) C cb_L_204 (s_X4_accept (gw_l K) Γ r.2 μ (lw_o r.1 o) (xs (x4 + 1).toNatClampNeg) (xs (x4 + 2).toNatClampNeg) q hm) rfl (Nat.le_of_ble_eq_true rfl) gw_atD rfl rfl dL_law_1671 (gw_rmo rfl (by show _ ≤ 601024; omega) (by show _ ≤ 7293034; omega)) rfl ?_
  refine gj_istore C 6 [(6, .int q.1), (5, .int (lw_k ["java/lang/IndexOutOfBoundsException", "java/lang/IllegalStateException"] r.1)), (0, .ref b), (1, .ref (gw_a Γ 0)), (2, .ref (gw_a Γ 132)), (3, .ref (gw_a Γ 151)), (4, .int x4)] dL_law_1674 (by decide) rfl ?_
  refine gj_aload_n C 4 dL_law_1676 rfl ?_
  refine gj_cVi (As := []) (rest := []) C cb_L_128 (s_X4_thrown (gw_l K) Γ r.2 q.2 (lw_o r.1 o) (q.2 0 18) rfl) rfl (Nat.le_of_ble_eq_true rfl) gw_atD rfl rfl dL_law_1677 (gw_rmo rfl (by show _ ≤ 601024; omega) (by show _ ≤ 7293034; omega)) rfl ?_
  refine gj_iload C 1 dL_law_1680 rfl ?_
  refine gj_ic_eq C 1687 dL_law_1682 (by decide) (fun _ => ?_) (fun c => absurd ht c)
  refine gj_iload C 1 dL_law_1687 rfl ?_
  obtain ⟨r1, r2⟩ := r
  cases r1 with
  | inr e =>
    refine gj_if_ne C 1704 dL_law_1689 (by decide) (fun _ => ?_) (fun c => ?_)
    · refine gj_goto C 2404 dL_law_1704 (by decide) ?_
      exact gj_pick [2, 3, 4, 5, 6] _ rfl k
    · exfalso
      rcases he e rfl with rfl | rfl
      · exact absurd c (show ¬ lw_k ["java/lang/IndexOutOfBoundsException", "java/lang/IllegalStateException"] (.inr "java/lang/IndexOutOfBoundsException") = 0 from by decide +kernel)
      · exact absurd c (show ¬ lw_k ["java/lang/IndexOutOfBoundsException", "java/lang/IllegalStateException"] (.inr "java/lang/IllegalStateException") = 0 from by decide +kernel)
  | inl v =>
    refine gj_if_ne C 1704 dL_law_1689 (by decide) (fun c => absurd rfl c) (fun _ => ?_)
    refine gj_aload_n C 5 dL_law_1692 rfl ?_
    refine gj_iconst (v := 0) C dL_law_1693 (by decide) ?_
    refine gj_lald C (vp_in_nI (n := 0) (N := 1) (by decide) (by decide)) dL_law_1694 ?_
    refine gj_iload C 0 dL_law_1695 rfl ?_
    refine gj_i2l C dL_law_1697 ?_
    refine gj_lcmp C dL_law_1698 ?_
    refine gj_if_eq C 1704 dL_law_1699 (by decide) (fun _ => ?_) (fun c => absurd ?_ c)
    · refine gj_goto C 2404 dL_law_1704 (by decide) ?_
      exact gj_pick [2, 3, 4, 5, 6] _ rfl k
    · have e := hv v rfl
      subst e
      exact lg_cmp_self _
set_option maxRecDepth 100000 in
set_option maxHeartbeats 4000000 in
theorem lc_leave {K : gw_K} {Γ : gw_G} (C : gw_C K Γ cL_law 7 RL) {b L : Nat} {xs : Nat → Int32} (hX : va_X b L xs (gw_s K) (gw_s K).heap) (hbl : b < (gw_s K).heap.size) (hbA : ¬ gw_A Γ b) (τ μ : gw_S) (o : Nat → Int64) (x4 : Int32) (h1 : vp_in (x4 + 1) L) (h2 : vp_in (x4 + 2) L) (cells slots : Nat) (hc : cells + 3 ≤ 601024) (hs : slots + 18 ≤ 7293034) (r : (Int32 ⊕ String) × gw_S) (hf : f_X3_leave τ (xs (x4 + 1).toNatClampNeg) (xs (x4 + 2).toNatClampNeg) = some r) (he : ∀ e, r.1 = .inr e → e = "java/lang/IndexOutOfBoundsException" ∨ e = "java/lang/IllegalStateException") (q : Int32 × gw_S) (hm : f_X4_leave μ (xs (x4 + 1).toNatClampNeg) (xs (x4 + 2).toNatClampNeg) = some q) (ht : q.2 0 18 = lw_k ["java/lang/IndexOutOfBoundsException", "java/lang/IllegalStateException"] r.1) (hv : ∀ v, r.1 = .inl v → (v = 0 ↔ q.1 = 0)) (k : gw_J K Γ room_1 (cells + 3) (slots + 18) (gw_W Γ r.2 q.2 (lw_oz r.1 o)) 2404 [(0, .ref b), (1, .ref (gw_a Γ 0)), (2, .ref (gw_a Γ 132)), (3, .ref (gw_a Γ 151)), (4, .int x4)] []) : gw_J K Γ room_1 cells slots (gw_W Γ τ μ o) 1707 [(0, .ref b), (1, .ref (gw_a Γ 0)), (2, .ref (gw_a Γ 132)), (3, .ref (gw_a Γ 151)), (4, .int x4)] [] := by
  refine gj_aload_n C 1 dL_law_1707 rfl ?_
  refine gj_aload_n C 0 dL_law_1708 rfl ?_
  refine gj_iload C 4 dL_law_1709 rfl ?_
  refine gj_iconst (v := 1) C dL_law_1711 (by decide) ?_
  refine gj_iadd C dL_law_1712 ?_
  refine gj_sld C hX hbl hbA h1 dL_law_1713 ?_
  refine gj_aload_n C 0 dL_law_1714 rfl ?_
  refine gj_iload C 4 dL_law_1715 rfl ?_
  refine gj_iconst (v := 2) C dL_law_1717 (by decide) ?_
  refine gj_iadd C dL_law_1718 ?_
  refine gj_sld C hX hbl hbA h2 dL_law_1719 ?_
  refine gj_aload_n C 3 dL_law_1720 rfl ?_
  refine gj_cW (As := [.ref (gw_a Γ 0), .int (xs (x4 + 1).toNatClampNeg), .int (xs (x4 + 2).toNatClampNeg), .ref (gw_a Γ 151)]) (rest := []) C cw_L_205 (w_leave (gw_l K) Γ τ μ o (xs (x4 + 1).toNatClampNeg) (xs (x4 + 2).toNatClampNeg) r hf he) rfl (Nat.le_of_ble_eq_true rfl) dL_law_1721 (gw_rmo rfl hc hs) rfl ?_
  refine gj_istore C 5 [(5, .int (lw_k ["java/lang/IndexOutOfBoundsException", "java/lang/IllegalStateException"] r.1)), (0, .ref b), (1, .ref (gw_a Γ 0)), (2, .ref (gw_a Γ 132)), (3, .ref (gw_a Γ 151)), (4, .int x4)] dL_law_1724 (by decide) rfl ?_
  refine gj_aload_n C 3 dL_law_1726 rfl ?_
  refine gj_aload_n C 1 dL_law_1727 rfl ?_
  refine gj_iload C 5 dL_law_1728 rfl ?_
  refine gj_iconst (v := 1) C dL_law_1730 (by decide) ?_
  refine gj_iadd C dL_law_1731 ?_
  refine gj_sld C hX hbl hbA h1 dL_law_1732 ?_
  refine gj_aload_n C 1 dL_law_1733 rfl ?_
  refine gj_iload C 5 dL_law_1734 rfl ?_
  refine gj_iconst (v := 2) C dL_law_1736 (by decide) ?_
  refine gj_iadd C dL_law_1737 ?_
  refine gj_sld C hX hbl hbA h2 dL_law_1738 ?_
  refine gj_cVi (As := [.int (xs (x4 + 1).toNatClampNeg), .int (xs (x4 + 2).toNatClampNeg)]) (rest := []) C cb_L_207 (s_X4_leave (gw_l K) Γ r.2 μ (lw_oz r.1 o) (xs (x4 + 1).toNatClampNeg) (xs (x4 + 2).toNatClampNeg) q hm) rfl (Nat.le_of_ble_eq_true rfl) gw_atD rfl rfl dL_law_1739 (gw_rmo rfl (by show _ ≤ 601024; omega) (by show _ ≤ 7293034; omega)) rfl ?_
  refine gj_istore C 6 [(6, .int q.1), (5, .int (lw_k ["java/lang/IndexOutOfBoundsException", "java/lang/IllegalStateException"] r.1)), (0, .ref b), (1, .ref (gw_a Γ 0)), (2, .ref (gw_a Γ 132)), (3, .ref (gw_a Γ 151)), (4, .int x4)] dL_law_1742 (by decide) rfl ?_
  refine gj_aload_n C 4 dL_law_1744 rfl ?_
  refine gj_cVi (As := []) (rest := []) C cb_L_128 (s_X4_thrown (gw_l K) Γ r.2 q.2 (lw_oz r.1 o) (q.2 0 18) rfl) rfl (Nat.le_of_ble_eq_true rfl) gw_atD rfl rfl dL_law_1745 (gw_rmo rfl (by show _ ≤ 601024; omega) (by show _ ≤ 7293034; omega)) rfl ?_
  refine gj_iload C 1 dL_law_1748 rfl ?_
  refine gj_ic_eq C 1755 dL_law_1750 (by decide) (fun _ => ?_) (fun c => absurd ht c)
  refine gj_iload C 1 dL_law_1755 rfl ?_
  obtain ⟨r1, r2⟩ := r
  cases r1 with
  | inr e =>
    refine gj_if_ne C 1779 dL_law_1757 (by decide) (fun _ => ?_) (fun c => ?_)
    · refine gj_goto C 2404 dL_law_1779 (by decide) ?_
      exact gj_pick [2, 3, 4, 5, 6] _ rfl k
    · exfalso
      rcases he e rfl with rfl | rfl
      · exact absurd c (show ¬ lw_k ["java/lang/IndexOutOfBoundsException", "java/lang/IllegalStateException"] (.inr "java/lang/IndexOutOfBoundsException") = 0 from by decide +kernel)
      · exact absurd c (show ¬ lw_k ["java/lang/IndexOutOfBoundsException", "java/lang/IllegalStateException"] (.inr "java/lang/IllegalStateException") = 0 from by decide +kernel)
  | inl v =>
    refine gj_if_ne C 1779 dL_law_1757 (by decide) (fun c => absurd rfl c) (fun _ => ?_)
    refine gj_aload_n C 5 dL_law_1760 rfl ?_
    refine gj_iconst (v := 0) C dL_law_1761 (by decide) ?_
    refine gj_lald C (vp_in_nI (n := 0) (N := 1) (by decide) (by decide)) dL_law_1762 ?_
    refine gj_iload C 0 dL_law_1763 rfl ?_
    refine gj_if_eq C 1772 dL_law_1765 (by decide) (fun c => ?_) (fun c => ?_)
    · refine gj_lconst (v := 0) C dL_law_1772 (by decide) ?_
      refine gj_lcmp C dL_law_1773 ?_
      refine gj_if_eq C 1779 dL_law_1774 (by decide) (fun _ => ?_) (fun c2 => absurd ?_ c2)
      · refine gj_goto C 2404 dL_law_1779 (by decide) ?_
        exact gj_pick [2, 3, 4, 5, 6] _ rfl k
      · show lg_cmp (if v = 0 then (0 : Int64) else 1) 0 = 0
        rw [if_pos ((hv v rfl).mpr c)]; exact lg_cmp_self _
    · refine gj_lconst (v := 1) C dL_law_1768 (by decide) ?_
      refine gj_goto C 1773 dL_law_1769 (by decide) ?_
      refine gj_lcmp C dL_law_1773 ?_
      refine gj_if_eq C 1779 dL_law_1774 (by decide) (fun _ => ?_) (fun c2 => absurd ?_ c2)
      · refine gj_goto C 2404 dL_law_1779 (by decide) ?_
        exact gj_pick [2, 3, 4, 5, 6] _ rfl k
      · show lg_cmp (if v = 0 then (0 : Int64) else 1) 1 = 0
        rw [if_neg (fun z => c ((hv v rfl).mp z))]; exact lg_cmp_self _
set_option maxRecDepth 100000 in
set_option maxHeartbeats 4000000 in
theorem lc_advance {K : gw_K} {Γ : gw_G} (C : gw_C K Γ cL_law 7 RL) {b L : Nat} {xs : Nat → Int32} (hX : va_X b L xs (gw_s K) (gw_s K).heap) (hbl : b < (gw_s K).heap.size) (hbA : ¬ gw_A Γ b) (τ μ : gw_S) (o : Nat → Int64) (x4 : Int32) (h1 : vp_in (x4 + 1) L) (cells slots : Nat) (hc : cells + 1 ≤ 601024) (hs : slots + 6 ≤ 7293034) (r : (Int32 ⊕ String) × gw_S) (hf : f_X3_advance τ (xs (x4 + 1).toNatClampNeg) = some r) (he : ∀ e, r.1 = .inr e → e = "java/lang/IllegalArgumentException") (q : Int32 × gw_S) (hm : f_X4_advance μ (xs (x4 + 1).toNatClampNeg) = some q) (ht : q.2 0 18 = lw_k ["java/lang/IllegalArgumentException"] r.1) (hv : ∀ v, r.1 = .inl v → v = q.1) (k : gw_J K Γ room_1 (cells + 1) (slots + 6) (gw_W Γ r.2 q.2 (lw_o r.1 o)) 2404 [(0, .ref b), (1, .ref (gw_a Γ 0)), (2, .ref (gw_a Γ 132)), (3, .ref (gw_a Γ 151)), (4, .int x4)] []) : gw_J K Γ room_1 cells slots (gw_W Γ τ μ o) 1782 [(0, .ref b), (1, .ref (gw_a Γ 0)), (2, .ref (gw_a Γ 132)), (3, .ref (gw_a Γ 151)), (4, .int x4)] [] := by
  refine gj_aload_n C 1 dL_law_1782 rfl ?_
  refine gj_aload_n C 0 dL_law_1783 rfl ?_
  refine gj_iload C 4 dL_law_1784 rfl ?_
  refine gj_iconst (v := 1) C dL_law_1786 (by decide) ?_
  refine gj_iadd C dL_law_1787 ?_
  refine gj_sld C hX hbl hbA h1 dL_law_1788 ?_
  refine gj_aload_n C 3 dL_law_1789 rfl ?_
  refine gj_cW (As := [.ref (gw_a Γ 0), .int (xs (x4 + 1).toNatClampNeg), .ref (gw_a Γ 151)]) (rest := []) C cw_L_208 (w_advance (gw_l K) Γ τ μ o (xs (x4 + 1).toNatClampNeg) r hf he) rfl (Nat.le_of_ble_eq_true rfl) dL_law_1790 (gw_rmo rfl hc hs) rfl ?_
  refine gj_istore C 5 [(5, .int (lw_k ["java/lang/IllegalArgumentException"] r.1)), (0, .ref b), (1, .ref (gw_a Γ 0)), (2, .ref (gw_a Γ 132)), (3, .ref (gw_a Γ 151)), (4, .int x4)] dL_law_1793 (by decide) rfl ?_
  refine gj_aload_n C 3 dL_law_1795 rfl ?_
  refine gj_aload_n C 1 dL_law_1796 rfl ?_
  refine gj_iload C 5 dL_law_1797 rfl ?_
  refine gj_iconst (v := 1) C dL_law_1799 (by decide) ?_
  refine gj_iadd C dL_law_1800 ?_
  refine gj_sld C hX hbl hbA h1 dL_law_1801 ?_
  refine gj_cVi (As := [.int (xs (x4 + 1).toNatClampNeg)]) (rest := []) C cb_L_210 (s_X4_advance (gw_l K) Γ r.2 μ (lw_o r.1 o) (xs (x4 + 1).toNatClampNeg) q hm) rfl (Nat.le_of_ble_eq_true rfl) gw_atD rfl rfl dL_law_1802 (gw_rmo rfl (by show _ ≤ 601024; omega) (by show _ ≤ 7293034; omega)) rfl ?_
  refine gj_istore C 6 [(6, .int q.1), (5, .int (lw_k ["java/lang/IllegalArgumentException"] r.1)), (0, .ref b), (1, .ref (gw_a Γ 0)), (2, .ref (gw_a Γ 132)), (3, .ref (gw_a Γ 151)), (4, .int x4)] dL_law_1805 (by decide) rfl ?_
  refine gj_aload_n C 4 dL_law_1807 rfl ?_
  refine gj_cVi (As := []) (rest := []) C cb_L_128 (s_X4_thrown (gw_l K) Γ r.2 q.2 (lw_o r.1 o) (q.2 0 18) rfl) rfl (Nat.le_of_ble_eq_true rfl) gw_atD rfl rfl dL_law_1808 (gw_rmo rfl (by show _ ≤ 601024; omega) (by show _ ≤ 7293034; omega)) rfl ?_
  refine gj_iload C 1 dL_law_1811 rfl ?_
  refine gj_ic_eq C 1818 dL_law_1813 (by decide) (fun _ => ?_) (fun c => absurd ht c)
  refine gj_iload C 1 dL_law_1818 rfl ?_
  obtain ⟨r1, r2⟩ := r
  cases r1 with
  | inr e =>
    refine gj_if_ne C 1835 dL_law_1820 (by decide) (fun _ => ?_) (fun c => ?_)
    · refine gj_goto C 2404 dL_law_1835 (by decide) ?_
      exact gj_pick [2, 3, 4, 5, 6] _ rfl k
    · exfalso
      rcases he e rfl with rfl
      · exact absurd c (show ¬ lw_k ["java/lang/IllegalArgumentException"] (.inr "java/lang/IllegalArgumentException") = 0 from by decide +kernel)
  | inl v =>
    refine gj_if_ne C 1835 dL_law_1820 (by decide) (fun c => absurd rfl c) (fun _ => ?_)
    refine gj_aload_n C 5 dL_law_1823 rfl ?_
    refine gj_iconst (v := 0) C dL_law_1824 (by decide) ?_
    refine gj_lald C (vp_in_nI (n := 0) (N := 1) (by decide) (by decide)) dL_law_1825 ?_
    refine gj_iload C 0 dL_law_1826 rfl ?_
    refine gj_i2l C dL_law_1828 ?_
    refine gj_lcmp C dL_law_1829 ?_
    refine gj_if_eq C 1835 dL_law_1830 (by decide) (fun _ => ?_) (fun c => absurd ?_ c)
    · refine gj_goto C 2404 dL_law_1835 (by decide) ?_
      exact gj_pick [2, 3, 4, 5, 6] _ rfl k
    · have e := hv v rfl
      subst e
      exact lg_cmp_self _
set_option maxRecDepth 100000 in
set_option maxHeartbeats 4000000 in
theorem lc_day {K : gw_K} {Γ : gw_G} (C : gw_C K Γ cL_law 7 RL) {b L : Nat} {xs : Nat → Int32} (hX : va_X b L xs (gw_s K) (gw_s K).heap) (hbl : b < (gw_s K).heap.size) (hbA : ¬ gw_A Γ b) (τ μ : gw_S) (o : Nat → Int64) (x4 : Int32) (cells slots : Nat) (hc : cells ≤ 601024) (hs : slots ≤ 7293034) (r : Int32) (hf : f_X3_day τ = some r) (q : Int32 × gw_S) (hm : f_X4_day μ = some q) (hv : r = q.1) (k : gw_J K Γ room_1 cells slots (gw_W Γ τ q.2 o) 2404 [(0, .ref b), (1, .ref (gw_a Γ 0)), (2, .ref (gw_a Γ 132)), (3, .ref (gw_a Γ 151)), (4, .int x4)] []) : gw_J K Γ room_1 cells slots (gw_W Γ τ μ o) 1838 [(0, .ref b), (1, .ref (gw_a Γ 0)), (2, .ref (gw_a Γ 132)), (3, .ref (gw_a Γ 151)), (4, .int x4)] [] := by
  refine gj_aload_n C 1 dL_law_1838 rfl ?_
  refine gj_cVi (As := []) (rest := []) C cb_L_211 (s_X3_day (gw_l K) Γ τ μ o r hf) rfl (Nat.le_of_ble_eq_true rfl) gw_atM rfl rfl dL_law_1839 (gw_rmo rfl hc hs) rfl ?_
  refine gj_aload_n C 2 dL_law_1842 rfl ?_
  refine gj_cVi (As := []) (rest := [.int r]) C cb_L_214 (s_X4_day (gw_l K) Γ τ μ o q hm) rfl (Nat.le_of_ble_eq_true rfl) gw_atD rfl rfl dL_law_1843 (gw_rmo rfl hc hs) rfl ?_
  exact gj_ic_eq C 2404 dL_law_1846 (by decide) (fun _ => k) (fun c => absurd hv c)
set_option maxRecDepth 100000 in
set_option maxHeartbeats 4000000 in
theorem lc_waiting {K : gw_K} {Γ : gw_G} (C : gw_C K Γ cL_law 7 RL) {b L : Nat} {xs : Nat → Int32} (hX : va_X b L xs (gw_s K) (gw_s K).heap) (hbl : b < (gw_s K).heap.size) (hbA : ¬ gw_A Γ b) (τ μ : gw_S) (o : Nat → Int64) (x4 : Int32) (h1 : vp_in (x4 + 1) L) (cells slots : Nat) (hc : cells + 1 ≤ 601024) (hs : slots + 6 ≤ 7293034) (r : (Int32 ⊕ String)) (hf : f_X3_waiting τ (xs (x4 + 1).toNatClampNeg) = some r) (he : ∀ e, r = .inr e → e = "java/lang/IndexOutOfBoundsException") (q : Int32 × gw_S) (hm : f_X4_waiting μ (xs (x4 + 1).toNatClampNeg) = some q) (ht : q.2 0 18 = lw_k ["java/lang/IndexOutOfBoundsException"] r) (hv : ∀ v, r = .inl v → v = q.1) (k : gw_J K Γ room_1 (cells + 1) (slots + 6) (gw_W Γ τ q.2 (lw_o r o)) 2404 [(0, .ref b), (1, .ref (gw_a Γ 0)), (2, .ref (gw_a Γ 132)), (3, .ref (gw_a Γ 151)), (4, .int x4)] []) : gw_J K Γ room_1 cells slots (gw_W Γ τ μ o) 1851 [(0, .ref b), (1, .ref (gw_a Γ 0)), (2, .ref (gw_a Γ 132)), (3, .ref (gw_a Γ 151)), (4, .int x4)] [] := by
  refine gj_aload_n C 1 dL_law_1851 rfl ?_
  refine gj_aload_n C 0 dL_law_1852 rfl ?_
  refine gj_iload C 4 dL_law_1853 rfl ?_
  refine gj_iconst (v := 1) C dL_law_1855 (by decide) ?_
  refine gj_iadd C dL_law_1856 ?_
  refine gj_sld C hX hbl hbA h1 dL_law_1857 ?_
  refine gj_aload_n C 3 dL_law_1858 rfl ?_
  refine gj_cW (As := [.ref (gw_a Γ 0), .int (xs (x4 + 1).toNatClampNeg), .ref (gw_a Γ 151)]) (rest := []) C cw_L_215 (w_waiting (gw_l K) Γ τ μ o (xs (x4 + 1).toNatClampNeg) r hf he) rfl (Nat.le_of_ble_eq_true rfl) dL_law_1859 (gw_rmo rfl hc hs) rfl ?_
  refine gj_istore C 5 [(5, .int (lw_k ["java/lang/IndexOutOfBoundsException"] r)), (0, .ref b), (1, .ref (gw_a Γ 0)), (2, .ref (gw_a Γ 132)), (3, .ref (gw_a Γ 151)), (4, .int x4)] dL_law_1862 (by decide) rfl ?_
  refine gj_aload_n C 3 dL_law_1864 rfl ?_
  refine gj_aload_n C 1 dL_law_1865 rfl ?_
  refine gj_iload C 5 dL_law_1866 rfl ?_
  refine gj_iconst (v := 1) C dL_law_1868 (by decide) ?_
  refine gj_iadd C dL_law_1869 ?_
  refine gj_sld C hX hbl hbA h1 dL_law_1870 ?_
  refine gj_cVi (As := [.int (xs (x4 + 1).toNatClampNeg)]) (rest := []) C cb_L_217 (s_X4_waiting (gw_l K) Γ τ μ (lw_o r o) (xs (x4 + 1).toNatClampNeg) q hm) rfl (Nat.le_of_ble_eq_true rfl) gw_atD rfl rfl dL_law_1871 (gw_rmo rfl (by show _ ≤ 601024; omega) (by show _ ≤ 7293034; omega)) rfl ?_
  refine gj_istore C 6 [(6, .int q.1), (5, .int (lw_k ["java/lang/IndexOutOfBoundsException"] r)), (0, .ref b), (1, .ref (gw_a Γ 0)), (2, .ref (gw_a Γ 132)), (3, .ref (gw_a Γ 151)), (4, .int x4)] dL_law_1874 (by decide) rfl ?_
  refine gj_aload_n C 4 dL_law_1876 rfl ?_
  refine gj_cVi (As := []) (rest := []) C cb_L_128 (s_X4_thrown (gw_l K) Γ τ q.2 (lw_o r o) (q.2 0 18) rfl) rfl (Nat.le_of_ble_eq_true rfl) gw_atD rfl rfl dL_law_1877 (gw_rmo rfl (by show _ ≤ 601024; omega) (by show _ ≤ 7293034; omega)) rfl ?_
  refine gj_iload C 1 dL_law_1880 rfl ?_
  refine gj_ic_eq C 1887 dL_law_1882 (by decide) (fun _ => ?_) (fun c => absurd ht c)
  refine gj_iload C 1 dL_law_1887 rfl ?_
  cases r with
  | inr e =>
    refine gj_if_ne C 1904 dL_law_1889 (by decide) (fun _ => ?_) (fun c => ?_)
    · refine gj_goto C 2404 dL_law_1904 (by decide) ?_
      exact gj_pick [2, 3, 4, 5, 6] _ rfl k
    · exfalso
      rcases he e rfl with rfl
      · exact absurd c (show ¬ lw_k ["java/lang/IndexOutOfBoundsException"] (.inr "java/lang/IndexOutOfBoundsException") = 0 from by decide +kernel)
  | inl v =>
    refine gj_if_ne C 1904 dL_law_1889 (by decide) (fun c => absurd rfl c) (fun _ => ?_)
    refine gj_aload_n C 5 dL_law_1892 rfl ?_
    refine gj_iconst (v := 0) C dL_law_1893 (by decide) ?_
    refine gj_lald C (vp_in_nI (n := 0) (N := 1) (by decide) (by decide)) dL_law_1894 ?_
    refine gj_iload C 0 dL_law_1895 rfl ?_
    refine gj_i2l C dL_law_1897 ?_
    refine gj_lcmp C dL_law_1898 ?_
    refine gj_if_eq C 1904 dL_law_1899 (by decide) (fun _ => ?_) (fun c => absurd ?_ c)
    · refine gj_goto C 2404 dL_law_1904 (by decide) ?_
      exact gj_pick [2, 3, 4, 5, 6] _ rfl k
    · have e := hv v rfl
      subst e
      exact lg_cmp_self _
set_option maxRecDepth 100000 in
set_option maxHeartbeats 4000000 in
theorem lc_waitingAt {K : gw_K} {Γ : gw_G} (C : gw_C K Γ cL_law 7 RL) {b L : Nat} {xs : Nat → Int32} (hX : va_X b L xs (gw_s K) (gw_s K).heap) (hbl : b < (gw_s K).heap.size) (hbA : ¬ gw_A Γ b) (τ μ : gw_S) (o : Nat → Int64) (x4 : Int32) (h1 : vp_in (x4 + 1) L) (h2 : vp_in (x4 + 2) L) (cells slots : Nat) (hc : cells + 2 ≤ 601024) (hs : slots + 12 ≤ 7293034) (r : (Int32 ⊕ String)) (hf : f_X3_waitingAt τ (xs (x4 + 1).toNatClampNeg) (xs (x4 + 2).toNatClampNeg) = some r) (he : ∀ e, r = .inr e → e = "java/lang/IndexOutOfBoundsException") (q : Int32 × gw_S) (hm : f_X4_waitingAt μ (xs (x4 + 1).toNatClampNeg) (xs (x4 + 2).toNatClampNeg) = some q) (ht : q.2 0 18 = lw_k ["java/lang/IndexOutOfBoundsException"] r) (hv : ∀ v, r = .inl v → v = q.1) (k : gw_J K Γ room_1 (cells + 2) (slots + 12) (gw_W Γ τ q.2 (lw_o r o)) 2404 [(0, .ref b), (1, .ref (gw_a Γ 0)), (2, .ref (gw_a Γ 132)), (3, .ref (gw_a Γ 151)), (4, .int x4)] []) : gw_J K Γ room_1 cells slots (gw_W Γ τ μ o) 1907 [(0, .ref b), (1, .ref (gw_a Γ 0)), (2, .ref (gw_a Γ 132)), (3, .ref (gw_a Γ 151)), (4, .int x4)] [] := by
  refine gj_aload_n C 1 dL_law_1907 rfl ?_
  refine gj_aload_n C 0 dL_law_1908 rfl ?_
  refine gj_iload C 4 dL_law_1909 rfl ?_
  refine gj_iconst (v := 1) C dL_law_1911 (by decide) ?_
  refine gj_iadd C dL_law_1912 ?_
  refine gj_sld C hX hbl hbA h1 dL_law_1913 ?_
  refine gj_aload_n C 0 dL_law_1914 rfl ?_
  refine gj_iload C 4 dL_law_1915 rfl ?_
  refine gj_iconst (v := 2) C dL_law_1917 (by decide) ?_
  refine gj_iadd C dL_law_1918 ?_
  refine gj_sld C hX hbl hbA h2 dL_law_1919 ?_
  refine gj_aload_n C 3 dL_law_1920 rfl ?_
  refine gj_cW (As := [.ref (gw_a Γ 0), .int (xs (x4 + 1).toNatClampNeg), .int (xs (x4 + 2).toNatClampNeg), .ref (gw_a Γ 151)]) (rest := []) C cw_L_218 (w_waitingAt (gw_l K) Γ τ μ o (xs (x4 + 1).toNatClampNeg) (xs (x4 + 2).toNatClampNeg) r hf he) rfl (Nat.le_of_ble_eq_true rfl) dL_law_1921 (gw_rmo rfl hc hs) rfl ?_
  refine gj_istore C 5 [(5, .int (lw_k ["java/lang/IndexOutOfBoundsException"] r)), (0, .ref b), (1, .ref (gw_a Γ 0)), (2, .ref (gw_a Γ 132)), (3, .ref (gw_a Γ 151)), (4, .int x4)] dL_law_1924 (by decide) rfl ?_
  refine gj_aload_n C 3 dL_law_1926 rfl ?_
  refine gj_aload_n C 1 dL_law_1927 rfl ?_
  refine gj_iload C 5 dL_law_1928 rfl ?_
  refine gj_iconst (v := 1) C dL_law_1930 (by decide) ?_
  refine gj_iadd C dL_law_1931 ?_
  refine gj_sld C hX hbl hbA h1 dL_law_1932 ?_
  refine gj_aload_n C 1 dL_law_1933 rfl ?_
  refine gj_iload C 5 dL_law_1934 rfl ?_
  refine gj_iconst (v := 2) C dL_law_1936 (by decide) ?_
  refine gj_iadd C dL_law_1937 ?_
  refine gj_sld C hX hbl hbA h2 dL_law_1938 ?_
  refine gj_cVi (As := [.int (xs (x4 + 1).toNatClampNeg), .int (xs (x4 + 2).toNatClampNeg)]) (rest := []) C cb_L_220 (s_X4_waitingAt (gw_l K) Γ τ μ (lw_o r o) (xs (x4 + 1).toNatClampNeg) (xs (x4 + 2).toNatClampNeg) q hm) rfl (Nat.le_of_ble_eq_true rfl) gw_atD rfl rfl dL_law_1939 (gw_rmo rfl (by show _ ≤ 601024; omega) (by show _ ≤ 7293034; omega)) rfl ?_
  refine gj_istore C 6 [(6, .int q.1), (5, .int (lw_k ["java/lang/IndexOutOfBoundsException"] r)), (0, .ref b), (1, .ref (gw_a Γ 0)), (2, .ref (gw_a Γ 132)), (3, .ref (gw_a Γ 151)), (4, .int x4)] dL_law_1942 (by decide) rfl ?_
  refine gj_aload_n C 4 dL_law_1944 rfl ?_
  refine gj_cVi (As := []) (rest := []) C cb_L_128 (s_X4_thrown (gw_l K) Γ τ q.2 (lw_o r o) (q.2 0 18) rfl) rfl (Nat.le_of_ble_eq_true rfl) gw_atD rfl rfl dL_law_1945 (gw_rmo rfl (by show _ ≤ 601024; omega) (by show _ ≤ 7293034; omega)) rfl ?_
  refine gj_iload C 1 dL_law_1948 rfl ?_
  refine gj_ic_eq C 1955 dL_law_1950 (by decide) (fun _ => ?_) (fun c => absurd ht c)
  refine gj_iload C 1 dL_law_1955 rfl ?_
  cases r with
  | inr e =>
    refine gj_if_ne C 1972 dL_law_1957 (by decide) (fun _ => ?_) (fun c => ?_)
    · refine gj_goto C 2404 dL_law_1972 (by decide) ?_
      exact gj_pick [2, 3, 4, 5, 6] _ rfl k
    · exfalso
      rcases he e rfl with rfl
      · exact absurd c (show ¬ lw_k ["java/lang/IndexOutOfBoundsException"] (.inr "java/lang/IndexOutOfBoundsException") = 0 from by decide +kernel)
  | inl v =>
    refine gj_if_ne C 1972 dL_law_1957 (by decide) (fun c => absurd rfl c) (fun _ => ?_)
    refine gj_aload_n C 5 dL_law_1960 rfl ?_
    refine gj_iconst (v := 0) C dL_law_1961 (by decide) ?_
    refine gj_lald C (vp_in_nI (n := 0) (N := 1) (by decide) (by decide)) dL_law_1962 ?_
    refine gj_iload C 0 dL_law_1963 rfl ?_
    refine gj_i2l C dL_law_1965 ?_
    refine gj_lcmp C dL_law_1966 ?_
    refine gj_if_eq C 1972 dL_law_1967 (by decide) (fun _ => ?_) (fun c => absurd ?_ c)
    · refine gj_goto C 2404 dL_law_1972 (by decide) ?_
      exact gj_pick [2, 3, 4, 5, 6] _ rfl k
    · have e := hv v rfl
      subst e
      exact lg_cmp_self _
set_option maxRecDepth 100000 in
set_option maxHeartbeats 4000000 in
theorem lc_offerDays {K : gw_K} {Γ : gw_G} (C : gw_C K Γ cL_law 7 RL) {b L : Nat} {xs : Nat → Int32} (hX : va_X b L xs (gw_s K) (gw_s K).heap) (hbl : b < (gw_s K).heap.size) (hbA : ¬ gw_A Γ b) (τ μ : gw_S) (o : Nat → Int64) (x4 : Int32) (h1 : vp_in (x4 + 1) L) (h2 : vp_in (x4 + 2) L) (cells slots : Nat) (hc : cells + 2 ≤ 601024) (hs : slots + 12 ≤ 7293034) (r : (Int32 ⊕ String)) (hf : f_X3_offerDays τ (xs (x4 + 1).toNatClampNeg) (xs (x4 + 2).toNatClampNeg) = some r) (he : ∀ e, r = .inr e → e = "java/lang/IndexOutOfBoundsException") (q : Int32 × gw_S) (hm : f_X4_offerDays μ (xs (x4 + 1).toNatClampNeg) (xs (x4 + 2).toNatClampNeg) = some q) (ht : q.2 0 18 = lw_k ["java/lang/IndexOutOfBoundsException"] r) (hv : ∀ v, r = .inl v → v = q.1) (k : gw_J K Γ room_1 (cells + 2) (slots + 12) (gw_W Γ τ q.2 (lw_o r o)) 2404 [(0, .ref b), (1, .ref (gw_a Γ 0)), (2, .ref (gw_a Γ 132)), (3, .ref (gw_a Γ 151)), (4, .int x4)] []) : gw_J K Γ room_1 cells slots (gw_W Γ τ μ o) 1975 [(0, .ref b), (1, .ref (gw_a Γ 0)), (2, .ref (gw_a Γ 132)), (3, .ref (gw_a Γ 151)), (4, .int x4)] [] := by
  refine gj_aload_n C 1 dL_law_1975 rfl ?_
  refine gj_aload_n C 0 dL_law_1976 rfl ?_
  refine gj_iload C 4 dL_law_1977 rfl ?_
  refine gj_iconst (v := 1) C dL_law_1979 (by decide) ?_
  refine gj_iadd C dL_law_1980 ?_
  refine gj_sld C hX hbl hbA h1 dL_law_1981 ?_
  refine gj_aload_n C 0 dL_law_1982 rfl ?_
  refine gj_iload C 4 dL_law_1983 rfl ?_
  refine gj_iconst (v := 2) C dL_law_1985 (by decide) ?_
  refine gj_iadd C dL_law_1986 ?_
  refine gj_sld C hX hbl hbA h2 dL_law_1987 ?_
  refine gj_aload_n C 3 dL_law_1988 rfl ?_
  refine gj_cW (As := [.ref (gw_a Γ 0), .int (xs (x4 + 1).toNatClampNeg), .int (xs (x4 + 2).toNatClampNeg), .ref (gw_a Γ 151)]) (rest := []) C cw_L_221 (w_offerDays (gw_l K) Γ τ μ o (xs (x4 + 1).toNatClampNeg) (xs (x4 + 2).toNatClampNeg) r hf he) rfl (Nat.le_of_ble_eq_true rfl) dL_law_1989 (gw_rmo rfl hc hs) rfl ?_
  refine gj_istore C 5 [(5, .int (lw_k ["java/lang/IndexOutOfBoundsException"] r)), (0, .ref b), (1, .ref (gw_a Γ 0)), (2, .ref (gw_a Γ 132)), (3, .ref (gw_a Γ 151)), (4, .int x4)] dL_law_1992 (by decide) rfl ?_
  refine gj_aload_n C 3 dL_law_1994 rfl ?_
  refine gj_aload_n C 1 dL_law_1995 rfl ?_
  refine gj_iload C 5 dL_law_1996 rfl ?_
  refine gj_iconst (v := 1) C dL_law_1998 (by decide) ?_
  refine gj_iadd C dL_law_1999 ?_
  refine gj_sld C hX hbl hbA h1 dL_law_2000 ?_
  refine gj_aload_n C 1 dL_law_2001 rfl ?_
  refine gj_iload C 5 dL_law_2002 rfl ?_
  refine gj_iconst (v := 2) C dL_law_2004 (by decide) ?_
  refine gj_iadd C dL_law_2005 ?_
  refine gj_sld C hX hbl hbA h2 dL_law_2006 ?_
  refine gj_cVi (As := [.int (xs (x4 + 1).toNatClampNeg), .int (xs (x4 + 2).toNatClampNeg)]) (rest := []) C cb_L_223 (s_X4_offerDays (gw_l K) Γ τ μ (lw_o r o) (xs (x4 + 1).toNatClampNeg) (xs (x4 + 2).toNatClampNeg) q hm) rfl (Nat.le_of_ble_eq_true rfl) gw_atD rfl rfl dL_law_2007 (gw_rmo rfl (by show _ ≤ 601024; omega) (by show _ ≤ 7293034; omega)) rfl ?_
  refine gj_istore C 6 [(6, .int q.1), (5, .int (lw_k ["java/lang/IndexOutOfBoundsException"] r)), (0, .ref b), (1, .ref (gw_a Γ 0)), (2, .ref (gw_a Γ 132)), (3, .ref (gw_a Γ 151)), (4, .int x4)] dL_law_2010 (by decide) rfl ?_
  refine gj_aload_n C 4 dL_law_2012 rfl ?_
  refine gj_cVi (As := []) (rest := []) C cb_L_128 (s_X4_thrown (gw_l K) Γ τ q.2 (lw_o r o) (q.2 0 18) rfl) rfl (Nat.le_of_ble_eq_true rfl) gw_atD rfl rfl dL_law_2013 (gw_rmo rfl (by show _ ≤ 601024; omega) (by show _ ≤ 7293034; omega)) rfl ?_
  refine gj_iload C 1 dL_law_2016 rfl ?_
  refine gj_ic_eq C 2023 dL_law_2018 (by decide) (fun _ => ?_) (fun c => absurd ht c)
  refine gj_iload C 1 dL_law_2023 rfl ?_
  cases r with
  | inr e =>
    refine gj_if_ne C 2040 dL_law_2025 (by decide) (fun _ => ?_) (fun c => ?_)
    · refine gj_goto C 2404 dL_law_2040 (by decide) ?_
      exact gj_pick [2, 3, 4, 5, 6] _ rfl k
    · exfalso
      rcases he e rfl with rfl
      · exact absurd c (show ¬ lw_k ["java/lang/IndexOutOfBoundsException"] (.inr "java/lang/IndexOutOfBoundsException") = 0 from by decide +kernel)
  | inl v =>
    refine gj_if_ne C 2040 dL_law_2025 (by decide) (fun c => absurd rfl c) (fun _ => ?_)
    refine gj_aload_n C 5 dL_law_2028 rfl ?_
    refine gj_iconst (v := 0) C dL_law_2029 (by decide) ?_
    refine gj_lald C (vp_in_nI (n := 0) (N := 1) (by decide) (by decide)) dL_law_2030 ?_
    refine gj_iload C 0 dL_law_2031 rfl ?_
    refine gj_i2l C dL_law_2033 ?_
    refine gj_lcmp C dL_law_2034 ?_
    refine gj_if_eq C 2040 dL_law_2035 (by decide) (fun _ => ?_) (fun c => absurd ?_ c)
    · refine gj_goto C 2404 dL_law_2040 (by decide) ?_
      exact gj_pick [2, 3, 4, 5, 6] _ rfl k
    · have e := hv v rfl
      subst e
      exact lg_cmp_self _
set_option maxRecDepth 100000 in
set_option maxHeartbeats 4000000 in
theorem lc_runLottery {K : gw_K} {Γ : gw_G} (C : gw_C K Γ cL_law 7 RL) {b L : Nat} {xs : Nat → Int32} (hX : va_X b L xs (gw_s K) (gw_s K).heap) (hbl : b < (gw_s K).heap.size) (hbA : ¬ gw_A Γ b) (τ μ : gw_S) (o : Nat → Int64) (x4 : Int32) (h1 : vp_in (x4 + 1) L) (cells slots : Nat) (hc : cells + 1 ≤ 601024) (hs : slots + 6 ≤ 7293034) (r : (Int32 ⊕ String) × gw_S) (hf : f_X3_runLottery τ (xs (x4 + 1).toNatClampNeg) = some r) (he : ∀ e, r.1 = .inr e → e = "java/lang/IllegalArgumentException") (q : Int32 × gw_S) (hm : f_X4_runLottery μ (xs (x4 + 1).toNatClampNeg) = some q) (ht : q.2 0 18 = lw_k ["java/lang/IllegalArgumentException"] r.1) (hv : ∀ v, r.1 = .inl v → v = q.1) (k : gw_J K Γ room_1 (cells + 1) (slots + 6) (gw_W Γ r.2 q.2 (lw_o r.1 o)) 2404 [(0, .ref b), (1, .ref (gw_a Γ 0)), (2, .ref (gw_a Γ 132)), (3, .ref (gw_a Γ 151)), (4, .int x4)] []) : gw_J K Γ room_1 cells slots (gw_W Γ τ μ o) 2043 [(0, .ref b), (1, .ref (gw_a Γ 0)), (2, .ref (gw_a Γ 132)), (3, .ref (gw_a Γ 151)), (4, .int x4)] [] := by
  refine gj_aload_n C 1 dL_law_2043 rfl ?_
  refine gj_aload_n C 0 dL_law_2044 rfl ?_
  refine gj_iload C 4 dL_law_2045 rfl ?_
  refine gj_iconst (v := 1) C dL_law_2047 (by decide) ?_
  refine gj_iadd C dL_law_2048 ?_
  refine gj_sld C hX hbl hbA h1 dL_law_2049 ?_
  refine gj_aload_n C 3 dL_law_2050 rfl ?_
  refine gj_cW (As := [.ref (gw_a Γ 0), .int (xs (x4 + 1).toNatClampNeg), .ref (gw_a Γ 151)]) (rest := []) C cw_L_224 (w_runLottery (gw_l K) Γ τ μ o (xs (x4 + 1).toNatClampNeg) r hf he) rfl (Nat.le_of_ble_eq_true rfl) dL_law_2051 (gw_rmo rfl hc hs) rfl ?_
  refine gj_istore C 5 [(5, .int (lw_k ["java/lang/IllegalArgumentException"] r.1)), (0, .ref b), (1, .ref (gw_a Γ 0)), (2, .ref (gw_a Γ 132)), (3, .ref (gw_a Γ 151)), (4, .int x4)] dL_law_2054 (by decide) rfl ?_
  refine gj_aload_n C 3 dL_law_2056 rfl ?_
  refine gj_aload_n C 1 dL_law_2057 rfl ?_
  refine gj_iload C 5 dL_law_2058 rfl ?_
  refine gj_iconst (v := 1) C dL_law_2060 (by decide) ?_
  refine gj_iadd C dL_law_2061 ?_
  refine gj_sld C hX hbl hbA h1 dL_law_2062 ?_
  refine gj_cVi (As := [.int (xs (x4 + 1).toNatClampNeg)]) (rest := []) C cb_L_226 (s_X4_runLottery (gw_l K) Γ r.2 μ (lw_o r.1 o) (xs (x4 + 1).toNatClampNeg) q hm) rfl (Nat.le_of_ble_eq_true rfl) gw_atD rfl rfl dL_law_2063 (gw_rmo rfl (by show _ ≤ 601024; omega) (by show _ ≤ 7293034; omega)) rfl ?_
  refine gj_istore C 6 [(6, .int q.1), (5, .int (lw_k ["java/lang/IllegalArgumentException"] r.1)), (0, .ref b), (1, .ref (gw_a Γ 0)), (2, .ref (gw_a Γ 132)), (3, .ref (gw_a Γ 151)), (4, .int x4)] dL_law_2066 (by decide) rfl ?_
  refine gj_aload_n C 4 dL_law_2068 rfl ?_
  refine gj_cVi (As := []) (rest := []) C cb_L_128 (s_X4_thrown (gw_l K) Γ r.2 q.2 (lw_o r.1 o) (q.2 0 18) rfl) rfl (Nat.le_of_ble_eq_true rfl) gw_atD rfl rfl dL_law_2069 (gw_rmo rfl (by show _ ≤ 601024; omega) (by show _ ≤ 7293034; omega)) rfl ?_
  refine gj_iload C 1 dL_law_2072 rfl ?_
  refine gj_ic_eq C 2079 dL_law_2074 (by decide) (fun _ => ?_) (fun c => absurd ht c)
  refine gj_iload C 1 dL_law_2079 rfl ?_
  obtain ⟨r1, r2⟩ := r
  cases r1 with
  | inr e =>
    refine gj_if_ne C 2096 dL_law_2081 (by decide) (fun _ => ?_) (fun c => ?_)
    · refine gj_goto C 2404 dL_law_2096 (by decide) ?_
      exact gj_pick [2, 3, 4, 5, 6] _ rfl k
    · exfalso
      rcases he e rfl with rfl
      · exact absurd c (show ¬ lw_k ["java/lang/IllegalArgumentException"] (.inr "java/lang/IllegalArgumentException") = 0 from by decide +kernel)
  | inl v =>
    refine gj_if_ne C 2096 dL_law_2081 (by decide) (fun c => absurd rfl c) (fun _ => ?_)
    refine gj_aload_n C 5 dL_law_2084 rfl ?_
    refine gj_iconst (v := 0) C dL_law_2085 (by decide) ?_
    refine gj_lald C (vp_in_nI (n := 0) (N := 1) (by decide) (by decide)) dL_law_2086 ?_
    refine gj_iload C 0 dL_law_2087 rfl ?_
    refine gj_i2l C dL_law_2089 ?_
    refine gj_lcmp C dL_law_2090 ?_
    refine gj_if_eq C 2096 dL_law_2091 (by decide) (fun _ => ?_) (fun c => absurd ?_ c)
    · refine gj_goto C 2404 dL_law_2096 (by decide) ?_
      exact gj_pick [2, 3, 4, 5, 6] _ rfl k
    · have e := hv v rfl
      subst e
      exact lg_cmp_self _
set_option maxRecDepth 100000 in
set_option maxHeartbeats 4000000 in
theorem lc_lotteryNumber {K : gw_K} {Γ : gw_G} (C : gw_C K Γ cL_law 7 RL) {b L : Nat} {xs : Nat → Int32} (hX : va_X b L xs (gw_s K) (gw_s K).heap) (hbl : b < (gw_s K).heap.size) (hbA : ¬ gw_A Γ b) (τ μ : gw_S) (o : Nat → Int64) (x4 : Int32) (h1 : vp_in (x4 + 1) L) (cells slots : Nat) (hc : cells + 1 ≤ 601024) (hs : slots + 6 ≤ 7293034) (r : (Int32 ⊕ String)) (hf : f_X3_lotteryNumber τ (xs (x4 + 1).toNatClampNeg) = some r) (he : ∀ e, r = .inr e → e = "java/lang/IndexOutOfBoundsException") (q : Int32 × gw_S) (hm : f_X4_lotteryNumber μ (xs (x4 + 1).toNatClampNeg) = some q) (ht : q.2 0 18 = lw_k ["java/lang/IndexOutOfBoundsException"] r) (hv : ∀ v, r = .inl v → v = q.1) (k : gw_J K Γ room_1 (cells + 1) (slots + 6) (gw_W Γ τ q.2 (lw_o r o)) 2404 [(0, .ref b), (1, .ref (gw_a Γ 0)), (2, .ref (gw_a Γ 132)), (3, .ref (gw_a Γ 151)), (4, .int x4)] []) : gw_J K Γ room_1 cells slots (gw_W Γ τ μ o) 2099 [(0, .ref b), (1, .ref (gw_a Γ 0)), (2, .ref (gw_a Γ 132)), (3, .ref (gw_a Γ 151)), (4, .int x4)] [] := by
  refine gj_aload_n C 1 dL_law_2099 rfl ?_
  refine gj_aload_n C 0 dL_law_2100 rfl ?_
  refine gj_iload C 4 dL_law_2101 rfl ?_
  refine gj_iconst (v := 1) C dL_law_2103 (by decide) ?_
  refine gj_iadd C dL_law_2104 ?_
  refine gj_sld C hX hbl hbA h1 dL_law_2105 ?_
  refine gj_aload_n C 3 dL_law_2106 rfl ?_
  refine gj_cW (As := [.ref (gw_a Γ 0), .int (xs (x4 + 1).toNatClampNeg), .ref (gw_a Γ 151)]) (rest := []) C cw_L_227 (w_lotteryNumber (gw_l K) Γ τ μ o (xs (x4 + 1).toNatClampNeg) r hf he) rfl (Nat.le_of_ble_eq_true rfl) dL_law_2107 (gw_rmo rfl hc hs) rfl ?_
  refine gj_istore C 5 [(5, .int (lw_k ["java/lang/IndexOutOfBoundsException"] r)), (0, .ref b), (1, .ref (gw_a Γ 0)), (2, .ref (gw_a Γ 132)), (3, .ref (gw_a Γ 151)), (4, .int x4)] dL_law_2110 (by decide) rfl ?_
  refine gj_aload_n C 3 dL_law_2112 rfl ?_
  refine gj_aload_n C 1 dL_law_2113 rfl ?_
  refine gj_iload C 5 dL_law_2114 rfl ?_
  refine gj_iconst (v := 1) C dL_law_2116 (by decide) ?_
  refine gj_iadd C dL_law_2117 ?_
  refine gj_sld C hX hbl hbA h1 dL_law_2118 ?_
  refine gj_cVi (As := [.int (xs (x4 + 1).toNatClampNeg)]) (rest := []) C cb_L_229 (s_X4_lotteryNumber (gw_l K) Γ τ μ (lw_o r o) (xs (x4 + 1).toNatClampNeg) q hm) rfl (Nat.le_of_ble_eq_true rfl) gw_atD rfl rfl dL_law_2119 (gw_rmo rfl (by show _ ≤ 601024; omega) (by show _ ≤ 7293034; omega)) rfl ?_
  refine gj_istore C 6 [(6, .int q.1), (5, .int (lw_k ["java/lang/IndexOutOfBoundsException"] r)), (0, .ref b), (1, .ref (gw_a Γ 0)), (2, .ref (gw_a Γ 132)), (3, .ref (gw_a Γ 151)), (4, .int x4)] dL_law_2122 (by decide) rfl ?_
  refine gj_aload_n C 4 dL_law_2124 rfl ?_
  refine gj_cVi (As := []) (rest := []) C cb_L_128 (s_X4_thrown (gw_l K) Γ τ q.2 (lw_o r o) (q.2 0 18) rfl) rfl (Nat.le_of_ble_eq_true rfl) gw_atD rfl rfl dL_law_2125 (gw_rmo rfl (by show _ ≤ 601024; omega) (by show _ ≤ 7293034; omega)) rfl ?_
  refine gj_iload C 1 dL_law_2128 rfl ?_
  refine gj_ic_eq C 2135 dL_law_2130 (by decide) (fun _ => ?_) (fun c => absurd ht c)
  refine gj_iload C 1 dL_law_2135 rfl ?_
  cases r with
  | inr e =>
    refine gj_if_ne C 2152 dL_law_2137 (by decide) (fun _ => ?_) (fun c => ?_)
    · refine gj_goto C 2404 dL_law_2152 (by decide) ?_
      exact gj_pick [2, 3, 4, 5, 6] _ rfl k
    · exfalso
      rcases he e rfl with rfl
      · exact absurd c (show ¬ lw_k ["java/lang/IndexOutOfBoundsException"] (.inr "java/lang/IndexOutOfBoundsException") = 0 from by decide +kernel)
  | inl v =>
    refine gj_if_ne C 2152 dL_law_2137 (by decide) (fun c => absurd rfl c) (fun _ => ?_)
    refine gj_aload_n C 5 dL_law_2140 rfl ?_
    refine gj_iconst (v := 0) C dL_law_2141 (by decide) ?_
    refine gj_lald C (vp_in_nI (n := 0) (N := 1) (by decide) (by decide)) dL_law_2142 ?_
    refine gj_iload C 0 dL_law_2143 rfl ?_
    refine gj_i2l C dL_law_2145 ?_
    refine gj_lcmp C dL_law_2146 ?_
    refine gj_if_eq C 2152 dL_law_2147 (by decide) (fun _ => ?_) (fun c => absurd ?_ c)
    · refine gj_goto C 2404 dL_law_2152 (by decide) ?_
      exact gj_pick [2, 3, 4, 5, 6] _ rfl k
    · have e := hv v rfl
      subst e
      exact lg_cmp_self _
set_option maxRecDepth 100000 in
set_option maxHeartbeats 4000000 in
theorem lc_putUp {K : gw_K} {Γ : gw_G} (C : gw_C K Γ cL_law 7 RL) {b L : Nat} {xs : Nat → Int32} (hX : va_X b L xs (gw_s K) (gw_s K).heap) (hbl : b < (gw_s K).heap.size) (hbA : ¬ gw_A Γ b) (τ μ : gw_S) (o : Nat → Int64) (x4 : Int32) (h1 : vp_in (x4 + 1) L) (h2 : vp_in (x4 + 2) L) (cells slots : Nat) (hc : cells + 3 ≤ 601024) (hs : slots + 18 ≤ 7293034) (r : (Int32 ⊕ String) × gw_S) (hf : f_X3_putUp τ (xs (x4 + 1).toNatClampNeg) (xs (x4 + 2).toNatClampNeg) = some r) (he : ∀ e, r.1 = .inr e → e = "java/lang/IndexOutOfBoundsException" ∨ e = "java/lang/IllegalStateException") (q : Int32 × gw_S) (hm : f_X4_putUp μ (xs (x4 + 1).toNatClampNeg) (xs (x4 + 2).toNatClampNeg) = some q) (ht : q.2 0 18 = lw_k ["java/lang/IndexOutOfBoundsException", "java/lang/IllegalStateException"] r.1) (hv : ∀ v, r.1 = .inl v → v = q.1) (k : gw_J K Γ room_1 (cells + 3) (slots + 18) (gw_W Γ r.2 q.2 (lw_o r.1 o)) 2404 [(0, .ref b), (1, .ref (gw_a Γ 0)), (2, .ref (gw_a Γ 132)), (3, .ref (gw_a Γ 151)), (4, .int x4)] []) : gw_J K Γ room_1 cells slots (gw_W Γ τ μ o) 2155 [(0, .ref b), (1, .ref (gw_a Γ 0)), (2, .ref (gw_a Γ 132)), (3, .ref (gw_a Γ 151)), (4, .int x4)] [] := by
  refine gj_aload_n C 1 dL_law_2155 rfl ?_
  refine gj_aload_n C 0 dL_law_2156 rfl ?_
  refine gj_iload C 4 dL_law_2157 rfl ?_
  refine gj_iconst (v := 1) C dL_law_2159 (by decide) ?_
  refine gj_iadd C dL_law_2160 ?_
  refine gj_sld C hX hbl hbA h1 dL_law_2161 ?_
  refine gj_aload_n C 0 dL_law_2162 rfl ?_
  refine gj_iload C 4 dL_law_2163 rfl ?_
  refine gj_iconst (v := 2) C dL_law_2165 (by decide) ?_
  refine gj_iadd C dL_law_2166 ?_
  refine gj_sld C hX hbl hbA h2 dL_law_2167 ?_
  refine gj_aload_n C 3 dL_law_2168 rfl ?_
  refine gj_cW (As := [.ref (gw_a Γ 0), .int (xs (x4 + 1).toNatClampNeg), .int (xs (x4 + 2).toNatClampNeg), .ref (gw_a Γ 151)]) (rest := []) C cw_L_230 (w_putUp (gw_l K) Γ τ μ o (xs (x4 + 1).toNatClampNeg) (xs (x4 + 2).toNatClampNeg) r hf he) rfl (Nat.le_of_ble_eq_true rfl) dL_law_2169 (gw_rmo rfl hc hs) rfl ?_
  refine gj_istore C 5 [(5, .int (lw_k ["java/lang/IndexOutOfBoundsException", "java/lang/IllegalStateException"] r.1)), (0, .ref b), (1, .ref (gw_a Γ 0)), (2, .ref (gw_a Γ 132)), (3, .ref (gw_a Γ 151)), (4, .int x4)] dL_law_2172 (by decide) rfl ?_
  refine gj_aload_n C 3 dL_law_2174 rfl ?_
  refine gj_aload_n C 1 dL_law_2175 rfl ?_
  refine gj_iload C 5 dL_law_2176 rfl ?_
  refine gj_iconst (v := 1) C dL_law_2178 (by decide) ?_
  refine gj_iadd C dL_law_2179 ?_
  refine gj_sld C hX hbl hbA h1 dL_law_2180 ?_
  refine gj_aload_n C 1 dL_law_2181 rfl ?_
  refine gj_iload C 5 dL_law_2182 rfl ?_
  refine gj_iconst (v := 2) C dL_law_2184 (by decide) ?_
  refine gj_iadd C dL_law_2185 ?_
  refine gj_sld C hX hbl hbA h2 dL_law_2186 ?_
  refine gj_cVi (As := [.int (xs (x4 + 1).toNatClampNeg), .int (xs (x4 + 2).toNatClampNeg)]) (rest := []) C cb_L_232 (s_X4_putUp (gw_l K) Γ r.2 μ (lw_o r.1 o) (xs (x4 + 1).toNatClampNeg) (xs (x4 + 2).toNatClampNeg) q hm) rfl (Nat.le_of_ble_eq_true rfl) gw_atD rfl rfl dL_law_2187 (gw_rmo rfl (by show _ ≤ 601024; omega) (by show _ ≤ 7293034; omega)) rfl ?_
  refine gj_istore C 6 [(6, .int q.1), (5, .int (lw_k ["java/lang/IndexOutOfBoundsException", "java/lang/IllegalStateException"] r.1)), (0, .ref b), (1, .ref (gw_a Γ 0)), (2, .ref (gw_a Γ 132)), (3, .ref (gw_a Γ 151)), (4, .int x4)] dL_law_2190 (by decide) rfl ?_
  refine gj_aload_n C 4 dL_law_2192 rfl ?_
  refine gj_cVi (As := []) (rest := []) C cb_L_128 (s_X4_thrown (gw_l K) Γ r.2 q.2 (lw_o r.1 o) (q.2 0 18) rfl) rfl (Nat.le_of_ble_eq_true rfl) gw_atD rfl rfl dL_law_2193 (gw_rmo rfl (by show _ ≤ 601024; omega) (by show _ ≤ 7293034; omega)) rfl ?_
  refine gj_iload C 1 dL_law_2196 rfl ?_
  refine gj_ic_eq C 2203 dL_law_2198 (by decide) (fun _ => ?_) (fun c => absurd ht c)
  refine gj_iload C 1 dL_law_2203 rfl ?_
  obtain ⟨r1, r2⟩ := r
  cases r1 with
  | inr e =>
    refine gj_if_ne C 2220 dL_law_2205 (by decide) (fun _ => ?_) (fun c => ?_)
    · refine gj_goto C 2404 dL_law_2220 (by decide) ?_
      exact gj_pick [2, 3, 4, 5, 6] _ rfl k
    · exfalso
      rcases he e rfl with rfl | rfl
      · exact absurd c (show ¬ lw_k ["java/lang/IndexOutOfBoundsException", "java/lang/IllegalStateException"] (.inr "java/lang/IndexOutOfBoundsException") = 0 from by decide +kernel)
      · exact absurd c (show ¬ lw_k ["java/lang/IndexOutOfBoundsException", "java/lang/IllegalStateException"] (.inr "java/lang/IllegalStateException") = 0 from by decide +kernel)
  | inl v =>
    refine gj_if_ne C 2220 dL_law_2205 (by decide) (fun c => absurd rfl c) (fun _ => ?_)
    refine gj_aload_n C 5 dL_law_2208 rfl ?_
    refine gj_iconst (v := 0) C dL_law_2209 (by decide) ?_
    refine gj_lald C (vp_in_nI (n := 0) (N := 1) (by decide) (by decide)) dL_law_2210 ?_
    refine gj_iload C 0 dL_law_2211 rfl ?_
    refine gj_i2l C dL_law_2213 ?_
    refine gj_lcmp C dL_law_2214 ?_
    refine gj_if_eq C 2220 dL_law_2215 (by decide) (fun _ => ?_) (fun c => absurd ?_ c)
    · refine gj_goto C 2404 dL_law_2220 (by decide) ?_
      exact gj_pick [2, 3, 4, 5, 6] _ rfl k
    · have e := hv v rfl
      subst e
      exact lg_cmp_self _
set_option maxRecDepth 100000 in
set_option maxHeartbeats 4000000 in
theorem lc_withdraw {K : gw_K} {Γ : gw_G} (C : gw_C K Γ cL_law 7 RL) {b L : Nat} {xs : Nat → Int32} (hX : va_X b L xs (gw_s K) (gw_s K).heap) (hbl : b < (gw_s K).heap.size) (hbA : ¬ gw_A Γ b) (τ μ : gw_S) (o : Nat → Int64) (x4 : Int32) (h1 : vp_in (x4 + 1) L) (cells slots : Nat) (hc : cells + 1 ≤ 601024) (hs : slots + 6 ≤ 7293034) (r : (Int32 ⊕ String) × gw_S) (hf : f_X3_withdraw τ (xs (x4 + 1).toNatClampNeg) = some r) (he : ∀ e, r.1 = .inr e → e = "java/lang/IndexOutOfBoundsException") (q : Int32 × gw_S) (hm : f_X4_withdraw μ (xs (x4 + 1).toNatClampNeg) = some q) (ht : q.2 0 18 = lw_k ["java/lang/IndexOutOfBoundsException"] r.1) (hv : ∀ v, r.1 = .inl v → v = q.1) (k : gw_J K Γ room_1 (cells + 1) (slots + 6) (gw_W Γ r.2 q.2 (lw_o r.1 o)) 2404 [(0, .ref b), (1, .ref (gw_a Γ 0)), (2, .ref (gw_a Γ 132)), (3, .ref (gw_a Γ 151)), (4, .int x4)] []) : gw_J K Γ room_1 cells slots (gw_W Γ τ μ o) 2223 [(0, .ref b), (1, .ref (gw_a Γ 0)), (2, .ref (gw_a Γ 132)), (3, .ref (gw_a Γ 151)), (4, .int x4)] [] := by
  refine gj_aload_n C 1 dL_law_2223 rfl ?_
  refine gj_aload_n C 0 dL_law_2224 rfl ?_
  refine gj_iload C 4 dL_law_2225 rfl ?_
  refine gj_iconst (v := 1) C dL_law_2227 (by decide) ?_
  refine gj_iadd C dL_law_2228 ?_
  refine gj_sld C hX hbl hbA h1 dL_law_2229 ?_
  refine gj_aload_n C 3 dL_law_2230 rfl ?_
  refine gj_cW (As := [.ref (gw_a Γ 0), .int (xs (x4 + 1).toNatClampNeg), .ref (gw_a Γ 151)]) (rest := []) C cw_L_233 (w_withdraw (gw_l K) Γ τ μ o (xs (x4 + 1).toNatClampNeg) r hf he) rfl (Nat.le_of_ble_eq_true rfl) dL_law_2231 (gw_rmo rfl hc hs) rfl ?_
  refine gj_istore C 5 [(5, .int (lw_k ["java/lang/IndexOutOfBoundsException"] r.1)), (0, .ref b), (1, .ref (gw_a Γ 0)), (2, .ref (gw_a Γ 132)), (3, .ref (gw_a Γ 151)), (4, .int x4)] dL_law_2234 (by decide) rfl ?_
  refine gj_aload_n C 3 dL_law_2236 rfl ?_
  refine gj_aload_n C 1 dL_law_2237 rfl ?_
  refine gj_iload C 5 dL_law_2238 rfl ?_
  refine gj_iconst (v := 1) C dL_law_2240 (by decide) ?_
  refine gj_iadd C dL_law_2241 ?_
  refine gj_sld C hX hbl hbA h1 dL_law_2242 ?_
  refine gj_cVi (As := [.int (xs (x4 + 1).toNatClampNeg)]) (rest := []) C cb_L_235 (s_X4_withdraw (gw_l K) Γ r.2 μ (lw_o r.1 o) (xs (x4 + 1).toNatClampNeg) q hm) rfl (Nat.le_of_ble_eq_true rfl) gw_atD rfl rfl dL_law_2243 (gw_rmo rfl (by show _ ≤ 601024; omega) (by show _ ≤ 7293034; omega)) rfl ?_
  refine gj_istore C 6 [(6, .int q.1), (5, .int (lw_k ["java/lang/IndexOutOfBoundsException"] r.1)), (0, .ref b), (1, .ref (gw_a Γ 0)), (2, .ref (gw_a Γ 132)), (3, .ref (gw_a Γ 151)), (4, .int x4)] dL_law_2246 (by decide) rfl ?_
  refine gj_aload_n C 4 dL_law_2248 rfl ?_
  refine gj_cVi (As := []) (rest := []) C cb_L_128 (s_X4_thrown (gw_l K) Γ r.2 q.2 (lw_o r.1 o) (q.2 0 18) rfl) rfl (Nat.le_of_ble_eq_true rfl) gw_atD rfl rfl dL_law_2249 (gw_rmo rfl (by show _ ≤ 601024; omega) (by show _ ≤ 7293034; omega)) rfl ?_
  refine gj_iload C 1 dL_law_2252 rfl ?_
  refine gj_ic_eq C 2259 dL_law_2254 (by decide) (fun _ => ?_) (fun c => absurd ht c)
  refine gj_iload C 1 dL_law_2259 rfl ?_
  obtain ⟨r1, r2⟩ := r
  cases r1 with
  | inr e =>
    refine gj_if_ne C 2276 dL_law_2261 (by decide) (fun _ => ?_) (fun c => ?_)
    · refine gj_goto C 2404 dL_law_2276 (by decide) ?_
      exact gj_pick [2, 3, 4, 5, 6] _ rfl k
    · exfalso
      rcases he e rfl with rfl
      · exact absurd c (show ¬ lw_k ["java/lang/IndexOutOfBoundsException"] (.inr "java/lang/IndexOutOfBoundsException") = 0 from by decide +kernel)
  | inl v =>
    refine gj_if_ne C 2276 dL_law_2261 (by decide) (fun c => absurd rfl c) (fun _ => ?_)
    refine gj_aload_n C 5 dL_law_2264 rfl ?_
    refine gj_iconst (v := 0) C dL_law_2265 (by decide) ?_
    refine gj_lald C (vp_in_nI (n := 0) (N := 1) (by decide) (by decide)) dL_law_2266 ?_
    refine gj_iload C 0 dL_law_2267 rfl ?_
    refine gj_i2l C dL_law_2269 ?_
    refine gj_lcmp C dL_law_2270 ?_
    refine gj_if_eq C 2276 dL_law_2271 (by decide) (fun _ => ?_) (fun c => absurd ?_ c)
    · refine gj_goto C 2404 dL_law_2276 (by decide) ?_
      exact gj_pick [2, 3, 4, 5, 6] _ rfl k
    · have e := hv v rfl
      subst e
      exact lg_cmp_self _
set_option maxRecDepth 100000 in
set_option maxHeartbeats 4000000 in
theorem lc_placeUp {K : gw_K} {Γ : gw_G} (C : gw_C K Γ cL_law 7 RL) {b L : Nat} {xs : Nat → Int32} (hX : va_X b L xs (gw_s K) (gw_s K).heap) (hbl : b < (gw_s K).heap.size) (hbA : ¬ gw_A Γ b) (τ μ : gw_S) (o : Nat → Int64) (x4 : Int32) (h1 : vp_in (x4 + 1) L) (cells slots : Nat) (hc : cells + 1 ≤ 601024) (hs : slots + 6 ≤ 7293034) (r : (Int32 ⊕ String)) (hf : f_X3_placeUp τ (xs (x4 + 1).toNatClampNeg) = some r) (he : ∀ e, r = .inr e → e = "java/lang/IndexOutOfBoundsException") (q : Int32 × gw_S) (hm : f_X4_placeUp μ (xs (x4 + 1).toNatClampNeg) = some q) (ht : q.2 0 18 = lw_k ["java/lang/IndexOutOfBoundsException"] r) (hv : ∀ v, r = .inl v → v = q.1) (k : gw_J K Γ room_1 (cells + 1) (slots + 6) (gw_W Γ τ q.2 (lw_o r o)) 2404 [(0, .ref b), (1, .ref (gw_a Γ 0)), (2, .ref (gw_a Γ 132)), (3, .ref (gw_a Γ 151)), (4, .int x4)] []) : gw_J K Γ room_1 cells slots (gw_W Γ τ μ o) 2279 [(0, .ref b), (1, .ref (gw_a Γ 0)), (2, .ref (gw_a Γ 132)), (3, .ref (gw_a Γ 151)), (4, .int x4)] [] := by
  refine gj_aload_n C 1 dL_law_2279 rfl ?_
  refine gj_aload_n C 0 dL_law_2280 rfl ?_
  refine gj_iload C 4 dL_law_2281 rfl ?_
  refine gj_iconst (v := 1) C dL_law_2283 (by decide) ?_
  refine gj_iadd C dL_law_2284 ?_
  refine gj_sld C hX hbl hbA h1 dL_law_2285 ?_
  refine gj_aload_n C 3 dL_law_2286 rfl ?_
  refine gj_cW (As := [.ref (gw_a Γ 0), .int (xs (x4 + 1).toNatClampNeg), .ref (gw_a Γ 151)]) (rest := []) C cw_L_236 (w_placeUp (gw_l K) Γ τ μ o (xs (x4 + 1).toNatClampNeg) r hf he) rfl (Nat.le_of_ble_eq_true rfl) dL_law_2287 (gw_rmo rfl hc hs) rfl ?_
  refine gj_istore C 5 [(5, .int (lw_k ["java/lang/IndexOutOfBoundsException"] r)), (0, .ref b), (1, .ref (gw_a Γ 0)), (2, .ref (gw_a Γ 132)), (3, .ref (gw_a Γ 151)), (4, .int x4)] dL_law_2290 (by decide) rfl ?_
  refine gj_aload_n C 3 dL_law_2292 rfl ?_
  refine gj_aload_n C 1 dL_law_2293 rfl ?_
  refine gj_iload C 5 dL_law_2294 rfl ?_
  refine gj_iconst (v := 1) C dL_law_2296 (by decide) ?_
  refine gj_iadd C dL_law_2297 ?_
  refine gj_sld C hX hbl hbA h1 dL_law_2298 ?_
  refine gj_cVi (As := [.int (xs (x4 + 1).toNatClampNeg)]) (rest := []) C cb_L_238 (s_X4_placeUp (gw_l K) Γ τ μ (lw_o r o) (xs (x4 + 1).toNatClampNeg) q hm) rfl (Nat.le_of_ble_eq_true rfl) gw_atD rfl rfl dL_law_2299 (gw_rmo rfl (by show _ ≤ 601024; omega) (by show _ ≤ 7293034; omega)) rfl ?_
  refine gj_istore C 6 [(6, .int q.1), (5, .int (lw_k ["java/lang/IndexOutOfBoundsException"] r)), (0, .ref b), (1, .ref (gw_a Γ 0)), (2, .ref (gw_a Γ 132)), (3, .ref (gw_a Γ 151)), (4, .int x4)] dL_law_2302 (by decide) rfl ?_
  refine gj_aload_n C 4 dL_law_2304 rfl ?_
  refine gj_cVi (As := []) (rest := []) C cb_L_128 (s_X4_thrown (gw_l K) Γ τ q.2 (lw_o r o) (q.2 0 18) rfl) rfl (Nat.le_of_ble_eq_true rfl) gw_atD rfl rfl dL_law_2305 (gw_rmo rfl (by show _ ≤ 601024; omega) (by show _ ≤ 7293034; omega)) rfl ?_
  refine gj_iload C 1 dL_law_2308 rfl ?_
  refine gj_ic_eq C 2315 dL_law_2310 (by decide) (fun _ => ?_) (fun c => absurd ht c)
  refine gj_iload C 1 dL_law_2315 rfl ?_
  cases r with
  | inr e =>
    refine gj_if_ne C 2332 dL_law_2317 (by decide) (fun _ => ?_) (fun c => ?_)
    · refine gj_goto C 2404 dL_law_2332 (by decide) ?_
      exact gj_pick [2, 3, 4, 5, 6] _ rfl k
    · exfalso
      rcases he e rfl with rfl
      · exact absurd c (show ¬ lw_k ["java/lang/IndexOutOfBoundsException"] (.inr "java/lang/IndexOutOfBoundsException") = 0 from by decide +kernel)
  | inl v =>
    refine gj_if_ne C 2332 dL_law_2317 (by decide) (fun c => absurd rfl c) (fun _ => ?_)
    refine gj_aload_n C 5 dL_law_2320 rfl ?_
    refine gj_iconst (v := 0) C dL_law_2321 (by decide) ?_
    refine gj_lald C (vp_in_nI (n := 0) (N := 1) (by decide) (by decide)) dL_law_2322 ?_
    refine gj_iload C 0 dL_law_2323 rfl ?_
    refine gj_i2l C dL_law_2325 ?_
    refine gj_lcmp C dL_law_2326 ?_
    refine gj_if_eq C 2332 dL_law_2327 (by decide) (fun _ => ?_) (fun c => absurd ?_ c)
    · refine gj_goto C 2404 dL_law_2332 (by decide) ?_
      exact gj_pick [2, 3, 4, 5, 6] _ rfl k
    · have e := hv v rfl
      subst e
      exact lg_cmp_self _
set_option maxRecDepth 100000 in
set_option maxHeartbeats 4000000 in
theorem lc_pointsTo {K : gw_K} {Γ : gw_G} (C : gw_C K Γ cL_law 7 RL) {b L : Nat} {xs : Nat → Int32} (hX : va_X b L xs (gw_s K) (gw_s K).heap) (hbl : b < (gw_s K).heap.size) (hbA : ¬ gw_A Γ b) (τ μ : gw_S) (o : Nat → Int64) (x4 : Int32) (h1 : vp_in (x4 + 1) L) (cells slots : Nat) (hc : cells + 2 ≤ 601024) (hs : slots + 12 ≤ 7293034) (r : (Int32 ⊕ String)) (hf : f_X3_pointsTo τ (xs (x4 + 1).toNatClampNeg) = some r) (he : ∀ e, r = .inr e → e = "java/lang/IndexOutOfBoundsException" ∨ e = "java/lang/IllegalStateException") (q : Int32 × gw_S) (hm : f_X4_pointsTo μ (xs (x4 + 1).toNatClampNeg) = some q) (ht : q.2 0 18 = lw_k ["java/lang/IndexOutOfBoundsException", "java/lang/IllegalStateException"] r) (hv : ∀ v, r = .inl v → v = q.1) (k : gw_J K Γ room_1 (cells + 2) (slots + 12) (gw_W Γ τ q.2 (lw_o r o)) 2404 [(0, .ref b), (1, .ref (gw_a Γ 0)), (2, .ref (gw_a Γ 132)), (3, .ref (gw_a Γ 151)), (4, .int x4)] []) : gw_J K Γ room_1 cells slots (gw_W Γ τ μ o) 2335 [(0, .ref b), (1, .ref (gw_a Γ 0)), (2, .ref (gw_a Γ 132)), (3, .ref (gw_a Γ 151)), (4, .int x4)] [] := by
  refine gj_aload_n C 1 dL_law_2335 rfl ?_
  refine gj_aload_n C 0 dL_law_2336 rfl ?_
  refine gj_iload C 4 dL_law_2337 rfl ?_
  refine gj_iconst (v := 1) C dL_law_2339 (by decide) ?_
  refine gj_iadd C dL_law_2340 ?_
  refine gj_sld C hX hbl hbA h1 dL_law_2341 ?_
  refine gj_aload_n C 3 dL_law_2342 rfl ?_
  refine gj_cW (As := [.ref (gw_a Γ 0), .int (xs (x4 + 1).toNatClampNeg), .ref (gw_a Γ 151)]) (rest := []) C cw_L_239 (w_pointsTo (gw_l K) Γ τ μ o (xs (x4 + 1).toNatClampNeg) r hf he) rfl (Nat.le_of_ble_eq_true rfl) dL_law_2343 (gw_rmo rfl hc hs) rfl ?_
  refine gj_istore C 5 [(5, .int (lw_k ["java/lang/IndexOutOfBoundsException", "java/lang/IllegalStateException"] r)), (0, .ref b), (1, .ref (gw_a Γ 0)), (2, .ref (gw_a Γ 132)), (3, .ref (gw_a Γ 151)), (4, .int x4)] dL_law_2346 (by decide) rfl ?_
  refine gj_aload_n C 3 dL_law_2348 rfl ?_
  refine gj_aload_n C 1 dL_law_2349 rfl ?_
  refine gj_iload C 5 dL_law_2350 rfl ?_
  refine gj_iconst (v := 1) C dL_law_2352 (by decide) ?_
  refine gj_iadd C dL_law_2353 ?_
  refine gj_sld C hX hbl hbA h1 dL_law_2354 ?_
  refine gj_cVi (As := [.int (xs (x4 + 1).toNatClampNeg)]) (rest := []) C cb_L_241 (s_X4_pointsTo (gw_l K) Γ τ μ (lw_o r o) (xs (x4 + 1).toNatClampNeg) q hm) rfl (Nat.le_of_ble_eq_true rfl) gw_atD rfl rfl dL_law_2355 (gw_rmo rfl (by show _ ≤ 601024; omega) (by show _ ≤ 7293034; omega)) rfl ?_
  refine gj_istore C 6 [(6, .int q.1), (5, .int (lw_k ["java/lang/IndexOutOfBoundsException", "java/lang/IllegalStateException"] r)), (0, .ref b), (1, .ref (gw_a Γ 0)), (2, .ref (gw_a Γ 132)), (3, .ref (gw_a Γ 151)), (4, .int x4)] dL_law_2358 (by decide) rfl ?_
  refine gj_aload_n C 4 dL_law_2360 rfl ?_
  refine gj_cVi (As := []) (rest := []) C cb_L_128 (s_X4_thrown (gw_l K) Γ τ q.2 (lw_o r o) (q.2 0 18) rfl) rfl (Nat.le_of_ble_eq_true rfl) gw_atD rfl rfl dL_law_2361 (gw_rmo rfl (by show _ ≤ 601024; omega) (by show _ ≤ 7293034; omega)) rfl ?_
  refine gj_iload C 1 dL_law_2364 rfl ?_
  refine gj_ic_eq C 2371 dL_law_2366 (by decide) (fun _ => ?_) (fun c => absurd ht c)
  refine gj_iload C 1 dL_law_2371 rfl ?_
  cases r with
  | inr e =>
    refine gj_if_ne C 2388 dL_law_2373 (by decide) (fun _ => ?_) (fun c => ?_)
    · refine gj_goto C 2404 dL_law_2388 (by decide) ?_
      exact gj_pick [2, 3, 4, 5, 6] _ rfl k
    · exfalso
      rcases he e rfl with rfl | rfl
      · exact absurd c (show ¬ lw_k ["java/lang/IndexOutOfBoundsException", "java/lang/IllegalStateException"] (.inr "java/lang/IndexOutOfBoundsException") = 0 from by decide +kernel)
      · exact absurd c (show ¬ lw_k ["java/lang/IndexOutOfBoundsException", "java/lang/IllegalStateException"] (.inr "java/lang/IllegalStateException") = 0 from by decide +kernel)
  | inl v =>
    refine gj_if_ne C 2388 dL_law_2373 (by decide) (fun c => absurd rfl c) (fun _ => ?_)
    refine gj_aload_n C 5 dL_law_2376 rfl ?_
    refine gj_iconst (v := 0) C dL_law_2377 (by decide) ?_
    refine gj_lald C (vp_in_nI (n := 0) (N := 1) (by decide) (by decide)) dL_law_2378 ?_
    refine gj_iload C 0 dL_law_2379 rfl ?_
    refine gj_i2l C dL_law_2381 ?_
    refine gj_lcmp C dL_law_2382 ?_
    refine gj_if_eq C 2388 dL_law_2383 (by decide) (fun _ => ?_) (fun c => absurd ?_ c)
    · refine gj_goto C 2404 dL_law_2388 (by decide) ?_
      exact gj_pick [2, 3, 4, 5, 6] _ rfl k
    · have e := hv v rfl
      subst e
      exact lg_cmp_self _
set_option maxRecDepth 100000 in
set_option maxHeartbeats 4000000 in
theorem lc_runExchange {K : gw_K} {Γ : gw_G} (C : gw_C K Γ cL_law 7 RL) {b L : Nat} {xs : Nat → Int32} (hX : va_X b L xs (gw_s K) (gw_s K).heap) (hbl : b < (gw_s K).heap.size) (hbA : ¬ gw_A Γ b) (τ μ : gw_S) (o : Nat → Int64) (x4 : Int32) (cells slots : Nat) (hc : cells ≤ 601024) (hs : slots ≤ 7293034) (r : Int32 × gw_S) (hf : f_X3_runExchange τ = some r) (q : Int32 × gw_S) (hm : f_X4_runExchange μ = some q) (hv : r.1 = q.1) (k : gw_J K Γ room_1 cells slots (gw_W Γ r.2 q.2 o) 2404 [(0, .ref b), (1, .ref (gw_a Γ 0)), (2, .ref (gw_a Γ 132)), (3, .ref (gw_a Γ 151)), (4, .int x4)] []) : gw_J K Γ room_1 cells slots (gw_W Γ τ μ o) 2391 [(0, .ref b), (1, .ref (gw_a Γ 0)), (2, .ref (gw_a Γ 132)), (3, .ref (gw_a Γ 151)), (4, .int x4)] [] := by
  refine gj_aload_n C 1 dL_law_2391 rfl ?_
  refine gj_cVi (As := []) (rest := []) C cb_L_242 (s_X3_runExchange (gw_l K) Γ τ μ o r hf) rfl (Nat.le_of_ble_eq_true rfl) gw_atM rfl rfl dL_law_2392 (gw_rmo rfl hc hs) rfl ?_
  refine gj_aload_n C 2 dL_law_2395 rfl ?_
  refine gj_cVi (As := []) (rest := [.int r.1]) C cb_L_245 (s_X4_runExchange (gw_l K) Γ r.2 μ o q hm) rfl (Nat.le_of_ble_eq_true rfl) gw_atD rfl rfl dL_law_2396 (gw_rmo rfl hc hs) rfl ?_
  exact gj_ic_eq C 2404 dL_law_2399 (by decide) (fun _ => k) (fun c => absurd hv c)
