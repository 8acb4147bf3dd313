section CS
variable {p : Program} {l : Launch} {e : Env} {s : State} {m : MethodId} {below : List Frame} {meth : Method} {c : Code} {Q : State → Prop} {X : fw_X} {b L : Nat} {xs : Nat → Int32}
def F_cs_0 (M : fw_M) (xs : Nat → Int32) (i : Int32) : Option fw_M := bd_p (F_L_addStop M (xs (i + 1).toNatClampNeg)) fun k1 M2 => bd_p (F_X9_addStop M2 (xs (i + 1).toNatClampNeg)) fun r5 M6 => bd_x (F_X9_thrown M6 ) fun r8 => if r8 = k1 then (if k1 = 0 then (if (lg_cmp ((M6 386 0).toInt64) ((r5 : Int32).toInt64)) = 0 then (some M6) else (none)) else (some M6)) else (none)
set_option maxHeartbeats 4000000 in
set_option maxRecDepth 100000 in
theorem cs_0 (hlt : l.stackTraces = false) (hC : fl_C X p c s m b L xs) {i : Int32} (h1 : vp_in (i + 1) L) (h2 : vp_in (i + 2) L) (h3 : vp_in (i + 3) L) {M M0 : fw_M} {H : Heap} {locs : List Loc} {ls : Array Slot} {cells slots : Nat} (hF : F_cs_0 M xs i = some M0) (B : fr_H X s M H locs) (hl : lv_has ls 9 (fl_lv X b i)) (hcc : cells + 30 ≤ 603072) (hss : slots + 3000 ≤ 7194730) (kk : ∀ (H1 : Heap) (locs1 : List Loc) (ls1 : Array Slot), fr_H X s M0 H1 locs1 → lv_has ls1 9 (fl_lv X b i) → W p l e room_1 s m #[Value.ref b] below meth c H1 locs1 (cells + 30) (slots + 3000) Q (F0 m 3314 ls1 [])) : W p l e room_1 s m #[Value.ref b] below meth c H locs cells slots Q (F0 m 288 ls []) := by
  have C := hC.1
  have hx := C.1.1
  have hb := C.1.2.1
  have hl : lv_has ls 9 [(0, .ref b), (1, .ref (fw_ad X 352)), (2, .ref (fw_ad X 378)), (3, .ref (fw_ad X 386)), (4, .ref (fw_ad X 387)), (5, .int i)] := hl
  unfold F_cs_0 at hF
  refine lv_aload_n hx hb dL_law_288 rfl (lv_at hl 1 rfl) ?_
  refine lv_aload_n hx hb dL_law_289 rfl (lv_at hl 0 rfl) ?_
  refine lv_iload hx hb dL_law_290 (lv_at hl 5 rfl) ?_
  refine lv_iconst (v := 1) hx hb dL_law_292 (by decide) ?_
  refine lv_iadd hx hb dL_law_293 ?_
  refine fl_sld hC B h1 dL_law_294 ?_
  refine lv_aload_n hx hb dL_law_295 rfl (lv_at hl 3 rfl) ?_
  obtain ⟨k1, M2, hf3, hF⟩ := bp_e hF
  refine fr_cHi (As := [.ref (fw_ad X 352), .int (xs (i + 1).toNatClampNeg), .ref (fw_ad X 386)]) (rest := []) C B (cm_L_addStop hlt hf3) yh_L_addStop wm_L_179 rfl hl.1 rfl (Nat.le_of_ble_eq_true rfl) ⟨(Nat.le_of_ble_eq_true rfl), (Nat.le_of_ble_eq_true rfl)⟩ ⟨(by show cells + 1 ≤ 603072; omega), (by show slots + 6 ≤ 7194730; omega)⟩ dL_law_296 (fun H locs B => ?_)
  have B : fr_H X s M2 H locs := B
  refine lv_istore (lv' := [(6, .int k1), (0, .ref b), (1, .ref (fw_ad X 352)), (2, .ref (fw_ad X 378)), (3, .ref (fw_ad X 386)), (4, .ref (fw_ad X 387)), (5, .int i)]) hx hb dL_law_299 hl (by decide) rfl (fun ls hl => ?_)
  refine lv_aload_n hx hb dL_law_301 rfl (lv_at hl 3 rfl) ?_
  refine lv_aload_n hx hb dL_law_302 rfl (lv_at hl 1 rfl) ?_
  refine lv_iload hx hb dL_law_303 (lv_at hl 6 rfl) ?_
  refine lv_iconst (v := 1) hx hb dL_law_305 (by decide) ?_
  refine lv_iadd hx hb dL_law_306 ?_
  refine fl_sld hC B h1 dL_law_307 ?_
  obtain ⟨r5, M6, hf4, hF⟩ := bp_e hF
  refine fr_cVi (As := [.int (xs (i + 1).toNatClampNeg)]) (rest := []) C B (cm_X9_addStop hf4) ob_9 rfl yw_X9_addStop wm_L_184 rfl hl.1 rfl (Nat.le_of_ble_eq_true rfl) ⟨(Nat.le_of_ble_eq_true rfl), (Nat.le_of_ble_eq_true rfl)⟩ ⟨(by show cells + 1 + 0 ≤ 603072; omega), (by show slots + 6 + 0 ≤ 7194730; omega)⟩ dL_law_308 (fr_nx rfl) (fun r9 M9 H locs ho9 B => ?_)
  obtain ⟨rfl, rfl⟩ := oi_e ho9
  refine lv_istore (lv' := [(7, .int r5), (6, .int k1), (0, .ref b), (1, .ref (fw_ad X 352)), (2, .ref (fw_ad X 378)), (3, .ref (fw_ad X 386)), (4, .ref (fw_ad X 387)), (5, .int i)]) hx hb dL_law_311 hl (by decide) rfl (fun ls hl => ?_)
  refine lv_aload_n hx hb dL_law_313 rfl (lv_at hl 4 rfl) ?_
  obtain ⟨r8, hf7, hF⟩ := bx_e hF
  refine fr_cVi (As := []) (rest := []) C B (cm_X9_thrown hf7) ob_9 rfl yw_X9_thrown wm_L_185 rfl hl.1 rfl (Nat.le_of_ble_eq_true rfl) ⟨(Nat.le_of_ble_eq_true rfl), (Nat.le_of_ble_eq_true rfl)⟩ ⟨(by show cells + 1 + 0 + 0 ≤ 603072; omega), (by show slots + 6 + 0 + 0 ≤ 7194730; omega)⟩ dL_law_314 (fr_nx rfl) (fun r9 M9 H locs ho9 B => ?_)
  obtain ⟨rfl, rfl⟩ := oi_e ho9
  refine lv_iload hx hb dL_law_317 (lv_at hl 1 rfl) ?_
  refine lv_icmp_eq (tgt := 324) hx hb dL_law_319 (by decide) (fun hc => ?_) (fun hc => ?_)
  · have hF := it_t hF hc
    refine lv_iload hx hb dL_law_324 (lv_at hl 1 rfl) ?_
    refine lv_if_ne (tgt := 341) hx hb dL_law_326 (by decide) (fun hc => ?_) (fun hc => ?_)
    · have hF := it_f hF hc
      refine lv_goto (tgt := 3314) hx hb dL_law_341 (by decide) ?_
      have hF := Option.some.inj hF
      subst hF
      exact W.widen (by show cells + 1 + 0 + 0 ≤ cells + 30; omega) (by show slots + 6 + 0 + 0 ≤ slots + 3000; omega) (kk H locs ls B (lv_sub hl [2, 3, 4, 5, 6, 7] rfl))
    · have hF := it_t hF hc
      refine lv_aload_n hx hb dL_law_329 rfl (lv_at hl 5 rfl) ?_
      refine lv_iconst (v := 0) hx hb dL_law_330 (by decide) ?_
      refine fr_ll C B dL_law_331 ?_
      refine lv_iload hx hb dL_law_332 (lv_at hl 0 rfl) ?_
      refine lv_i2l hx hb dL_law_334 rfl ?_
      refine W.lcmp hx hb dL_law_335 ?_
      refine lv_if_eq (tgt := 341) hx hb dL_law_336 (by decide) (fun hc => ?_) (fun hc => ?_)
      · have hF := it_t hF hc
        refine lv_goto (tgt := 3314) hx hb dL_law_341 (by decide) ?_
        have hF := Option.some.inj hF
        subst hF
        exact W.widen (by show cells + 1 + 0 + 0 ≤ cells + 30; omega) (by show slots + 6 + 0 + 0 ≤ slots + 3000; omega) (kk H locs ls B (lv_sub hl [2, 3, 4, 5, 6, 7] rfl))
      · have hF := it_f hF hc
        cases hF
  · have hF := it_f hF hc
    cases hF
def F_cs_1 (M : fw_M) (xs : Nat → Int32) (i : Int32) : Option fw_M := bd_p (F_L_addLine M (xs (i + 1).toNatClampNeg) (xs (i + 2).toNatClampNeg)) fun k1 M2 => bd_p (F_X9_addLine M2 (xs (i + 1).toNatClampNeg) (xs (i + 2).toNatClampNeg)) fun r5 M6 => bd_x (F_X9_thrown M6 ) fun r8 => if r8 = k1 then (if k1 = 0 then (if (lg_cmp ((M6 386 0).toInt64) ((r5 : Int32).toInt64)) = 0 then (some M6) else (none)) else (some M6)) else (none)
set_option maxHeartbeats 4000000 in
set_option maxRecDepth 100000 in
theorem cs_1 (hlt : l.stackTraces = false) (hC : fl_C X p c s m b L xs) {i : Int32} (h1 : vp_in (i + 1) L) (h2 : vp_in (i + 2) L) (h3 : vp_in (i + 3) L) {M M0 : fw_M} {H : Heap} {locs : List Loc} {ls : Array Slot} {cells slots : Nat} (hF : F_cs_1 M xs i = some M0) (B : fr_H X s M H locs) (hl : lv_has ls 9 (fl_lv X b i)) (hcc : cells + 30 ≤ 603072) (hss : slots + 3000 ≤ 7194730) (kk : ∀ (H1 : Heap) (locs1 : List Loc) (ls1 : Array Slot), fr_H X s M0 H1 locs1 → lv_has ls1 9 (fl_lv X b i) → W p l e room_1 s m #[Value.ref b] below meth c H1 locs1 (cells + 30) (slots + 3000) Q (F0 m 3314 ls1 [])) : W p l e room_1 s m #[Value.ref b] below meth c H locs cells slots Q (F0 m 344 ls []) := by
  have C := hC.1
  have hx := C.1.1
  have hb := C.1.2.1
  have hl : lv_has ls 9 [(0, .ref b), (1, .ref (fw_ad X 352)), (2, .ref (fw_ad X 378)), (3, .ref (fw_ad X 386)), (4, .ref (fw_ad X 387)), (5, .int i)] := hl
  unfold F_cs_1 at hF
  refine lv_aload_n hx hb dL_law_344 rfl (lv_at hl 1 rfl) ?_
  refine lv_aload_n hx hb dL_law_345 rfl (lv_at hl 0 rfl) ?_
  refine lv_iload hx hb dL_law_346 (lv_at hl 5 rfl) ?_
  refine lv_iconst (v := 1) hx hb dL_law_348 (by decide) ?_
  refine lv_iadd hx hb dL_law_349 ?_
  refine fl_sld hC B h1 dL_law_350 ?_
  refine lv_aload_n hx hb dL_law_351 rfl (lv_at hl 0 rfl) ?_
  refine lv_iload hx hb dL_law_352 (lv_at hl 5 rfl) ?_
  refine lv_iconst (v := 2) hx hb dL_law_354 (by decide) ?_
  refine lv_iadd hx hb dL_law_355 ?_
  refine fl_sld hC B h2 dL_law_356 ?_
  refine lv_aload_n hx hb dL_law_357 rfl (lv_at hl 3 rfl) ?_
  obtain ⟨k1, M2, hf3, hF⟩ := bp_e hF
  refine fr_cHi (As := [.ref (fw_ad X 352), .int (xs (i + 1).toNatClampNeg), .int (xs (i + 2).toNatClampNeg), .ref (fw_ad X 386)]) (rest := []) C B (cm_L_addLine hlt hf3) yh_L_addLine wm_L_188 rfl hl.1 rfl (Nat.le_of_ble_eq_true rfl) ⟨(Nat.le_of_ble_eq_true rfl), (Nat.le_of_ble_eq_true rfl)⟩ ⟨(by show cells + 1 ≤ 603072; omega), (by show slots + 6 ≤ 7194730; omega)⟩ dL_law_358 (fun H locs B => ?_)
  have B : fr_H X s M2 H locs := B
  refine lv_istore (lv' := [(6, .int k1), (0, .ref b), (1, .ref (fw_ad X 352)), (2, .ref (fw_ad X 378)), (3, .ref (fw_ad X 386)), (4, .ref (fw_ad X 387)), (5, .int i)]) hx hb dL_law_361 hl (by decide) rfl (fun ls hl => ?_)
  refine lv_aload_n hx hb dL_law_363 rfl (lv_at hl 3 rfl) ?_
  refine lv_aload_n hx hb dL_law_364 rfl (lv_at hl 1 rfl) ?_
  refine lv_iload hx hb dL_law_365 (lv_at hl 6 rfl) ?_
  refine lv_iconst (v := 1) hx hb dL_law_367 (by decide) ?_
  refine lv_iadd hx hb dL_law_368 ?_
  refine fl_sld hC B h1 dL_law_369 ?_
  refine lv_aload_n hx hb dL_law_370 rfl (lv_at hl 1 rfl) ?_
  refine lv_iload hx hb dL_law_371 (lv_at hl 6 rfl) ?_
  refine lv_iconst (v := 2) hx hb dL_law_373 (by decide) ?_
  refine lv_iadd hx hb dL_law_374 ?_
  refine fl_sld hC B h2 dL_law_375 ?_
  obtain ⟨r5, M6, hf4, hF⟩ := bp_e hF
  refine fr_cVi (As := [.int (xs (i + 1).toNatClampNeg), .int (xs (i + 2).toNatClampNeg)]) (rest := []) C B (cm_X9_addLine hf4) ob_9 rfl yw_X9_addLine wm_L_191 rfl hl.1 rfl (Nat.le_of_ble_eq_true rfl) ⟨(Nat.le_of_ble_eq_true rfl), (Nat.le_of_ble_eq_true rfl)⟩ ⟨(by show cells + 1 + 0 ≤ 603072; omega), (by show slots + 6 + 0 ≤ 7194730; omega)⟩ dL_law_376 (fr_nx rfl) (fun r9 M9 H locs ho9 B => ?_)
  obtain ⟨rfl, rfl⟩ := oi_e ho9
  refine lv_istore (lv' := [(7, .int r5), (6, .int k1), (0, .ref b), (1, .ref (fw_ad X 352)), (2, .ref (fw_ad X 378)), (3, .ref (fw_ad X 386)), (4, .ref (fw_ad X 387)), (5, .int i)]) hx hb dL_law_379 hl (by decide) rfl (fun ls hl => ?_)
  refine lv_aload_n hx hb dL_law_381 rfl (lv_at hl 4 rfl) ?_
  obtain ⟨r8, hf7, hF⟩ := bx_e hF
  refine fr_cVi (As := []) (rest := []) C B (cm_X9_thrown hf7) ob_9 rfl yw_X9_thrown wm_L_185 rfl hl.1 rfl (Nat.le_of_ble_eq_true rfl) ⟨(Nat.le_of_ble_eq_true rfl), (Nat.le_of_ble_eq_true rfl)⟩ ⟨(by show cells + 1 + 0 + 0 ≤ 603072; omega), (by show slots + 6 + 0 + 0 ≤ 7194730; omega)⟩ dL_law_382 (fr_nx rfl) (fun r9 M9 H locs ho9 B => ?_)
  obtain ⟨rfl, rfl⟩ := oi_e ho9
  refine lv_iload hx hb dL_law_385 (lv_at hl 1 rfl) ?_
  refine lv_icmp_eq (tgt := 392) hx hb dL_law_387 (by decide) (fun hc => ?_) (fun hc => ?_)
  · have hF := it_t hF hc
    refine lv_iload hx hb dL_law_392 (lv_at hl 1 rfl) ?_
    refine lv_if_ne (tgt := 409) hx hb dL_law_394 (by decide) (fun hc => ?_) (fun hc => ?_)
    · have hF := it_f hF hc
      refine lv_goto (tgt := 3314) hx hb dL_law_409 (by decide) ?_
      have hF := Option.some.inj hF
      subst hF
      exact W.widen (by show cells + 1 + 0 + 0 ≤ cells + 30; omega) (by show slots + 6 + 0 + 0 ≤ slots + 3000; omega) (kk H locs ls B (lv_sub hl [2, 3, 4, 5, 6, 7] rfl))
    · have hF := it_t hF hc
      refine lv_aload_n hx hb dL_law_397 rfl (lv_at hl 5 rfl) ?_
      refine lv_iconst (v := 0) hx hb dL_law_398 (by decide) ?_
      refine fr_ll C B dL_law_399 ?_
      refine lv_iload hx hb dL_law_400 (lv_at hl 0 rfl) ?_
      refine lv_i2l hx hb dL_law_402 rfl ?_
      refine W.lcmp hx hb dL_law_403 ?_
      refine lv_if_eq (tgt := 409) hx hb dL_law_404 (by decide) (fun hc => ?_) (fun hc => ?_)
      · have hF := it_t hF hc
        refine lv_goto (tgt := 3314) hx hb dL_law_409 (by decide) ?_
        have hF := Option.some.inj hF
        subst hF
        exact W.widen (by show cells + 1 + 0 + 0 ≤ cells + 30; omega) (by show slots + 6 + 0 + 0 ≤ slots + 3000; omega) (kk H locs ls B (lv_sub hl [2, 3, 4, 5, 6, 7] rfl))
      · have hF := it_f hF hc
        cases hF
  · have hF := it_f hF hc
    cases hF
def F_cs_2 (M : fw_M) (xs : Nat → Int32) (i : Int32) : Option fw_M := bd_p (F_L_extendLine M (xs (i + 1).toNatClampNeg) (xs (i + 2).toNatClampNeg)) fun k1 M2 => bd_p (F_X9_extendLine M2 (xs (i + 1).toNatClampNeg) (xs (i + 2).toNatClampNeg)) fun r5 M6 => bd_x (F_X9_thrown M6 ) fun r8 => if r8 = k1 then (if k1 = 0 then (if (lg_cmp ((M6 386 0).toInt64) ((r5 : Int32).toInt64)) = 0 then (some M6) else (none)) else (some M6)) else (none)
set_option maxHeartbeats 4000000 in
set_option maxRecDepth 100000 in
theorem cs_2 (hlt : l.stackTraces = false) (hC : fl_C X p c s m b L xs) {i : Int32} (h1 : vp_in (i + 1) L) (h2 : vp_in (i + 2) L) (h3 : vp_in (i + 3) L) {M M0 : fw_M} {H : Heap} {locs : List Loc} {ls : Array Slot} {cells slots : Nat} (hF : F_cs_2 M xs i = some M0) (B : fr_H X s M H locs) (hl : lv_has ls 9 (fl_lv X b i)) (hcc : cells + 30 ≤ 603072) (hss : slots + 3000 ≤ 7194730) (kk : ∀ (H1 : Heap) (locs1 : List Loc) (ls1 : Array Slot), fr_H X s M0 H1 locs1 → lv_has ls1 9 (fl_lv X b i) → W p l e room_1 s m #[Value.ref b] below meth c H1 locs1 (cells + 30) (slots + 3000) Q (F0 m 3314 ls1 [])) : W p l e room_1 s m #[Value.ref b] below meth c H locs cells slots Q (F0 m 412 ls []) := by
  have C := hC.1
  have hx := C.1.1
  have hb := C.1.2.1
  have hl : lv_has ls 9 [(0, .ref b), (1, .ref (fw_ad X 352)), (2, .ref (fw_ad X 378)), (3, .ref (fw_ad X 386)), (4, .ref (fw_ad X 387)), (5, .int i)] := hl
  unfold F_cs_2 at hF
  refine lv_aload_n hx hb dL_law_412 rfl (lv_at hl 1 rfl) ?_
  refine lv_aload_n hx hb dL_law_413 rfl (lv_at hl 0 rfl) ?_
  refine lv_iload hx hb dL_law_414 (lv_at hl 5 rfl) ?_
  refine lv_iconst (v := 1) hx hb dL_law_416 (by decide) ?_
  refine lv_iadd hx hb dL_law_417 ?_
  refine fl_sld hC B h1 dL_law_418 ?_
  refine lv_aload_n hx hb dL_law_419 rfl (lv_at hl 0 rfl) ?_
  refine lv_iload hx hb dL_law_420 (lv_at hl 5 rfl) ?_
  refine lv_iconst (v := 2) hx hb dL_law_422 (by decide) ?_
  refine lv_iadd hx hb dL_law_423 ?_
  refine fl_sld hC B h2 dL_law_424 ?_
  refine lv_aload_n hx hb dL_law_425 rfl (lv_at hl 3 rfl) ?_
  obtain ⟨k1, M2, hf3, hF⟩ := bp_e hF
  refine fr_cHi (As := [.ref (fw_ad X 352), .int (xs (i + 1).toNatClampNeg), .int (xs (i + 2).toNatClampNeg), .ref (fw_ad X 386)]) (rest := []) C B (cm_L_extendLine hlt hf3) yh_L_extendLine wm_L_192 rfl hl.1 rfl (Nat.le_of_ble_eq_true rfl) ⟨(Nat.le_of_ble_eq_true rfl), (Nat.le_of_ble_eq_true rfl)⟩ ⟨(by show cells + 1 ≤ 603072; omega), (by show slots + 6 ≤ 7194730; omega)⟩ dL_law_426 (fun H locs B => ?_)
  have B : fr_H X s M2 H locs := B
  refine lv_istore (lv' := [(6, .int k1), (0, .ref b), (1, .ref (fw_ad X 352)), (2, .ref (fw_ad X 378)), (3, .ref (fw_ad X 386)), (4, .ref (fw_ad X 387)), (5, .int i)]) hx hb dL_law_429 hl (by decide) rfl (fun ls hl => ?_)
  refine lv_aload_n hx hb dL_law_431 rfl (lv_at hl 3 rfl) ?_
  refine lv_aload_n hx hb dL_law_432 rfl (lv_at hl 1 rfl) ?_
  refine lv_iload hx hb dL_law_433 (lv_at hl 6 rfl) ?_
  refine lv_iconst (v := 1) hx hb dL_law_435 (by decide) ?_
  refine lv_iadd hx hb dL_law_436 ?_
  refine fl_sld hC B h1 dL_law_437 ?_
  refine lv_aload_n hx hb dL_law_438 rfl (lv_at hl 1 rfl) ?_
  refine lv_iload hx hb dL_law_439 (lv_at hl 6 rfl) ?_
  refine lv_iconst (v := 2) hx hb dL_law_441 (by decide) ?_
  refine lv_iadd hx hb dL_law_442 ?_
  refine fl_sld hC B h2 dL_law_443 ?_
  obtain ⟨r5, M6, hf4, hF⟩ := bp_e hF
  refine fr_cVi (As := [.int (xs (i + 1).toNatClampNeg), .int (xs (i + 2).toNatClampNeg)]) (rest := []) C B (cm_X9_extendLine hf4) ob_9 rfl yw_X9_extendLine wm_L_194 rfl hl.1 rfl (Nat.le_of_ble_eq_true rfl) ⟨(Nat.le_of_ble_eq_true rfl), (Nat.le_of_ble_eq_true rfl)⟩ ⟨(by show cells + 1 + 0 ≤ 603072; omega), (by show slots + 6 + 0 ≤ 7194730; omega)⟩ dL_law_444 (fr_nx rfl) (fun r9 M9 H locs ho9 B => ?_)
  obtain ⟨rfl, rfl⟩ := oi_e ho9
  refine lv_istore (lv' := [(7, .int r5), (6, .int k1), (0, .ref b), (1, .ref (fw_ad X 352)), (2, .ref (fw_ad X 378)), (3, .ref (fw_ad X 386)), (4, .ref (fw_ad X 387)), (5, .int i)]) hx hb dL_law_447 hl (by decide) rfl (fun ls hl => ?_)
  refine lv_aload_n hx hb dL_law_449 rfl (lv_at hl 4 rfl) ?_
  obtain ⟨r8, hf7, hF⟩ := bx_e hF
  refine fr_cVi (As := []) (rest := []) C B (cm_X9_thrown hf7) ob_9 rfl yw_X9_thrown wm_L_185 rfl hl.1 rfl (Nat.le_of_ble_eq_true rfl) ⟨(Nat.le_of_ble_eq_true rfl), (Nat.le_of_ble_eq_true rfl)⟩ ⟨(by show cells + 1 + 0 + 0 ≤ 603072; omega), (by show slots + 6 + 0 + 0 ≤ 7194730; omega)⟩ dL_law_450 (fr_nx rfl) (fun r9 M9 H locs ho9 B => ?_)
  obtain ⟨rfl, rfl⟩ := oi_e ho9
  refine lv_iload hx hb dL_law_453 (lv_at hl 1 rfl) ?_
  refine lv_icmp_eq (tgt := 460) hx hb dL_law_455 (by decide) (fun hc => ?_) (fun hc => ?_)
  · have hF := it_t hF hc
    refine lv_iload hx hb dL_law_460 (lv_at hl 1 rfl) ?_
    refine lv_if_ne (tgt := 477) hx hb dL_law_462 (by decide) (fun hc => ?_) (fun hc => ?_)
    · have hF := it_f hF hc
      refine lv_goto (tgt := 3314) hx hb dL_law_477 (by decide) ?_
      have hF := Option.some.inj hF
      subst hF
      exact W.widen (by show cells + 1 + 0 + 0 ≤ cells + 30; omega) (by show slots + 6 + 0 + 0 ≤ slots + 3000; omega) (kk H locs ls B (lv_sub hl [2, 3, 4, 5, 6, 7] rfl))
    · have hF := it_t hF hc
      refine lv_aload_n hx hb dL_law_465 rfl (lv_at hl 5 rfl) ?_
      refine lv_iconst (v := 0) hx hb dL_law_466 (by decide) ?_
      refine fr_ll C B dL_law_467 ?_
      refine lv_iload hx hb dL_law_468 (lv_at hl 0 rfl) ?_
      refine lv_i2l hx hb dL_law_470 rfl ?_
      refine W.lcmp hx hb dL_law_471 ?_
      refine lv_if_eq (tgt := 477) hx hb dL_law_472 (by decide) (fun hc => ?_) (fun hc => ?_)
      · have hF := it_t hF hc
        refine lv_goto (tgt := 3314) hx hb dL_law_477 (by decide) ?_
        have hF := Option.some.inj hF
        subst hF
        exact W.widen (by show cells + 1 + 0 + 0 ≤ cells + 30; omega) (by show slots + 6 + 0 + 0 ≤ slots + 3000; omega) (kk H locs ls B (lv_sub hl [2, 3, 4, 5, 6, 7] rfl))
      · have hF := it_f hF hc
        cases hF
  · have hF := it_f hF hc
    cases hF
def F_cs_3 (M : fw_M) (xs : Nat → Int32) (i : Int32) : Option fw_M := bd_x (F_X8_stopCount M ) fun r2 => bd_p (F_X9_stopCount M ) fun r5 M6 => if r2 = r5 then (some M6) else (none)
set_option maxHeartbeats 4000000 in
set_option maxRecDepth 100000 in
theorem cs_3 (hlt : l.stackTraces = false) (hC : fl_C X p c s m b L xs) {i : Int32} (h1 : vp_in (i + 1) L) (h2 : vp_in (i + 2) L) (h3 : vp_in (i + 3) L) {M M0 : fw_M} {H : Heap} {locs : List Loc} {ls : Array Slot} {cells slots : Nat} (hF : F_cs_3 M xs i = some M0) (B : fr_H X s M H locs) (hl : lv_has ls 9 (fl_lv X b i)) (hcc : cells + 30 ≤ 603072) (hss : slots + 3000 ≤ 7194730) (kk : ∀ (H1 : Heap) (locs1 : List Loc) (ls1 : Array Slot), fr_H X s M0 H1 locs1 → lv_has ls1 9 (fl_lv X b i) → W p l e room_1 s m #[Value.ref b] below meth c H1 locs1 (cells + 30) (slots + 3000) Q (F0 m 3314 ls1 [])) : W p l e room_1 s m #[Value.ref b] below meth c H locs cells slots Q (F0 m 480 ls []) := by
  have C := hC.1
  have hx := C.1.1
  have hb := C.1.2.1
  have hl : lv_has ls 9 [(0, .ref b), (1, .ref (fw_ad X 352)), (2, .ref (fw_ad X 378)), (3, .ref (fw_ad X 386)), (4, .ref (fw_ad X 387)), (5, .int i)] := hl
  unfold F_cs_3 at hF
  refine lv_aload_n hx hb dL_law_480 rfl (lv_at hl 1 rfl) ?_
  obtain ⟨r2, hf1, hF⟩ := bx_e hF
  refine fr_cVi (As := []) (rest := []) C B (cm_X8_stopCount hf1) ob_8 rfl yw_X8_stopCount wm_L_195 rfl hl.1 rfl (Nat.le_of_ble_eq_true rfl) ⟨(Nat.le_of_ble_eq_true rfl), (Nat.le_of_ble_eq_true rfl)⟩ ⟨(by show cells + 0 ≤ 603072; omega), (by show slots + 0 ≤ 7194730; omega)⟩ dL_law_481 (fr_nx rfl) (fun r9 M9 H locs ho9 B => ?_)
  obtain ⟨rfl, rfl⟩ := oi_e ho9
  refine lv_aload_n hx hb dL_law_484 rfl (lv_at hl 2 rfl) ?_
  obtain ⟨r5, M6, hf4, hF⟩ := bp_e hF
  refine fr_cVi (As := []) (rest := [.int r2]) C B (cm_X9_stopCount hf4) ob_9 rfl yw_X9_stopCount wm_L_198 rfl hl.1 rfl (Nat.le_of_ble_eq_true rfl) ⟨(Nat.le_of_ble_eq_true rfl), (Nat.le_of_ble_eq_true rfl)⟩ ⟨(by show cells + 0 + 0 ≤ 603072; omega), (by show slots + 0 + 0 ≤ 7194730; omega)⟩ dL_law_485 (fr_nx rfl) (fun r9 M9 H locs ho9 B => ?_)
  obtain ⟨rfl, rfl⟩ := oi_e ho9
  refine lv_icmp_eq (tgt := 3314) hx hb dL_law_488 (by decide) (fun hc => ?_) (fun hc => ?_)
  · have hF := it_t hF hc
    have hF := Option.some.inj hF
    subst hF
    exact W.widen (by show cells + 0 + 0 ≤ cells + 30; omega) (by show slots + 0 + 0 ≤ slots + 3000; omega) (kk H locs ls B (lv_sub hl [0, 1, 2, 3, 4, 5] rfl))
  · have hF := it_f hF hc
    cases hF
def F_cs_4 (M : fw_M) (xs : Nat → Int32) (i : Int32) : Option fw_M := bd_p (F_L_zoneOf M (xs (i + 1).toNatClampNeg)) fun k1 M2 => bd_p (F_X9_zoneOf M2 (xs (i + 1).toNatClampNeg)) fun r5 M6 => bd_x (F_X9_thrown M6 ) fun r8 => if r8 = k1 then (if k1 = 0 then (if (lg_cmp ((M6 386 0).toInt64) ((r5 : Int32).toInt64)) = 0 then (some M6) else (none)) else (some M6)) else (none)
set_option maxHeartbeats 4000000 in
set_option maxRecDepth 100000 in
theorem cs_4 (hlt : l.stackTraces = false) (hC : fl_C X p c s m b L xs) {i : Int32} (h1 : vp_in (i + 1) L) (h2 : vp_in (i + 2) L) (h3 : vp_in (i + 3) L) {M M0 : fw_M} {H : Heap} {locs : List Loc} {ls : Array Slot} {cells slots : Nat} (hF : F_cs_4 M xs i = some M0) (B : fr_H X s M H locs) (hl : lv_has ls 9 (fl_lv X b i)) (hcc : cells + 30 ≤ 603072) (hss : slots + 3000 ≤ 7194730) (kk : ∀ (H1 : Heap) (locs1 : List Loc) (ls1 : Array Slot), fr_H X s M0 H1 locs1 → lv_has ls1 9 (fl_lv X b i) → W p l e room_1 s m #[Value.ref b] below meth c H1 locs1 (cells + 30) (slots + 3000) Q (F0 m 3314 ls1 [])) : W p l e room_1 s m #[Value.ref b] below meth c H locs cells slots Q (F0 m 493 ls []) := by
  have C := hC.1
  have hx := C.1.1
  have hb := C.1.2.1
  have hl : lv_has ls 9 [(0, .ref b), (1, .ref (fw_ad X 352)), (2, .ref (fw_ad X 378)), (3, .ref (fw_ad X 386)), (4, .ref (fw_ad X 387)), (5, .int i)] := hl
  unfold F_cs_4 at hF
  refine lv_aload_n hx hb dL_law_493 rfl (lv_at hl 1 rfl) ?_
  refine lv_aload_n hx hb dL_law_494 rfl (lv_at hl 0 rfl) ?_
  refine lv_iload hx hb dL_law_495 (lv_at hl 5 rfl) ?_
  refine lv_iconst (v := 1) hx hb dL_law_497 (by decide) ?_
  refine lv_iadd hx hb dL_law_498 ?_
  refine fl_sld hC B h1 dL_law_499 ?_
  refine lv_aload_n hx hb dL_law_500 rfl (lv_at hl 3 rfl) ?_
  obtain ⟨k1, M2, hf3, hF⟩ := bp_e hF
  refine fr_cHi (As := [.ref (fw_ad X 352), .int (xs (i + 1).toNatClampNeg), .ref (fw_ad X 386)]) (rest := []) C B (cm_L_zoneOf hlt hf3) yh_L_zoneOf wm_L_199 rfl hl.1 rfl (Nat.le_of_ble_eq_true rfl) ⟨(Nat.le_of_ble_eq_true rfl), (Nat.le_of_ble_eq_true rfl)⟩ ⟨(by show cells + 1 ≤ 603072; omega), (by show slots + 6 ≤ 7194730; omega)⟩ dL_law_501 (fun H locs B => ?_)
  have B : fr_H X s M2 H locs := B
  refine lv_istore (lv' := [(6, .int k1), (0, .ref b), (1, .ref (fw_ad X 352)), (2, .ref (fw_ad X 378)), (3, .ref (fw_ad X 386)), (4, .ref (fw_ad X 387)), (5, .int i)]) hx hb dL_law_504 hl (by decide) rfl (fun ls hl => ?_)
  refine lv_aload_n hx hb dL_law_506 rfl (lv_at hl 3 rfl) ?_
  refine lv_aload_n hx hb dL_law_507 rfl (lv_at hl 1 rfl) ?_
  refine lv_iload hx hb dL_law_508 (lv_at hl 6 rfl) ?_
  refine lv_iconst (v := 1) hx hb dL_law_510 (by decide) ?_
  refine lv_iadd hx hb dL_law_511 ?_
  refine fl_sld hC B h1 dL_law_512 ?_
  obtain ⟨r5, M6, hf4, hF⟩ := bp_e hF
  refine fr_cVi (As := [.int (xs (i + 1).toNatClampNeg)]) (rest := []) C B (cm_X9_zoneOf hf4) ob_9 rfl yw_X9_zoneOf wm_L_201 rfl hl.1 rfl (Nat.le_of_ble_eq_true rfl) ⟨(Nat.le_of_ble_eq_true rfl), (Nat.le_of_ble_eq_true rfl)⟩ ⟨(by show cells + 1 + 0 ≤ 603072; omega), (by show slots + 6 + 0 ≤ 7194730; omega)⟩ dL_law_513 (fr_nx rfl) (fun r9 M9 H locs ho9 B => ?_)
  obtain ⟨rfl, rfl⟩ := oi_e ho9
  refine lv_istore (lv' := [(7, .int r5), (6, .int k1), (0, .ref b), (1, .ref (fw_ad X 352)), (2, .ref (fw_ad X 378)), (3, .ref (fw_ad X 386)), (4, .ref (fw_ad X 387)), (5, .int i)]) hx hb dL_law_516 hl (by decide) rfl (fun ls hl => ?_)
  refine lv_aload_n hx hb dL_law_518 rfl (lv_at hl 4 rfl) ?_
  obtain ⟨r8, hf7, hF⟩ := bx_e hF
  refine fr_cVi (As := []) (rest := []) C B (cm_X9_thrown hf7) ob_9 rfl yw_X9_thrown wm_L_185 rfl hl.1 rfl (Nat.le_of_ble_eq_true rfl) ⟨(Nat.le_of_ble_eq_true rfl), (Nat.le_of_ble_eq_true rfl)⟩ ⟨(by show cells + 1 + 0 + 0 ≤ 603072; omega), (by show slots + 6 + 0 + 0 ≤ 7194730; omega)⟩ dL_law_519 (fr_nx rfl) (fun r9 M9 H locs ho9 B => ?_)
  obtain ⟨rfl, rfl⟩ := oi_e ho9
  refine lv_iload hx hb dL_law_522 (lv_at hl 1 rfl) ?_
  refine lv_icmp_eq (tgt := 529) hx hb dL_law_524 (by decide) (fun hc => ?_) (fun hc => ?_)
  · have hF := it_t hF hc
    refine lv_iload hx hb dL_law_529 (lv_at hl 1 rfl) ?_
    refine lv_if_ne (tgt := 546) hx hb dL_law_531 (by decide) (fun hc => ?_) (fun hc => ?_)
    · have hF := it_f hF hc
      refine lv_goto (tgt := 3314) hx hb dL_law_546 (by decide) ?_
      have hF := Option.some.inj hF
      subst hF
      exact W.widen (by show cells + 1 + 0 + 0 ≤ cells + 30; omega) (by show slots + 6 + 0 + 0 ≤ slots + 3000; omega) (kk H locs ls B (lv_sub hl [2, 3, 4, 5, 6, 7] rfl))
    · have hF := it_t hF hc
      refine lv_aload_n hx hb dL_law_534 rfl (lv_at hl 5 rfl) ?_
      refine lv_iconst (v := 0) hx hb dL_law_535 (by decide) ?_
      refine fr_ll C B dL_law_536 ?_
      refine lv_iload hx hb dL_law_537 (lv_at hl 0 rfl) ?_
      refine lv_i2l hx hb dL_law_539 rfl ?_
      refine W.lcmp hx hb dL_law_540 ?_
      refine lv_if_eq (tgt := 546) hx hb dL_law_541 (by decide) (fun hc => ?_) (fun hc => ?_)
      · have hF := it_t hF hc
        refine lv_goto (tgt := 3314) hx hb dL_law_546 (by decide) ?_
        have hF := Option.some.inj hF
        subst hF
        exact W.widen (by show cells + 1 + 0 + 0 ≤ cells + 30; omega) (by show slots + 6 + 0 + 0 ≤ slots + 3000; omega) (kk H locs ls B (lv_sub hl [2, 3, 4, 5, 6, 7] rfl))
      · have hF := it_f hF hc
        cases hF
  · have hF := it_f hF hc
    cases hF
def F_cs_5 (M : fw_M) (xs : Nat → Int32) (i : Int32) : Option fw_M := bd_p (F_L_isTerminus M (xs (i + 1).toNatClampNeg)) fun k1 M2 => bd_p (F_X9_isTerminus M2 (xs (i + 1).toNatClampNeg)) fun r5 M6 => bd_x (F_X9_thrown M6 ) fun r8 => if r8 = k1 then (if k1 = 0 then (if r5 = 0 then (if (lg_cmp ((M6 386 0).toInt64) ((0 : Int32).toInt64)) = 0 then (some M6) else (none)) else (if (lg_cmp ((M6 386 0).toInt64) ((1 : Int32).toInt64)) = 0 then (some M6) else (none))) else (some M6)) else (none)
set_option maxHeartbeats 4000000 in
set_option maxRecDepth 100000 in
theorem cs_5 (hlt : l.stackTraces = false) (hC : fl_C X p c s m b L xs) {i : Int32} (h1 : vp_in (i + 1) L) (h2 : vp_in (i + 2) L) (h3 : vp_in (i + 3) L) {M M0 : fw_M} {H : Heap} {locs : List Loc} {ls : Array Slot} {cells slots : Nat} (hF : F_cs_5 M xs i = some M0) (B : fr_H X s M H locs) (hl : lv_has ls 9 (fl_lv X b i)) (hcc : cells + 30 ≤ 603072) (hss : slots + 3000 ≤ 7194730) (kk : ∀ (H1 : Heap) (locs1 : List Loc) (ls1 : Array Slot), fr_H X s M0 H1 locs1 → lv_has ls1 9 (fl_lv X b i) → W p l e room_1 s m #[Value.ref b] below meth c H1 locs1 (cells + 30) (slots + 3000) Q (F0 m 3314 ls1 [])) : W p l e room_1 s m #[Value.ref b] below meth c H locs cells slots Q (F0 m 549 ls []) := by
  have C := hC.1
  have hx := C.1.1
  have hb := C.1.2.1
  have hl : lv_has ls 9 [(0, .ref b), (1, .ref (fw_ad X 352)), (2, .ref (fw_ad X 378)), (3, .ref (fw_ad X 386)), (4, .ref (fw_ad X 387)), (5, .int i)] := hl
  unfold F_cs_5 at hF
  refine lv_aload_n hx hb dL_law_549 rfl (lv_at hl 1 rfl) ?_
  refine lv_aload_n hx hb dL_law_550 rfl (lv_at hl 0 rfl) ?_
  refine lv_iload hx hb dL_law_551 (lv_at hl 5 rfl) ?_
  refine lv_iconst (v := 1) hx hb dL_law_553 (by decide) ?_
  refine lv_iadd hx hb dL_law_554 ?_
  refine fl_sld hC B h1 dL_law_555 ?_
  refine lv_aload_n hx hb dL_law_556 rfl (lv_at hl 3 rfl) ?_
  obtain ⟨k1, M2, hf3, hF⟩ := bp_e hF
  refine fr_cHi (As := [.ref (fw_ad X 352), .int (xs (i + 1).toNatClampNeg), .ref (fw_ad X 386)]) (rest := []) C B (cm_L_isTerminus hlt hf3) yh_L_isTerminus wm_L_202 rfl hl.1 rfl (Nat.le_of_ble_eq_true rfl) ⟨(Nat.le_of_ble_eq_true rfl), (Nat.le_of_ble_eq_true rfl)⟩ ⟨(by show cells + 1 ≤ 603072; omega), (by show slots + 6 ≤ 7194730; omega)⟩ dL_law_557 (fun H locs B => ?_)
  have B : fr_H X s M2 H locs := B
  refine lv_istore (lv' := [(6, .int k1), (0, .ref b), (1, .ref (fw_ad X 352)), (2, .ref (fw_ad X 378)), (3, .ref (fw_ad X 386)), (4, .ref (fw_ad X 387)), (5, .int i)]) hx hb dL_law_560 hl (by decide) rfl (fun ls hl => ?_)
  refine lv_aload_n hx hb dL_law_562 rfl (lv_at hl 3 rfl) ?_
  refine lv_aload_n hx hb dL_law_563 rfl (lv_at hl 1 rfl) ?_
  refine lv_iload hx hb dL_law_564 (lv_at hl 6 rfl) ?_
  refine lv_iconst (v := 1) hx hb dL_law_566 (by decide) ?_
  refine lv_iadd hx hb dL_law_567 ?_
  refine fl_sld hC B h1 dL_law_568 ?_
  obtain ⟨r5, M6, hf4, hF⟩ := bp_e hF
  refine fr_cVi (As := [.int (xs (i + 1).toNatClampNeg)]) (rest := []) C B (cm_X9_isTerminus hf4) ob_9 rfl yw_X9_isTerminus wm_L_204 rfl hl.1 rfl (Nat.le_of_ble_eq_true rfl) ⟨(Nat.le_of_ble_eq_true rfl), (Nat.le_of_ble_eq_true rfl)⟩ ⟨(by show cells + 1 + 0 ≤ 603072; omega), (by show slots + 6 + 0 ≤ 7194730; omega)⟩ dL_law_569 (fr_nx rfl) (fun r9 M9 H locs ho9 B => ?_)
  obtain ⟨rfl, rfl⟩ := oi_e ho9
  refine lv_istore (lv' := [(7, .int r5), (6, .int k1), (0, .ref b), (1, .ref (fw_ad X 352)), (2, .ref (fw_ad X 378)), (3, .ref (fw_ad X 386)), (4, .ref (fw_ad X 387)), (5, .int i)]) hx hb dL_law_572 hl (by decide) rfl (fun ls hl => ?_)
  refine lv_aload_n hx hb dL_law_574 rfl (lv_at hl 4 rfl) ?_
  obtain ⟨r8, hf7, hF⟩ := bx_e hF
  refine fr_cVi (As := []) (rest := []) C B (cm_X9_thrown hf7) ob_9 rfl yw_X9_thrown wm_L_185 rfl hl.1 rfl (Nat.le_of_ble_eq_true rfl) ⟨(Nat.le_of_ble_eq_true rfl), (Nat.le_of_ble_eq_true rfl)⟩ ⟨(by show cells + 1 + 0 + 0 ≤ 603072; omega), (by show slots + 6 + 0 + 0 ≤ 7194730; omega)⟩ dL_law_575 (fr_nx rfl) (fun r9 M9 H locs ho9 B => ?_)
  obtain ⟨rfl, rfl⟩ := oi_e ho9
  refine lv_iload hx hb dL_law_578 (lv_at hl 1 rfl) ?_
  refine lv_icmp_eq (tgt := 585) hx hb dL_law_580 (by decide) (fun hc => ?_) (fun hc => ?_)
  · have hF := it_t hF hc
    refine lv_iload hx hb dL_law_585 (lv_at hl 1 rfl) ?_
    refine lv_if_ne (tgt := 609) hx hb dL_law_587 (by decide) (fun hc => ?_) (fun hc => ?_)
    · have hF := it_f hF hc
      refine lv_goto (tgt := 3314) hx hb dL_law_609 (by decide) ?_
      have hF := Option.some.inj hF
      subst hF
      exact W.widen (by show cells + 1 + 0 + 0 ≤ cells + 30; omega) (by show slots + 6 + 0 + 0 ≤ slots + 3000; omega) (kk H locs ls B (lv_sub hl [2, 3, 4, 5, 6, 7] rfl))
    · have hF := it_t hF hc
      refine lv_aload_n hx hb dL_law_590 rfl (lv_at hl 5 rfl) ?_
      refine lv_iconst (v := 0) hx hb dL_law_591 (by decide) ?_
      refine fr_ll C B dL_law_592 ?_
      refine lv_iload hx hb dL_law_593 (lv_at hl 0 rfl) ?_
      refine lv_if_eq (tgt := 602) hx hb dL_law_595 (by decide) (fun hc => ?_) (fun hc => ?_)
      · have hF := it_t hF hc
        refine lv_lconst (v := (0 : Int32).toInt64) hx hb dL_law_602 (by decide) ?_
        refine W.lcmp hx hb dL_law_603 ?_
        refine lv_if_eq (tgt := 609) hx hb dL_law_604 (by decide) (fun hc => ?_) (fun hc => ?_)
        · have hF := it_t hF hc
          refine lv_goto (tgt := 3314) hx hb dL_law_609 (by decide) ?_
          have hF := Option.some.inj hF
          subst hF
          exact W.widen (by show cells + 1 + 0 + 0 ≤ cells + 30; omega) (by show slots + 6 + 0 + 0 ≤ slots + 3000; omega) (kk H locs ls B (lv_sub hl [2, 3, 4, 5, 6, 7] rfl))
        · have hF := it_f hF hc
          cases hF
      · have hF := it_f hF hc
        refine lv_lconst (v := (1 : Int32).toInt64) hx hb dL_law_598 (by decide) ?_
        refine lv_goto (tgt := 603) hx hb dL_law_599 (by decide) ?_
        refine W.lcmp hx hb dL_law_603 ?_
        refine lv_if_eq (tgt := 609) hx hb dL_law_604 (by decide) (fun hc => ?_) (fun hc => ?_)
        · have hF := it_t hF hc
          refine lv_goto (tgt := 3314) hx hb dL_law_609 (by decide) ?_
          have hF := Option.some.inj hF
          subst hF
          exact W.widen (by show cells + 1 + 0 + 0 ≤ cells + 30; omega) (by show slots + 6 + 0 + 0 ≤ slots + 3000; omega) (kk H locs ls B (lv_sub hl [2, 3, 4, 5, 6, 7] rfl))
        · have hF := it_f hF hc
          cases hF
  · have hF := it_f hF hc
    cases hF
def F_cs_6 (M : fw_M) (xs : Nat → Int32) (i : Int32) : Option fw_M := bd_x (F_X8_lineCount M ) fun r2 => bd_p (F_X9_lineCount M ) fun r5 M6 => if r2 = r5 then (some M6) else (none)
set_option maxHeartbeats 4000000 in
set_option maxRecDepth 100000 in
theorem cs_6 (hlt : l.stackTraces = false) (hC : fl_C X p c s m b L xs) {i : Int32} (h1 : vp_in (i + 1) L) (h2 : vp_in (i + 2) L) (h3 : vp_in (i + 3) L) {M M0 : fw_M} {H : Heap} {locs : List Loc} {ls : Array Slot} {cells slots : Nat} (hF : F_cs_6 M xs i = some M0) (B : fr_H X s M H locs) (hl : lv_has ls 9 (fl_lv X b i)) (hcc : cells + 30 ≤ 603072) (hss : slots + 3000 ≤ 7194730) (kk : ∀ (H1 : Heap) (locs1 : List Loc) (ls1 : Array Slot), fr_H X s M0 H1 locs1 → lv_has ls1 9 (fl_lv X b i) → W p l e room_1 s m #[Value.ref b] below meth c H1 locs1 (cells + 30) (slots + 3000) Q (F0 m 3314 ls1 [])) : W p l e room_1 s m #[Value.ref b] below meth c H locs cells slots Q (F0 m 612 ls []) := by
  have C := hC.1
  have hx := C.1.1
  have hb := C.1.2.1
  have hl : lv_has ls 9 [(0, .ref b), (1, .ref (fw_ad X 352)), (2, .ref (fw_ad X 378)), (3, .ref (fw_ad X 386)), (4, .ref (fw_ad X 387)), (5, .int i)] := hl
  unfold F_cs_6 at hF
  refine lv_aload_n hx hb dL_law_612 rfl (lv_at hl 1 rfl) ?_
  obtain ⟨r2, hf1, hF⟩ := bx_e hF
  refine fr_cVi (As := []) (rest := []) C B (cm_X8_lineCount hf1) ob_8 rfl yw_X8_lineCount wm_L_205 rfl hl.1 rfl (Nat.le_of_ble_eq_true rfl) ⟨(Nat.le_of_ble_eq_true rfl), (Nat.le_of_ble_eq_true rfl)⟩ ⟨(by show cells + 0 ≤ 603072; omega), (by show slots + 0 ≤ 7194730; omega)⟩ dL_law_613 (fr_nx rfl) (fun r9 M9 H locs ho9 B => ?_)
  obtain ⟨rfl, rfl⟩ := oi_e ho9
  refine lv_aload_n hx hb dL_law_616 rfl (lv_at hl 2 rfl) ?_
  obtain ⟨r5, M6, hf4, hF⟩ := bp_e hF
  refine fr_cVi (As := []) (rest := [.int r2]) C B (cm_X9_lineCount hf4) ob_9 rfl yw_X9_lineCount wm_L_208 rfl hl.1 rfl (Nat.le_of_ble_eq_true rfl) ⟨(Nat.le_of_ble_eq_true rfl), (Nat.le_of_ble_eq_true rfl)⟩ ⟨(by show cells + 0 + 0 ≤ 603072; omega), (by show slots + 0 + 0 ≤ 7194730; omega)⟩ dL_law_617 (fr_nx rfl) (fun r9 M9 H locs ho9 B => ?_)
  obtain ⟨rfl, rfl⟩ := oi_e ho9
  refine lv_icmp_eq (tgt := 3314) hx hb dL_law_620 (by decide) (fun hc => ?_) (fun hc => ?_)
  · have hF := it_t hF hc
    have hF := Option.some.inj hF
    subst hF
    exact W.widen (by show cells + 0 + 0 ≤ cells + 30; omega) (by show slots + 0 + 0 ≤ slots + 3000; omega) (kk H locs ls B (lv_sub hl [0, 1, 2, 3, 4, 5] rfl))
  · have hF := it_f hF hc
    cases hF
def F_cs_7 (M : fw_M) (xs : Nat → Int32) (i : Int32) : Option fw_M := bd_p (F_L_lineLength M (xs (i + 1).toNatClampNeg)) fun k1 M2 => bd_p (F_X9_lineLength M2 (xs (i + 1).toNatClampNeg)) fun r5 M6 => bd_x (F_X9_thrown M6 ) fun r8 => if r8 = k1 then (if k1 = 0 then (if (lg_cmp ((M6 386 0).toInt64) ((r5 : Int32).toInt64)) = 0 then (some M6) else (none)) else (some M6)) else (none)
set_option maxHeartbeats 4000000 in
set_option maxRecDepth 100000 in
theorem cs_7 (hlt : l.stackTraces = false) (hC : fl_C X p c s m b L xs) {i : Int32} (h1 : vp_in (i + 1) L) (h2 : vp_in (i + 2) L) (h3 : vp_in (i + 3) L) {M M0 : fw_M} {H : Heap} {locs : List Loc} {ls : Array Slot} {cells slots : Nat} (hF : F_cs_7 M xs i = some M0) (B : fr_H X s M H locs) (hl : lv_has ls 9 (fl_lv X b i)) (hcc : cells + 30 ≤ 603072) (hss : slots + 3000 ≤ 7194730) (kk : ∀ (H1 : Heap) (locs1 : List Loc) (ls1 : Array Slot), fr_H X s M0 H1 locs1 → lv_has ls1 9 (fl_lv X b i) → W p l e room_1 s m #[Value.ref b] below meth c H1 locs1 (cells + 30) (slots + 3000) Q (F0 m 3314 ls1 [])) : W p l e room_1 s m #[Value.ref b] below meth c H locs cells slots Q (F0 m 625 ls []) := by
  have C := hC.1
  have hx := C.1.1
  have hb := C.1.2.1
  have hl : lv_has ls 9 [(0, .ref b), (1, .ref (fw_ad X 352)), (2, .ref (fw_ad X 378)), (3, .ref (fw_ad X 386)), (4, .ref (fw_ad X 387)), (5, .int i)] := hl
  unfold F_cs_7 at hF
  refine lv_aload_n hx hb dL_law_625 rfl (lv_at hl 1 rfl) ?_
  refine lv_aload_n hx hb dL_law_626 rfl (lv_at hl 0 rfl) ?_
  refine lv_iload hx hb dL_law_627 (lv_at hl 5 rfl) ?_
  refine lv_iconst (v := 1) hx hb dL_law_629 (by decide) ?_
  refine lv_iadd hx hb dL_law_630 ?_
  refine fl_sld hC B h1 dL_law_631 ?_
  refine lv_aload_n hx hb dL_law_632 rfl (lv_at hl 3 rfl) ?_
  obtain ⟨k1, M2, hf3, hF⟩ := bp_e hF
  refine fr_cHi (As := [.ref (fw_ad X 352), .int (xs (i + 1).toNatClampNeg), .ref (fw_ad X 386)]) (rest := []) C B (cm_L_lineLength hlt hf3) yh_L_lineLength wm_L_209 rfl hl.1 rfl (Nat.le_of_ble_eq_true rfl) ⟨(Nat.le_of_ble_eq_true rfl), (Nat.le_of_ble_eq_true rfl)⟩ ⟨(by show cells + 1 ≤ 603072; omega), (by show slots + 6 ≤ 7194730; omega)⟩ dL_law_633 (fun H locs B => ?_)
  have B : fr_H X s M2 H locs := B
  refine lv_istore (lv' := [(6, .int k1), (0, .ref b), (1, .ref (fw_ad X 352)), (2, .ref (fw_ad X 378)), (3, .ref (fw_ad X 386)), (4, .ref (fw_ad X 387)), (5, .int i)]) hx hb dL_law_636 hl (by decide) rfl (fun ls hl => ?_)
  refine lv_aload_n hx hb dL_law_638 rfl (lv_at hl 3 rfl) ?_
  refine lv_aload_n hx hb dL_law_639 rfl (lv_at hl 1 rfl) ?_
  refine lv_iload hx hb dL_law_640 (lv_at hl 6 rfl) ?_
  refine lv_iconst (v := 1) hx hb dL_law_642 (by decide) ?_
  refine lv_iadd hx hb dL_law_643 ?_
  refine fl_sld hC B h1 dL_law_644 ?_
  obtain ⟨r5, M6, hf4, hF⟩ := bp_e hF
  refine fr_cVi (As := [.int (xs (i + 1).toNatClampNeg)]) (rest := []) C B (cm_X9_lineLength hf4) ob_9 rfl yw_X9_lineLength wm_L_211 rfl hl.1 rfl (Nat.le_of_ble_eq_true rfl) ⟨(Nat.le_of_ble_eq_true rfl), (Nat.le_of_ble_eq_true rfl)⟩ ⟨(by show cells + 1 + 0 ≤ 603072; omega), (by show slots + 6 + 0 ≤ 7194730; omega)⟩ dL_law_645 (fr_nx rfl) (fun r9 M9 H locs ho9 B => ?_)
  obtain ⟨rfl, rfl⟩ := oi_e ho9
  refine lv_istore (lv' := [(7, .int r5), (6, .int k1), (0, .ref b), (1, .ref (fw_ad X 352)), (2, .ref (fw_ad X 378)), (3, .ref (fw_ad X 386)), (4, .ref (fw_ad X 387)), (5, .int i)]) hx hb dL_law_648 hl (by decide) rfl (fun ls hl => ?_)
  refine lv_aload_n hx hb dL_law_650 rfl (lv_at hl 4 rfl) ?_
  obtain ⟨r8, hf7, hF⟩ := bx_e hF
  refine fr_cVi (As := []) (rest := []) C B (cm_X9_thrown hf7) ob_9 rfl yw_X9_thrown wm_L_185 rfl hl.1 rfl (Nat.le_of_ble_eq_true rfl) ⟨(Nat.le_of_ble_eq_true rfl), (Nat.le_of_ble_eq_true rfl)⟩ ⟨(by show cells + 1 + 0 + 0 ≤ 603072; omega), (by show slots + 6 + 0 + 0 ≤ 7194730; omega)⟩ dL_law_651 (fr_nx rfl) (fun r9 M9 H locs ho9 B => ?_)
  obtain ⟨rfl, rfl⟩ := oi_e ho9
  refine lv_iload hx hb dL_law_654 (lv_at hl 1 rfl) ?_
  refine lv_icmp_eq (tgt := 661) hx hb dL_law_656 (by decide) (fun hc => ?_) (fun hc => ?_)
  · have hF := it_t hF hc
    refine lv_iload hx hb dL_law_661 (lv_at hl 1 rfl) ?_
    refine lv_if_ne (tgt := 678) hx hb dL_law_663 (by decide) (fun hc => ?_) (fun hc => ?_)
    · have hF := it_f hF hc
      refine lv_goto (tgt := 3314) hx hb dL_law_678 (by decide) ?_
      have hF := Option.some.inj hF
      subst hF
      exact W.widen (by show cells + 1 + 0 + 0 ≤ cells + 30; omega) (by show slots + 6 + 0 + 0 ≤ slots + 3000; omega) (kk H locs ls B (lv_sub hl [2, 3, 4, 5, 6, 7] rfl))
    · have hF := it_t hF hc
      refine lv_aload_n hx hb dL_law_666 rfl (lv_at hl 5 rfl) ?_
      refine lv_iconst (v := 0) hx hb dL_law_667 (by decide) ?_
      refine fr_ll C B dL_law_668 ?_
      refine lv_iload hx hb dL_law_669 (lv_at hl 0 rfl) ?_
      refine lv_i2l hx hb dL_law_671 rfl ?_
      refine W.lcmp hx hb dL_law_672 ?_
      refine lv_if_eq (tgt := 678) hx hb dL_law_673 (by decide) (fun hc => ?_) (fun hc => ?_)
      · have hF := it_t hF hc
        refine lv_goto (tgt := 3314) hx hb dL_law_678 (by decide) ?_
        have hF := Option.some.inj hF
        subst hF
        exact W.widen (by show cells + 1 + 0 + 0 ≤ cells + 30; omega) (by show slots + 6 + 0 + 0 ≤ slots + 3000; omega) (kk H locs ls B (lv_sub hl [2, 3, 4, 5, 6, 7] rfl))
      · have hF := it_f hF hc
        cases hF
  · have hF := it_f hF hc
    cases hF
def F_cs_8 (M : fw_M) (xs : Nat → Int32) (i : Int32) : Option fw_M := bd_p (F_L_stopAt M (xs (i + 1).toNatClampNeg) (xs (i + 2).toNatClampNeg)) fun k1 M2 => bd_p (F_X9_stopAt M2 (xs (i + 1).toNatClampNeg) (xs (i + 2).toNatClampNeg)) fun r5 M6 => bd_x (F_X9_thrown M6 ) fun r8 => if r8 = k1 then (if k1 = 0 then (if (lg_cmp ((M6 386 0).toInt64) ((r5 : Int32).toInt64)) = 0 then (some M6) else (none)) else (some M6)) else (none)
set_option maxHeartbeats 4000000 in
set_option maxRecDepth 100000 in
theorem cs_8 (hlt : l.stackTraces = false) (hC : fl_C X p c s m b L xs) {i : Int32} (h1 : vp_in (i + 1) L) (h2 : vp_in (i + 2) L) (h3 : vp_in (i + 3) L) {M M0 : fw_M} {H : Heap} {locs : List Loc} {ls : Array Slot} {cells slots : Nat} (hF : F_cs_8 M xs i = some M0) (B : fr_H X s M H locs) (hl : lv_has ls 9 (fl_lv X b i)) (hcc : cells + 30 ≤ 603072) (hss : slots + 3000 ≤ 7194730) (kk : ∀ (H1 : Heap) (locs1 : List Loc) (ls1 : Array Slot), fr_H X s M0 H1 locs1 → lv_has ls1 9 (fl_lv X b i) → W p l e room_1 s m #[Value.ref b] below meth c H1 locs1 (cells + 30) (slots + 3000) Q (F0 m 3314 ls1 [])) : W p l e room_1 s m #[Value.ref b] below meth c H locs cells slots Q (F0 m 681 ls []) := by
  have C := hC.1
  have hx := C.1.1
  have hb := C.1.2.1
  have hl : lv_has ls 9 [(0, .ref b), (1, .ref (fw_ad X 352)), (2, .ref (fw_ad X 378)), (3, .ref (fw_ad X 386)), (4, .ref (fw_ad X 387)), (5, .int i)] := hl
  unfold F_cs_8 at hF
  refine lv_aload_n hx hb dL_law_681 rfl (lv_at hl 1 rfl) ?_
  refine lv_aload_n hx hb dL_law_682 rfl (lv_at hl 0 rfl) ?_
  refine lv_iload hx hb dL_law_683 (lv_at hl 5 rfl) ?_
  refine lv_iconst (v := 1) hx hb dL_law_685 (by decide) ?_
  refine lv_iadd hx hb dL_law_686 ?_
  refine fl_sld hC B h1 dL_law_687 ?_
  refine lv_aload_n hx hb dL_law_688 rfl (lv_at hl 0 rfl) ?_
  refine lv_iload hx hb dL_law_689 (lv_at hl 5 rfl) ?_
  refine lv_iconst (v := 2) hx hb dL_law_691 (by decide) ?_
  refine lv_iadd hx hb dL_law_692 ?_
  refine fl_sld hC B h2 dL_law_693 ?_
  refine lv_aload_n hx hb dL_law_694 rfl (lv_at hl 3 rfl) ?_
  obtain ⟨k1, M2, hf3, hF⟩ := bp_e hF
  refine fr_cHi (As := [.ref (fw_ad X 352), .int (xs (i + 1).toNatClampNeg), .int (xs (i + 2).toNatClampNeg), .ref (fw_ad X 386)]) (rest := []) C B (cm_L_stopAt hlt hf3) yh_L_stopAt wm_L_212 rfl hl.1 rfl (Nat.le_of_ble_eq_true rfl) ⟨(Nat.le_of_ble_eq_true rfl), (Nat.le_of_ble_eq_true rfl)⟩ ⟨(by show cells + 2 ≤ 603072; omega), (by show slots + 12 ≤ 7194730; omega)⟩ dL_law_695 (fun H locs B => ?_)
  have B : fr_H X s M2 H locs := B
  refine lv_istore (lv' := [(6, .int k1), (0, .ref b), (1, .ref (fw_ad X 352)), (2, .ref (fw_ad X 378)), (3, .ref (fw_ad X 386)), (4, .ref (fw_ad X 387)), (5, .int i)]) hx hb dL_law_698 hl (by decide) rfl (fun ls hl => ?_)
  refine lv_aload_n hx hb dL_law_700 rfl (lv_at hl 3 rfl) ?_
  refine lv_aload_n hx hb dL_law_701 rfl (lv_at hl 1 rfl) ?_
  refine lv_iload hx hb dL_law_702 (lv_at hl 6 rfl) ?_
  refine lv_iconst (v := 1) hx hb dL_law_704 (by decide) ?_
  refine lv_iadd hx hb dL_law_705 ?_
  refine fl_sld hC B h1 dL_law_706 ?_
  refine lv_aload_n hx hb dL_law_707 rfl (lv_at hl 1 rfl) ?_
  refine lv_iload hx hb dL_law_708 (lv_at hl 6 rfl) ?_
  refine lv_iconst (v := 2) hx hb dL_law_710 (by decide) ?_
  refine lv_iadd hx hb dL_law_711 ?_
  refine fl_sld hC B h2 dL_law_712 ?_
  obtain ⟨r5, M6, hf4, hF⟩ := bp_e hF
  refine fr_cVi (As := [.int (xs (i + 1).toNatClampNeg), .int (xs (i + 2).toNatClampNeg)]) (rest := []) C B (cm_X9_stopAt hf4) ob_9 rfl yw_X9_stopAt wm_L_214 rfl hl.1 rfl (Nat.le_of_ble_eq_true rfl) ⟨(Nat.le_of_ble_eq_true rfl), (Nat.le_of_ble_eq_true rfl)⟩ ⟨(by show cells + 2 + 0 ≤ 603072; omega), (by show slots + 12 + 0 ≤ 7194730; omega)⟩ dL_law_713 (fr_nx rfl) (fun r9 M9 H locs ho9 B => ?_)
  obtain ⟨rfl, rfl⟩ := oi_e ho9
  refine lv_istore (lv' := [(7, .int r5), (6, .int k1), (0, .ref b), (1, .ref (fw_ad X 352)), (2, .ref (fw_ad X 378)), (3, .ref (fw_ad X 386)), (4, .ref (fw_ad X 387)), (5, .int i)]) hx hb dL_law_716 hl (by decide) rfl (fun ls hl => ?_)
  refine lv_aload_n hx hb dL_law_718 rfl (lv_at hl 4 rfl) ?_
  obtain ⟨r8, hf7, hF⟩ := bx_e hF
  refine fr_cVi (As := []) (rest := []) C B (cm_X9_thrown hf7) ob_9 rfl yw_X9_thrown wm_L_185 rfl hl.1 rfl (Nat.le_of_ble_eq_true rfl) ⟨(Nat.le_of_ble_eq_true rfl), (Nat.le_of_ble_eq_true rfl)⟩ ⟨(by show cells + 2 + 0 + 0 ≤ 603072; omega), (by show slots + 12 + 0 + 0 ≤ 7194730; omega)⟩ dL_law_719 (fr_nx rfl) (fun r9 M9 H locs ho9 B => ?_)
  obtain ⟨rfl, rfl⟩ := oi_e ho9
  refine lv_iload hx hb dL_law_722 (lv_at hl 1 rfl) ?_
  refine lv_icmp_eq (tgt := 729) hx hb dL_law_724 (by decide) (fun hc => ?_) (fun hc => ?_)
  · have hF := it_t hF hc
    refine lv_iload hx hb dL_law_729 (lv_at hl 1 rfl) ?_
    refine lv_if_ne (tgt := 746) hx hb dL_law_731 (by decide) (fun hc => ?_) (fun hc => ?_)
    · have hF := it_f hF hc
      refine lv_goto (tgt := 3314) hx hb dL_law_746 (by decide) ?_
      have hF := Option.some.inj hF
      subst hF
      exact W.widen (by show cells + 2 + 0 + 0 ≤ cells + 30; omega) (by show slots + 12 + 0 + 0 ≤ slots + 3000; omega) (kk H locs ls B (lv_sub hl [2, 3, 4, 5, 6, 7] rfl))
    · have hF := it_t hF hc
      refine lv_aload_n hx hb dL_law_734 rfl (lv_at hl 5 rfl) ?_
      refine lv_iconst (v := 0) hx hb dL_law_735 (by decide) ?_
      refine fr_ll C B dL_law_736 ?_
      refine lv_iload hx hb dL_law_737 (lv_at hl 0 rfl) ?_
      refine lv_i2l hx hb dL_law_739 rfl ?_
      refine W.lcmp hx hb dL_law_740 ?_
      refine lv_if_eq (tgt := 746) hx hb dL_law_741 (by decide) (fun hc => ?_) (fun hc => ?_)
      · have hF := it_t hF hc
        refine lv_goto (tgt := 3314) hx hb dL_law_746 (by decide) ?_
        have hF := Option.some.inj hF
        subst hF
        exact W.widen (by show cells + 2 + 0 + 0 ≤ cells + 30; omega) (by show slots + 12 + 0 + 0 ≤ slots + 3000; omega) (kk H locs ls B (lv_sub hl [2, 3, 4, 5, 6, 7] rfl))
      · have hF := it_f hF hc
        cases hF
  · have hF := it_f hF hc
    cases hF
def F_cs_9 (M : fw_M) (xs : Nat → Int32) (i : Int32) : Option fw_M := bd_p (F_L_commonStops M (xs (i + 1).toNatClampNeg) (xs (i + 2).toNatClampNeg)) fun k1 M2 => bd_p (F_X9_commonStops M2 (xs (i + 1).toNatClampNeg) (xs (i + 2).toNatClampNeg)) fun r5 M6 => bd_x (F_X9_thrown M6 ) fun r8 => if r8 = k1 then (if k1 = 0 then (if (lg_cmp ((M6 386 0).toInt64) ((r5 : Int32).toInt64)) = 0 then (some M6) else (none)) else (some M6)) else (none)
set_option maxHeartbeats 4000000 in
set_option maxRecDepth 100000 in
theorem cs_9 (hlt : l.stackTraces = false) (hC : fl_C X p c s m b L xs) {i : Int32} (h1 : vp_in (i + 1) L) (h2 : vp_in (i + 2) L) (h3 : vp_in (i + 3) L) {M M0 : fw_M} {H : Heap} {locs : List Loc} {ls : Array Slot} {cells slots : Nat} (hF : F_cs_9 M xs i = some M0) (B : fr_H X s M H locs) (hl : lv_has ls 9 (fl_lv X b i)) (hcc : cells + 30 ≤ 603072) (hss : slots + 3000 ≤ 7194730) (kk : ∀ (H1 : Heap) (locs1 : List Loc) (ls1 : Array Slot), fr_H X s M0 H1 locs1 → lv_has ls1 9 (fl_lv X b i) → W p l e room_1 s m #[Value.ref b] below meth c H1 locs1 (cells + 30) (slots + 3000) Q (F0 m 3314 ls1 [])) : W p l e room_1 s m #[Value.ref b] below meth c H locs cells slots Q (F0 m 749 ls []) := by
  have C := hC.1
  have hx := C.1.1
  have hb := C.1.2.1
  have hl : lv_has ls 9 [(0, .ref b), (1, .ref (fw_ad X 352)), (2, .ref (fw_ad X 378)), (3, .ref (fw_ad X 386)), (4, .ref (fw_ad X 387)), (5, .int i)] := hl
  unfold F_cs_9 at hF
  refine lv_aload_n hx hb dL_law_749 rfl (lv_at hl 1 rfl) ?_
  refine lv_aload_n hx hb dL_law_750 rfl (lv_at hl 0 rfl) ?_
  refine lv_iload hx hb dL_law_751 (lv_at hl 5 rfl) ?_
  refine lv_iconst (v := 1) hx hb dL_law_753 (by decide) ?_
  refine lv_iadd hx hb dL_law_754 ?_
  refine fl_sld hC B h1 dL_law_755 ?_
  refine lv_aload_n hx hb dL_law_756 rfl (lv_at hl 0 rfl) ?_
  refine lv_iload hx hb dL_law_757 (lv_at hl 5 rfl) ?_
  refine lv_iconst (v := 2) hx hb dL_law_759 (by decide) ?_
  refine lv_iadd hx hb dL_law_760 ?_
  refine fl_sld hC B h2 dL_law_761 ?_
  refine lv_aload_n hx hb dL_law_762 rfl (lv_at hl 3 rfl) ?_
  obtain ⟨k1, M2, hf3, hF⟩ := bp_e hF
  refine fr_cHi (As := [.ref (fw_ad X 352), .int (xs (i + 1).toNatClampNeg), .int (xs (i + 2).toNatClampNeg), .ref (fw_ad X 386)]) (rest := []) C B (cm_L_commonStops hlt hf3) yh_L_commonStops wm_L_215 rfl hl.1 rfl (Nat.le_of_ble_eq_true rfl) ⟨(Nat.le_of_ble_eq_true rfl), (Nat.le_of_ble_eq_true rfl)⟩ ⟨(by show cells + 2 ≤ 603072; omega), (by show slots + 12 ≤ 7194730; omega)⟩ dL_law_763 (fun H locs B => ?_)
  have B : fr_H X s M2 H locs := B
  refine lv_istore (lv' := [(6, .int k1), (0, .ref b), (1, .ref (fw_ad X 352)), (2, .ref (fw_ad X 378)), (3, .ref (fw_ad X 386)), (4, .ref (fw_ad X 387)), (5, .int i)]) hx hb dL_law_766 hl (by decide) rfl (fun ls hl => ?_)
  refine lv_aload_n hx hb dL_law_768 rfl (lv_at hl 3 rfl) ?_
  refine lv_aload_n hx hb dL_law_769 rfl (lv_at hl 1 rfl) ?_
  refine lv_iload hx hb dL_law_770 (lv_at hl 6 rfl) ?_
  refine lv_iconst (v := 1) hx hb dL_law_772 (by decide) ?_
  refine lv_iadd hx hb dL_law_773 ?_
  refine fl_sld hC B h1 dL_law_774 ?_
  refine lv_aload_n hx hb dL_law_775 rfl (lv_at hl 1 rfl) ?_
  refine lv_iload hx hb dL_law_776 (lv_at hl 6 rfl) ?_
  refine lv_iconst (v := 2) hx hb dL_law_778 (by decide) ?_
  refine lv_iadd hx hb dL_law_779 ?_
  refine fl_sld hC B h2 dL_law_780 ?_
  obtain ⟨r5, M6, hf4, hF⟩ := bp_e hF
  refine fr_cVi (As := [.int (xs (i + 1).toNatClampNeg), .int (xs (i + 2).toNatClampNeg)]) (rest := []) C B (cm_X9_commonStops hf4) ob_9 rfl yw_X9_commonStops wm_L_217 rfl hl.1 rfl (Nat.le_of_ble_eq_true rfl) ⟨(Nat.le_of_ble_eq_true rfl), (Nat.le_of_ble_eq_true rfl)⟩ ⟨(by show cells + 2 + 0 ≤ 603072; omega), (by show slots + 12 + 0 ≤ 7194730; omega)⟩ dL_law_781 (fr_nx rfl) (fun r9 M9 H locs ho9 B => ?_)
  obtain ⟨rfl, rfl⟩ := oi_e ho9
  refine lv_istore (lv' := [(7, .int r5), (6, .int k1), (0, .ref b), (1, .ref (fw_ad X 352)), (2, .ref (fw_ad X 378)), (3, .ref (fw_ad X 386)), (4, .ref (fw_ad X 387)), (5, .int i)]) hx hb dL_law_784 hl (by decide) rfl (fun ls hl => ?_)
  refine lv_aload_n hx hb dL_law_786 rfl (lv_at hl 4 rfl) ?_
  obtain ⟨r8, hf7, hF⟩ := bx_e hF
  refine fr_cVi (As := []) (rest := []) C B (cm_X9_thrown hf7) ob_9 rfl yw_X9_thrown wm_L_185 rfl hl.1 rfl (Nat.le_of_ble_eq_true rfl) ⟨(Nat.le_of_ble_eq_true rfl), (Nat.le_of_ble_eq_true rfl)⟩ ⟨(by show cells + 2 + 0 + 0 ≤ 603072; omega), (by show slots + 12 + 0 + 0 ≤ 7194730; omega)⟩ dL_law_787 (fr_nx rfl) (fun r9 M9 H locs ho9 B => ?_)
  obtain ⟨rfl, rfl⟩ := oi_e ho9
  refine lv_iload hx hb dL_law_790 (lv_at hl 1 rfl) ?_
  refine lv_icmp_eq (tgt := 797) hx hb dL_law_792 (by decide) (fun hc => ?_) (fun hc => ?_)
  · have hF := it_t hF hc
    refine lv_iload hx hb dL_law_797 (lv_at hl 1 rfl) ?_
    refine lv_if_ne (tgt := 814) hx hb dL_law_799 (by decide) (fun hc => ?_) (fun hc => ?_)
    · have hF := it_f hF hc
      refine lv_goto (tgt := 3314) hx hb dL_law_814 (by decide) ?_
      have hF := Option.some.inj hF
      subst hF
      exact W.widen (by show cells + 2 + 0 + 0 ≤ cells + 30; omega) (by show slots + 12 + 0 + 0 ≤ slots + 3000; omega) (kk H locs ls B (lv_sub hl [2, 3, 4, 5, 6, 7] rfl))
    · have hF := it_t hF hc
      refine lv_aload_n hx hb dL_law_802 rfl (lv_at hl 5 rfl) ?_
      refine lv_iconst (v := 0) hx hb dL_law_803 (by decide) ?_
      refine fr_ll C B dL_law_804 ?_
      refine lv_iload hx hb dL_law_805 (lv_at hl 0 rfl) ?_
      refine lv_i2l hx hb dL_law_807 rfl ?_
      refine W.lcmp hx hb dL_law_808 ?_
      refine lv_if_eq (tgt := 814) hx hb dL_law_809 (by decide) (fun hc => ?_) (fun hc => ?_)
      · have hF := it_t hF hc
        refine lv_goto (tgt := 3314) hx hb dL_law_814 (by decide) ?_
        have hF := Option.some.inj hF
        subst hF
        exact W.widen (by show cells + 2 + 0 + 0 ≤ cells + 30; omega) (by show slots + 12 + 0 + 0 ≤ slots + 3000; omega) (kk H locs ls B (lv_sub hl [2, 3, 4, 5, 6, 7] rfl))
      · have hF := it_f hF hc
        cases hF
  · have hF := it_f hF hc
    cases hF
def F_cs_10 (M : fw_M) (xs : Nat → Int32) (i : Int32) : Option fw_M := bd_p (F_L_addTram M (xs (i + 1).toNatClampNeg)) fun k1 M2 => bd_p (F_X9_addTram M2 (xs (i + 1).toNatClampNeg)) fun r5 M6 => bd_x (F_X9_thrown M6 ) fun r8 => if r8 = k1 then (if k1 = 0 then (if (lg_cmp ((M6 386 0).toInt64) ((r5 : Int32).toInt64)) = 0 then (some M6) else (none)) else (some M6)) else (none)
set_option maxHeartbeats 4000000 in
set_option maxRecDepth 100000 in
theorem cs_10 (hlt : l.stackTraces = false) (hC : fl_C X p c s m b L xs) {i : Int32} (h1 : vp_in (i + 1) L) (h2 : vp_in (i + 2) L) (h3 : vp_in (i + 3) L) {M M0 : fw_M} {H : Heap} {locs : List Loc} {ls : Array Slot} {cells slots : Nat} (hF : F_cs_10 M xs i = some M0) (B : fr_H X s M H locs) (hl : lv_has ls 9 (fl_lv X b i)) (hcc : cells + 30 ≤ 603072) (hss : slots + 3000 ≤ 7194730) (kk : ∀ (H1 : Heap) (locs1 : List Loc) (ls1 : Array Slot), fr_H X s M0 H1 locs1 → lv_has ls1 9 (fl_lv X b i) → W p l e room_1 s m #[Value.ref b] below meth c H1 locs1 (cells + 30) (slots + 3000) Q (F0 m 3314 ls1 [])) : W p l e room_1 s m #[Value.ref b] below meth c H locs cells slots Q (F0 m 817 ls []) := by
  have C := hC.1
  have hx := C.1.1
  have hb := C.1.2.1
  have hl : lv_has ls 9 [(0, .ref b), (1, .ref (fw_ad X 352)), (2, .ref (fw_ad X 378)), (3, .ref (fw_ad X 386)), (4, .ref (fw_ad X 387)), (5, .int i)] := hl
  unfold F_cs_10 at hF
  refine lv_aload_n hx hb dL_law_817 rfl (lv_at hl 1 rfl) ?_
  refine lv_aload_n hx hb dL_law_818 rfl (lv_at hl 0 rfl) ?_
  refine lv_iload hx hb dL_law_819 (lv_at hl 5 rfl) ?_
  refine lv_iconst (v := 1) hx hb dL_law_821 (by decide) ?_
  refine lv_iadd hx hb dL_law_822 ?_
  refine fl_sld hC B h1 dL_law_823 ?_
  refine lv_aload_n hx hb dL_law_824 rfl (lv_at hl 3 rfl) ?_
  obtain ⟨k1, M2, hf3, hF⟩ := bp_e hF
  refine fr_cHi (As := [.ref (fw_ad X 352), .int (xs (i + 1).toNatClampNeg), .ref (fw_ad X 386)]) (rest := []) C B (cm_L_addTram hlt hf3) yh_L_addTram wm_L_218 rfl hl.1 rfl (Nat.le_of_ble_eq_true rfl) ⟨(Nat.le_of_ble_eq_true rfl), (Nat.le_of_ble_eq_true rfl)⟩ ⟨(by show cells + 1 ≤ 603072; omega), (by show slots + 6 ≤ 7194730; omega)⟩ dL_law_825 (fun H locs B => ?_)
  have B : fr_H X s M2 H locs := B
  refine lv_istore (lv' := [(6, .int k1), (0, .ref b), (1, .ref (fw_ad X 352)), (2, .ref (fw_ad X 378)), (3, .ref (fw_ad X 386)), (4, .ref (fw_ad X 387)), (5, .int i)]) hx hb dL_law_828 hl (by decide) rfl (fun ls hl => ?_)
  refine lv_aload_n hx hb dL_law_830 rfl (lv_at hl 3 rfl) ?_
  refine lv_aload_n hx hb dL_law_831 rfl (lv_at hl 1 rfl) ?_
  refine lv_iload hx hb dL_law_832 (lv_at hl 6 rfl) ?_
  refine lv_iconst (v := 1) hx hb dL_law_834 (by decide) ?_
  refine lv_iadd hx hb dL_law_835 ?_
  refine fl_sld hC B h1 dL_law_836 ?_
  obtain ⟨r5, M6, hf4, hF⟩ := bp_e hF
  refine fr_cVi (As := [.int (xs (i + 1).toNatClampNeg)]) (rest := []) C B (cm_X9_addTram hf4) ob_9 rfl yw_X9_addTram wm_L_220 rfl hl.1 rfl (Nat.le_of_ble_eq_true rfl) ⟨(Nat.le_of_ble_eq_true rfl), (Nat.le_of_ble_eq_true rfl)⟩ ⟨(by show cells + 1 + 0 ≤ 603072; omega), (by show slots + 6 + 0 ≤ 7194730; omega)⟩ dL_law_837 (fr_nx rfl) (fun r9 M9 H locs ho9 B => ?_)
  obtain ⟨rfl, rfl⟩ := oi_e ho9
  refine lv_istore (lv' := [(7, .int r5), (6, .int k1), (0, .ref b), (1, .ref (fw_ad X 352)), (2, .ref (fw_ad X 378)), (3, .ref (fw_ad X 386)), (4, .ref (fw_ad X 387)), (5, .int i)]) hx hb dL_law_840 hl (by decide) rfl (fun ls hl => ?_)
  refine lv_aload_n hx hb dL_law_842 rfl (lv_at hl 4 rfl) ?_
  obtain ⟨r8, hf7, hF⟩ := bx_e hF
  refine fr_cVi (As := []) (rest := []) C B (cm_X9_thrown hf7) ob_9 rfl yw_X9_thrown wm_L_185 rfl hl.1 rfl (Nat.le_of_ble_eq_true rfl) ⟨(Nat.le_of_ble_eq_true rfl), (Nat.le_of_ble_eq_true rfl)⟩ ⟨(by show cells + 1 + 0 + 0 ≤ 603072; omega), (by show slots + 6 + 0 + 0 ≤ 7194730; omega)⟩ dL_law_843 (fr_nx rfl) (fun r9 M9 H locs ho9 B => ?_)
  obtain ⟨rfl, rfl⟩ := oi_e ho9
  refine lv_iload hx hb dL_law_846 (lv_at hl 1 rfl) ?_
  refine lv_icmp_eq (tgt := 853) hx hb dL_law_848 (by decide) (fun hc => ?_) (fun hc => ?_)
  · have hF := it_t hF hc
    refine lv_iload hx hb dL_law_853 (lv_at hl 1 rfl) ?_
    refine lv_if_ne (tgt := 870) hx hb dL_law_855 (by decide) (fun hc => ?_) (fun hc => ?_)
    · have hF := it_f hF hc
      refine lv_goto (tgt := 3314) hx hb dL_law_870 (by decide) ?_
      have hF := Option.some.inj hF
      subst hF
      exact W.widen (by show cells + 1 + 0 + 0 ≤ cells + 30; omega) (by show slots + 6 + 0 + 0 ≤ slots + 3000; omega) (kk H locs ls B (lv_sub hl [2, 3, 4, 5, 6, 7] rfl))
    · have hF := it_t hF hc
      refine lv_aload_n hx hb dL_law_858 rfl (lv_at hl 5 rfl) ?_
      refine lv_iconst (v := 0) hx hb dL_law_859 (by decide) ?_
      refine fr_ll C B dL_law_860 ?_
      refine lv_iload hx hb dL_law_861 (lv_at hl 0 rfl) ?_
      refine lv_i2l hx hb dL_law_863 rfl ?_
      refine W.lcmp hx hb dL_law_864 ?_
      refine lv_if_eq (tgt := 870) hx hb dL_law_865 (by decide) (fun hc => ?_) (fun hc => ?_)
      · have hF := it_t hF hc
        refine lv_goto (tgt := 3314) hx hb dL_law_870 (by decide) ?_
        have hF := Option.some.inj hF
        subst hF
        exact W.widen (by show cells + 1 + 0 + 0 ≤ cells + 30; omega) (by show slots + 6 + 0 + 0 ≤ slots + 3000; omega) (kk H locs ls B (lv_sub hl [2, 3, 4, 5, 6, 7] rfl))
      · have hF := it_f hF hc
        cases hF
  · have hF := it_f hF hc
    cases hF
def F_cs_11 (M : fw_M) (xs : Nat → Int32) (i : Int32) : Option fw_M := bd_p (F_X8_tick M ) fun r2 M3 => bd_p (F_X9_tick M3 ) fun r5 M6 => if r2 = r5 then (some M6) else (none)
set_option maxHeartbeats 4000000 in
set_option maxRecDepth 100000 in
theorem cs_11 (hlt : l.stackTraces = false) (hC : fl_C X p c s m b L xs) {i : Int32} (h1 : vp_in (i + 1) L) (h2 : vp_in (i + 2) L) (h3 : vp_in (i + 3) L) {M M0 : fw_M} {H : Heap} {locs : List Loc} {ls : Array Slot} {cells slots : Nat} (hF : F_cs_11 M xs i = some M0) (B : fr_H X s M H locs) (hl : lv_has ls 9 (fl_lv X b i)) (hcc : cells + 30 ≤ 603072) (hss : slots + 3000 ≤ 7194730) (kk : ∀ (H1 : Heap) (locs1 : List Loc) (ls1 : Array Slot), fr_H X s M0 H1 locs1 → lv_has ls1 9 (fl_lv X b i) → W p l e room_1 s m #[Value.ref b] below meth c H1 locs1 (cells + 30) (slots + 3000) Q (F0 m 3314 ls1 [])) : W p l e room_1 s m #[Value.ref b] below meth c H locs cells slots Q (F0 m 873 ls []) := by
  have C := hC.1
  have hx := C.1.1
  have hb := C.1.2.1
  have hl : lv_has ls 9 [(0, .ref b), (1, .ref (fw_ad X 352)), (2, .ref (fw_ad X 378)), (3, .ref (fw_ad X 386)), (4, .ref (fw_ad X 387)), (5, .int i)] := hl
  unfold F_cs_11 at hF
  refine lv_aload_n hx hb dL_law_873 rfl (lv_at hl 1 rfl) ?_
  obtain ⟨r2, M3, hf1, hF⟩ := bp_e hF
  refine fr_cVi (As := []) (rest := []) C B (cm_X8_tick hf1) ob_8 rfl yw_X8_tick wm_L_221 rfl hl.1 rfl (Nat.le_of_ble_eq_true rfl) ⟨(Nat.le_of_ble_eq_true rfl), (Nat.le_of_ble_eq_true rfl)⟩ ⟨(by show cells + 0 ≤ 603072; omega), (by show slots + 0 ≤ 7194730; omega)⟩ dL_law_874 (fr_nx rfl) (fun r9 M9 H locs ho9 B => ?_)
  obtain ⟨rfl, rfl⟩ := oi_e ho9
  refine lv_aload_n hx hb dL_law_877 rfl (lv_at hl 2 rfl) ?_
  obtain ⟨r5, M6, hf4, hF⟩ := bp_e hF
  refine fr_cVi (As := []) (rest := [.int r2]) C B (cm_X9_tick hf4) ob_9 rfl yw_X9_tick wm_L_224 rfl hl.1 rfl (Nat.le_of_ble_eq_true rfl) ⟨(Nat.le_of_ble_eq_true rfl), (Nat.le_of_ble_eq_true rfl)⟩ ⟨(by show cells + 0 + 0 ≤ 603072; omega), (by show slots + 0 + 0 ≤ 7194730; omega)⟩ dL_law_878 (fr_nx rfl) (fun r9 M9 H locs ho9 B => ?_)
  obtain ⟨rfl, rfl⟩ := oi_e ho9
  refine lv_icmp_eq (tgt := 3314) hx hb dL_law_881 (by decide) (fun hc => ?_) (fun hc => ?_)
  · have hF := it_t hF hc
    have hF := Option.some.inj hF
    subst hF
    exact W.widen (by show cells + 0 + 0 ≤ cells + 30; omega) (by show slots + 0 + 0 ≤ slots + 3000; omega) (kk H locs ls B (lv_sub hl [0, 1, 2, 3, 4, 5] rfl))
  · have hF := it_f hF hc
    cases hF
end CS
