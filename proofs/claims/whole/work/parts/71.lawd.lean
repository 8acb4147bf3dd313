section CS
variable {p : Program} {l : Launch} {e : Env} {s : State} {m : MethodId} {below : List Frame} {meth : Method} {c : Code} {Q : State → Prop} {X : fw_X} {b L : Nat} {xs : Nat → Int32}
def F_cs_36 (M : fw_M) (xs : Nat → Int32) (i : Int32) : Option fw_M := bd_p (F_L_isTruth M (xs (i + 1).toNatClampNeg)) fun k1 M2 => bd_p (F_X9_isTruth M2 (xs (i + 1).toNatClampNeg)) fun r5 M6 => bd_x (F_X9_thrown M6 ) fun r8 => if r8 = k1 then (if k1 = 0 then (if r5 = 0 then (if (lg_cmp ((M6 386 0).toInt64) ((0 : Int32).toInt64)) = 0 then (some M6) else (none)) else (if (lg_cmp ((M6 386 0).toInt64) ((1 : Int32).toInt64)) = 0 then (some M6) else (none))) else (some M6)) else (none)
set_option maxHeartbeats 4000000 in
set_option maxRecDepth 100000 in
theorem cs_36 (hlt : l.stackTraces = false) (hC : fl_C X p c s m b L xs) {i : Int32} (h1 : vp_in (i + 1) L) (h2 : vp_in (i + 2) L) (h3 : vp_in (i + 3) L) {M M0 : fw_M} {H : Heap} {locs : List Loc} {ls : Array Slot} {cells slots : Nat} (hF : F_cs_36 M xs i = some M0) (B : fr_H X s M H locs) (hl : lv_has ls 9 (fl_lv X b i)) (hcc : cells + 30 ≤ 603072) (hss : slots + 3000 ≤ 7194730) (kk : ∀ (H1 : Heap) (locs1 : List Loc) (ls1 : Array Slot), fr_H X s M0 H1 locs1 → lv_has ls1 9 (fl_lv X b i) → W p l e room_1 s m #[Value.ref b] below meth c H1 locs1 (cells + 30) (slots + 3000) Q (F0 m 3314 ls1 [])) : W p l e room_1 s m #[Value.ref b] below meth c H locs cells slots Q (F0 m 2189 ls []) := by
  have C := hC.1
  have hx := C.1.1
  have hb := C.1.2.1
  have hl : lv_has ls 9 [(0, .ref b), (1, .ref (fw_ad X 352)), (2, .ref (fw_ad X 378)), (3, .ref (fw_ad X 386)), (4, .ref (fw_ad X 387)), (5, .int i)] := hl
  unfold F_cs_36 at hF
  refine lv_aload_n hx hb dL_law_2189 rfl (lv_at hl 1 rfl) ?_
  refine lv_aload_n hx hb dL_law_2190 rfl (lv_at hl 0 rfl) ?_
  refine lv_iload hx hb dL_law_2191 (lv_at hl 5 rfl) ?_
  refine lv_iconst (v := 1) hx hb dL_law_2193 (by decide) ?_
  refine lv_iadd hx hb dL_law_2194 ?_
  refine fl_sld hC B h1 dL_law_2195 ?_
  refine lv_aload_n hx hb dL_law_2196 rfl (lv_at hl 3 rfl) ?_
  obtain ⟨k1, M2, hf3, hF⟩ := bp_e hF
  refine fr_cHi (As := [.ref (fw_ad X 352), .int (xs (i + 1).toNatClampNeg), .ref (fw_ad X 386)]) (rest := []) C B (cm_L_isTruth hlt hf3) yh_L_isTruth wm_L_303 rfl hl.1 rfl (Nat.le_of_ble_eq_true rfl) ⟨(Nat.le_of_ble_eq_true rfl), (Nat.le_of_ble_eq_true rfl)⟩ ⟨(by show cells + 1 ≤ 603072; omega), (by show slots + 6 ≤ 7194730; omega)⟩ dL_law_2197 (fun H locs B => ?_)
  have B : fr_H X s M2 H locs := B
  refine lv_istore (lv' := [(6, .int k1), (0, .ref b), (1, .ref (fw_ad X 352)), (2, .ref (fw_ad X 378)), (3, .ref (fw_ad X 386)), (4, .ref (fw_ad X 387)), (5, .int i)]) hx hb dL_law_2200 hl (by decide) rfl (fun ls hl => ?_)
  refine lv_aload_n hx hb dL_law_2202 rfl (lv_at hl 3 rfl) ?_
  refine lv_aload_n hx hb dL_law_2203 rfl (lv_at hl 1 rfl) ?_
  refine lv_iload hx hb dL_law_2204 (lv_at hl 6 rfl) ?_
  refine lv_iconst (v := 1) hx hb dL_law_2206 (by decide) ?_
  refine lv_iadd hx hb dL_law_2207 ?_
  refine fl_sld hC B h1 dL_law_2208 ?_
  obtain ⟨r5, M6, hf4, hF⟩ := bp_e hF
  refine fr_cVi (As := [.int (xs (i + 1).toNatClampNeg)]) (rest := []) C B (cm_X9_isTruth hf4) ob_9 rfl yw_X9_isTruth wm_L_305 rfl hl.1 rfl (Nat.le_of_ble_eq_true rfl) ⟨(Nat.le_of_ble_eq_true rfl), (Nat.le_of_ble_eq_true rfl)⟩ ⟨(by show cells + 1 + 0 ≤ 603072; omega), (by show slots + 6 + 0 ≤ 7194730; omega)⟩ dL_law_2209 (fr_nx rfl) (fun r9 M9 H locs ho9 B => ?_)
  obtain ⟨rfl, rfl⟩ := oi_e ho9
  refine lv_istore (lv' := [(7, .int r5), (6, .int k1), (0, .ref b), (1, .ref (fw_ad X 352)), (2, .ref (fw_ad X 378)), (3, .ref (fw_ad X 386)), (4, .ref (fw_ad X 387)), (5, .int i)]) hx hb dL_law_2212 hl (by decide) rfl (fun ls hl => ?_)
  refine lv_aload_n hx hb dL_law_2214 rfl (lv_at hl 4 rfl) ?_
  obtain ⟨r8, hf7, hF⟩ := bx_e hF
  refine fr_cVi (As := []) (rest := []) C B (cm_X9_thrown hf7) ob_9 rfl yw_X9_thrown wm_L_185 rfl hl.1 rfl (Nat.le_of_ble_eq_true rfl) ⟨(Nat.le_of_ble_eq_true rfl), (Nat.le_of_ble_eq_true rfl)⟩ ⟨(by show cells + 1 + 0 + 0 ≤ 603072; omega), (by show slots + 6 + 0 + 0 ≤ 7194730; omega)⟩ dL_law_2215 (fr_nx rfl) (fun r9 M9 H locs ho9 B => ?_)
  obtain ⟨rfl, rfl⟩ := oi_e ho9
  refine lv_iload hx hb dL_law_2218 (lv_at hl 1 rfl) ?_
  refine lv_icmp_eq (tgt := 2225) hx hb dL_law_2220 (by decide) (fun hc => ?_) (fun hc => ?_)
  · have hF := it_t hF hc
    refine lv_iload hx hb dL_law_2225 (lv_at hl 1 rfl) ?_
    refine lv_if_ne (tgt := 2249) hx hb dL_law_2227 (by decide) (fun hc => ?_) (fun hc => ?_)
    · have hF := it_f hF hc
      refine lv_goto (tgt := 3314) hx hb dL_law_2249 (by decide) ?_
      have hF := Option.some.inj hF
      subst hF
      exact W.widen (by show cells + 1 + 0 + 0 ≤ cells + 30; omega) (by show slots + 6 + 0 + 0 ≤ slots + 3000; omega) (kk H locs ls B (lv_sub hl [2, 3, 4, 5, 6, 7] rfl))
    · have hF := it_t hF hc
      refine lv_aload_n hx hb dL_law_2230 rfl (lv_at hl 5 rfl) ?_
      refine lv_iconst (v := 0) hx hb dL_law_2231 (by decide) ?_
      refine fr_ll C B dL_law_2232 ?_
      refine lv_iload hx hb dL_law_2233 (lv_at hl 0 rfl) ?_
      refine lv_if_eq (tgt := 2242) hx hb dL_law_2235 (by decide) (fun hc => ?_) (fun hc => ?_)
      · have hF := it_t hF hc
        refine lv_lconst (v := (0 : Int32).toInt64) hx hb dL_law_2242 (by decide) ?_
        refine W.lcmp hx hb dL_law_2243 ?_
        refine lv_if_eq (tgt := 2249) hx hb dL_law_2244 (by decide) (fun hc => ?_) (fun hc => ?_)
        · have hF := it_t hF hc
          refine lv_goto (tgt := 3314) hx hb dL_law_2249 (by decide) ?_
          have hF := Option.some.inj hF
          subst hF
          exact W.widen (by show cells + 1 + 0 + 0 ≤ cells + 30; omega) (by show slots + 6 + 0 + 0 ≤ slots + 3000; omega) (kk H locs ls B (lv_sub hl [2, 3, 4, 5, 6, 7] rfl))
        · have hF := it_f hF hc
          cases hF
      · have hF := it_f hF hc
        refine lv_lconst (v := (1 : Int32).toInt64) hx hb dL_law_2238 (by decide) ?_
        refine lv_goto (tgt := 2243) hx hb dL_law_2239 (by decide) ?_
        refine W.lcmp hx hb dL_law_2243 ?_
        refine lv_if_eq (tgt := 2249) hx hb dL_law_2244 (by decide) (fun hc => ?_) (fun hc => ?_)
        · have hF := it_t hF hc
          refine lv_goto (tgt := 3314) hx hb dL_law_2249 (by decide) ?_
          have hF := Option.some.inj hF
          subst hF
          exact W.widen (by show cells + 1 + 0 + 0 ≤ cells + 30; omega) (by show slots + 6 + 0 + 0 ≤ slots + 3000; omega) (kk H locs ls B (lv_sub hl [2, 3, 4, 5, 6, 7] rfl))
        · have hF := it_f hF hc
          cases hF
  · have hF := it_f hF hc
    cases hF
def F_cs_37 (M : fw_M) (xs : Nat → Int32) (i : Int32) : Option fw_M := bd_p (F_L_knows M (xs (i + 1).toNatClampNeg) (xs (i + 2).toNatClampNeg)) fun k1 M2 => bd_p (F_X9_knows M2 (xs (i + 1).toNatClampNeg) (xs (i + 2).toNatClampNeg)) fun r5 M6 => bd_x (F_X9_thrown M6 ) fun r8 => if r8 = k1 then (if k1 = 0 then (if r5 = 0 then (if (lg_cmp ((M6 386 0).toInt64) ((0 : Int32).toInt64)) = 0 then (some M6) else (none)) else (if (lg_cmp ((M6 386 0).toInt64) ((1 : Int32).toInt64)) = 0 then (some M6) else (none))) else (some M6)) else (none)
set_option maxHeartbeats 4000000 in
set_option maxRecDepth 100000 in
theorem cs_37 (hlt : l.stackTraces = false) (hC : fl_C X p c s m b L xs) {i : Int32} (h1 : vp_in (i + 1) L) (h2 : vp_in (i + 2) L) (h3 : vp_in (i + 3) L) {M M0 : fw_M} {H : Heap} {locs : List Loc} {ls : Array Slot} {cells slots : Nat} (hF : F_cs_37 M xs i = some M0) (B : fr_H X s M H locs) (hl : lv_has ls 9 (fl_lv X b i)) (hcc : cells + 30 ≤ 603072) (hss : slots + 3000 ≤ 7194730) (kk : ∀ (H1 : Heap) (locs1 : List Loc) (ls1 : Array Slot), fr_H X s M0 H1 locs1 → lv_has ls1 9 (fl_lv X b i) → W p l e room_1 s m #[Value.ref b] below meth c H1 locs1 (cells + 30) (slots + 3000) Q (F0 m 3314 ls1 [])) : W p l e room_1 s m #[Value.ref b] below meth c H locs cells slots Q (F0 m 2252 ls []) := by
  have C := hC.1
  have hx := C.1.1
  have hb := C.1.2.1
  have hl : lv_has ls 9 [(0, .ref b), (1, .ref (fw_ad X 352)), (2, .ref (fw_ad X 378)), (3, .ref (fw_ad X 386)), (4, .ref (fw_ad X 387)), (5, .int i)] := hl
  unfold F_cs_37 at hF
  refine lv_aload_n hx hb dL_law_2252 rfl (lv_at hl 1 rfl) ?_
  refine lv_aload_n hx hb dL_law_2253 rfl (lv_at hl 0 rfl) ?_
  refine lv_iload hx hb dL_law_2254 (lv_at hl 5 rfl) ?_
  refine lv_iconst (v := 1) hx hb dL_law_2256 (by decide) ?_
  refine lv_iadd hx hb dL_law_2257 ?_
  refine fl_sld hC B h1 dL_law_2258 ?_
  refine lv_aload_n hx hb dL_law_2259 rfl (lv_at hl 0 rfl) ?_
  refine lv_iload hx hb dL_law_2260 (lv_at hl 5 rfl) ?_
  refine lv_iconst (v := 2) hx hb dL_law_2262 (by decide) ?_
  refine lv_iadd hx hb dL_law_2263 ?_
  refine fl_sld hC B h2 dL_law_2264 ?_
  refine lv_aload_n hx hb dL_law_2265 rfl (lv_at hl 3 rfl) ?_
  obtain ⟨k1, M2, hf3, hF⟩ := bp_e hF
  refine fr_cHi (As := [.ref (fw_ad X 352), .int (xs (i + 1).toNatClampNeg), .int (xs (i + 2).toNatClampNeg), .ref (fw_ad X 386)]) (rest := []) C B (cm_L_knows hlt hf3) yh_L_knows wm_L_306 rfl hl.1 rfl (Nat.le_of_ble_eq_true rfl) ⟨(Nat.le_of_ble_eq_true rfl), (Nat.le_of_ble_eq_true rfl)⟩ ⟨(by show cells + 2 ≤ 603072; omega), (by show slots + 12 ≤ 7194730; omega)⟩ dL_law_2266 (fun H locs B => ?_)
  have B : fr_H X s M2 H locs := B
  refine lv_istore (lv' := [(6, .int k1), (0, .ref b), (1, .ref (fw_ad X 352)), (2, .ref (fw_ad X 378)), (3, .ref (fw_ad X 386)), (4, .ref (fw_ad X 387)), (5, .int i)]) hx hb dL_law_2269 hl (by decide) rfl (fun ls hl => ?_)
  refine lv_aload_n hx hb dL_law_2271 rfl (lv_at hl 3 rfl) ?_
  refine lv_aload_n hx hb dL_law_2272 rfl (lv_at hl 1 rfl) ?_
  refine lv_iload hx hb dL_law_2273 (lv_at hl 6 rfl) ?_
  refine lv_iconst (v := 1) hx hb dL_law_2275 (by decide) ?_
  refine lv_iadd hx hb dL_law_2276 ?_
  refine fl_sld hC B h1 dL_law_2277 ?_
  refine lv_aload_n hx hb dL_law_2278 rfl (lv_at hl 1 rfl) ?_
  refine lv_iload hx hb dL_law_2279 (lv_at hl 6 rfl) ?_
  refine lv_iconst (v := 2) hx hb dL_law_2281 (by decide) ?_
  refine lv_iadd hx hb dL_law_2282 ?_
  refine fl_sld hC B h2 dL_law_2283 ?_
  obtain ⟨r5, M6, hf4, hF⟩ := bp_e hF
  refine fr_cVi (As := [.int (xs (i + 1).toNatClampNeg), .int (xs (i + 2).toNatClampNeg)]) (rest := []) C B (cm_X9_knows hf4) ob_9 rfl yw_X9_knows wm_L_308 rfl hl.1 rfl (Nat.le_of_ble_eq_true rfl) ⟨(Nat.le_of_ble_eq_true rfl), (Nat.le_of_ble_eq_true rfl)⟩ ⟨(by show cells + 2 + 0 ≤ 603072; omega), (by show slots + 12 + 0 ≤ 7194730; omega)⟩ dL_law_2284 (fr_nx rfl) (fun r9 M9 H locs ho9 B => ?_)
  obtain ⟨rfl, rfl⟩ := oi_e ho9
  refine lv_istore (lv' := [(7, .int r5), (6, .int k1), (0, .ref b), (1, .ref (fw_ad X 352)), (2, .ref (fw_ad X 378)), (3, .ref (fw_ad X 386)), (4, .ref (fw_ad X 387)), (5, .int i)]) hx hb dL_law_2287 hl (by decide) rfl (fun ls hl => ?_)
  refine lv_aload_n hx hb dL_law_2289 rfl (lv_at hl 4 rfl) ?_
  obtain ⟨r8, hf7, hF⟩ := bx_e hF
  refine fr_cVi (As := []) (rest := []) C B (cm_X9_thrown hf7) ob_9 rfl yw_X9_thrown wm_L_185 rfl hl.1 rfl (Nat.le_of_ble_eq_true rfl) ⟨(Nat.le_of_ble_eq_true rfl), (Nat.le_of_ble_eq_true rfl)⟩ ⟨(by show cells + 2 + 0 + 0 ≤ 603072; omega), (by show slots + 12 + 0 + 0 ≤ 7194730; omega)⟩ dL_law_2290 (fr_nx rfl) (fun r9 M9 H locs ho9 B => ?_)
  obtain ⟨rfl, rfl⟩ := oi_e ho9
  refine lv_iload hx hb dL_law_2293 (lv_at hl 1 rfl) ?_
  refine lv_icmp_eq (tgt := 2300) hx hb dL_law_2295 (by decide) (fun hc => ?_) (fun hc => ?_)
  · have hF := it_t hF hc
    refine lv_iload hx hb dL_law_2300 (lv_at hl 1 rfl) ?_
    refine lv_if_ne (tgt := 2324) hx hb dL_law_2302 (by decide) (fun hc => ?_) (fun hc => ?_)
    · have hF := it_f hF hc
      refine lv_goto (tgt := 3314) hx hb dL_law_2324 (by decide) ?_
      have hF := Option.some.inj hF
      subst hF
      exact W.widen (by show cells + 2 + 0 + 0 ≤ cells + 30; omega) (by show slots + 12 + 0 + 0 ≤ slots + 3000; omega) (kk H locs ls B (lv_sub hl [2, 3, 4, 5, 6, 7] rfl))
    · have hF := it_t hF hc
      refine lv_aload_n hx hb dL_law_2305 rfl (lv_at hl 5 rfl) ?_
      refine lv_iconst (v := 0) hx hb dL_law_2306 (by decide) ?_
      refine fr_ll C B dL_law_2307 ?_
      refine lv_iload hx hb dL_law_2308 (lv_at hl 0 rfl) ?_
      refine lv_if_eq (tgt := 2317) hx hb dL_law_2310 (by decide) (fun hc => ?_) (fun hc => ?_)
      · have hF := it_t hF hc
        refine lv_lconst (v := (0 : Int32).toInt64) hx hb dL_law_2317 (by decide) ?_
        refine W.lcmp hx hb dL_law_2318 ?_
        refine lv_if_eq (tgt := 2324) hx hb dL_law_2319 (by decide) (fun hc => ?_) (fun hc => ?_)
        · have hF := it_t hF hc
          refine lv_goto (tgt := 3314) hx hb dL_law_2324 (by decide) ?_
          have hF := Option.some.inj hF
          subst hF
          exact W.widen (by show cells + 2 + 0 + 0 ≤ cells + 30; omega) (by show slots + 12 + 0 + 0 ≤ slots + 3000; omega) (kk H locs ls B (lv_sub hl [2, 3, 4, 5, 6, 7] rfl))
        · have hF := it_f hF hc
          cases hF
      · have hF := it_f hF hc
        refine lv_lconst (v := (1 : Int32).toInt64) hx hb dL_law_2313 (by decide) ?_
        refine lv_goto (tgt := 2318) hx hb dL_law_2314 (by decide) ?_
        refine W.lcmp hx hb dL_law_2318 ?_
        refine lv_if_eq (tgt := 2324) hx hb dL_law_2319 (by decide) (fun hc => ?_) (fun hc => ?_)
        · have hF := it_t hF hc
          refine lv_goto (tgt := 3314) hx hb dL_law_2324 (by decide) ?_
          have hF := Option.some.inj hF
          subst hF
          exact W.widen (by show cells + 2 + 0 + 0 ≤ cells + 30; omega) (by show slots + 12 + 0 + 0 ≤ slots + 3000; omega) (kk H locs ls B (lv_sub hl [2, 3, 4, 5, 6, 7] rfl))
        · have hF := it_f hF hc
          cases hF
  · have hF := it_f hF hc
    cases hF
def F_cs_38 (M : fw_M) (xs : Nat → Int32) (i : Int32) : Option fw_M := bd_p (F_L_knowerCount M (xs (i + 1).toNatClampNeg)) fun k1 M2 => bd_p (F_X9_knowerCount M2 (xs (i + 1).toNatClampNeg)) fun r5 M6 => bd_x (F_X9_thrown M6 ) fun r8 => if r8 = k1 then (if k1 = 0 then (if (lg_cmp ((M6 386 0).toInt64) ((r5 : Int32).toInt64)) = 0 then (some M6) else (none)) else (some M6)) else (none)
set_option maxHeartbeats 4000000 in
set_option maxRecDepth 100000 in
theorem cs_38 (hlt : l.stackTraces = false) (hC : fl_C X p c s m b L xs) {i : Int32} (h1 : vp_in (i + 1) L) (h2 : vp_in (i + 2) L) (h3 : vp_in (i + 3) L) {M M0 : fw_M} {H : Heap} {locs : List Loc} {ls : Array Slot} {cells slots : Nat} (hF : F_cs_38 M xs i = some M0) (B : fr_H X s M H locs) (hl : lv_has ls 9 (fl_lv X b i)) (hcc : cells + 30 ≤ 603072) (hss : slots + 3000 ≤ 7194730) (kk : ∀ (H1 : Heap) (locs1 : List Loc) (ls1 : Array Slot), fr_H X s M0 H1 locs1 → lv_has ls1 9 (fl_lv X b i) → W p l e room_1 s m #[Value.ref b] below meth c H1 locs1 (cells + 30) (slots + 3000) Q (F0 m 3314 ls1 [])) : W p l e room_1 s m #[Value.ref b] below meth c H locs cells slots Q (F0 m 2327 ls []) := by
  have C := hC.1
  have hx := C.1.1
  have hb := C.1.2.1
  have hl : lv_has ls 9 [(0, .ref b), (1, .ref (fw_ad X 352)), (2, .ref (fw_ad X 378)), (3, .ref (fw_ad X 386)), (4, .ref (fw_ad X 387)), (5, .int i)] := hl
  unfold F_cs_38 at hF
  refine lv_aload_n hx hb dL_law_2327 rfl (lv_at hl 1 rfl) ?_
  refine lv_aload_n hx hb dL_law_2328 rfl (lv_at hl 0 rfl) ?_
  refine lv_iload hx hb dL_law_2329 (lv_at hl 5 rfl) ?_
  refine lv_iconst (v := 1) hx hb dL_law_2331 (by decide) ?_
  refine lv_iadd hx hb dL_law_2332 ?_
  refine fl_sld hC B h1 dL_law_2333 ?_
  refine lv_aload_n hx hb dL_law_2334 rfl (lv_at hl 3 rfl) ?_
  obtain ⟨k1, M2, hf3, hF⟩ := bp_e hF
  refine fr_cHi (As := [.ref (fw_ad X 352), .int (xs (i + 1).toNatClampNeg), .ref (fw_ad X 386)]) (rest := []) C B (cm_L_knowerCount hlt hf3) yh_L_knowerCount wm_L_309 rfl hl.1 rfl (Nat.le_of_ble_eq_true rfl) ⟨(Nat.le_of_ble_eq_true rfl), (Nat.le_of_ble_eq_true rfl)⟩ ⟨(by show cells + 1 ≤ 603072; omega), (by show slots + 6 ≤ 7194730; omega)⟩ dL_law_2335 (fun H locs B => ?_)
  have B : fr_H X s M2 H locs := B
  refine lv_istore (lv' := [(6, .int k1), (0, .ref b), (1, .ref (fw_ad X 352)), (2, .ref (fw_ad X 378)), (3, .ref (fw_ad X 386)), (4, .ref (fw_ad X 387)), (5, .int i)]) hx hb dL_law_2338 hl (by decide) rfl (fun ls hl => ?_)
  refine lv_aload_n hx hb dL_law_2340 rfl (lv_at hl 3 rfl) ?_
  refine lv_aload_n hx hb dL_law_2341 rfl (lv_at hl 1 rfl) ?_
  refine lv_iload hx hb dL_law_2342 (lv_at hl 6 rfl) ?_
  refine lv_iconst (v := 1) hx hb dL_law_2344 (by decide) ?_
  refine lv_iadd hx hb dL_law_2345 ?_
  refine fl_sld hC B h1 dL_law_2346 ?_
  obtain ⟨r5, M6, hf4, hF⟩ := bp_e hF
  refine fr_cVi (As := [.int (xs (i + 1).toNatClampNeg)]) (rest := []) C B (cm_X9_knowerCount hf4) ob_9 rfl yw_X9_knowerCount wm_L_311 rfl hl.1 rfl (Nat.le_of_ble_eq_true rfl) ⟨(Nat.le_of_ble_eq_true rfl), (Nat.le_of_ble_eq_true rfl)⟩ ⟨(by show cells + 1 + 0 ≤ 603072; omega), (by show slots + 6 + 0 ≤ 7194730; omega)⟩ dL_law_2347 (fr_nx rfl) (fun r9 M9 H locs ho9 B => ?_)
  obtain ⟨rfl, rfl⟩ := oi_e ho9
  refine lv_istore (lv' := [(7, .int r5), (6, .int k1), (0, .ref b), (1, .ref (fw_ad X 352)), (2, .ref (fw_ad X 378)), (3, .ref (fw_ad X 386)), (4, .ref (fw_ad X 387)), (5, .int i)]) hx hb dL_law_2350 hl (by decide) rfl (fun ls hl => ?_)
  refine lv_aload_n hx hb dL_law_2352 rfl (lv_at hl 4 rfl) ?_
  obtain ⟨r8, hf7, hF⟩ := bx_e hF
  refine fr_cVi (As := []) (rest := []) C B (cm_X9_thrown hf7) ob_9 rfl yw_X9_thrown wm_L_185 rfl hl.1 rfl (Nat.le_of_ble_eq_true rfl) ⟨(Nat.le_of_ble_eq_true rfl), (Nat.le_of_ble_eq_true rfl)⟩ ⟨(by show cells + 1 + 0 + 0 ≤ 603072; omega), (by show slots + 6 + 0 + 0 ≤ 7194730; omega)⟩ dL_law_2353 (fr_nx rfl) (fun r9 M9 H locs ho9 B => ?_)
  obtain ⟨rfl, rfl⟩ := oi_e ho9
  refine lv_iload hx hb dL_law_2356 (lv_at hl 1 rfl) ?_
  refine lv_icmp_eq (tgt := 2363) hx hb dL_law_2358 (by decide) (fun hc => ?_) (fun hc => ?_)
  · have hF := it_t hF hc
    refine lv_iload hx hb dL_law_2363 (lv_at hl 1 rfl) ?_
    refine lv_if_ne (tgt := 2380) hx hb dL_law_2365 (by decide) (fun hc => ?_) (fun hc => ?_)
    · have hF := it_f hF hc
      refine lv_goto (tgt := 3314) hx hb dL_law_2380 (by decide) ?_
      have hF := Option.some.inj hF
      subst hF
      exact W.widen (by show cells + 1 + 0 + 0 ≤ cells + 30; omega) (by show slots + 6 + 0 + 0 ≤ slots + 3000; omega) (kk H locs ls B (lv_sub hl [2, 3, 4, 5, 6, 7] rfl))
    · have hF := it_t hF hc
      refine lv_aload_n hx hb dL_law_2368 rfl (lv_at hl 5 rfl) ?_
      refine lv_iconst (v := 0) hx hb dL_law_2369 (by decide) ?_
      refine fr_ll C B dL_law_2370 ?_
      refine lv_iload hx hb dL_law_2371 (lv_at hl 0 rfl) ?_
      refine lv_i2l hx hb dL_law_2373 rfl ?_
      refine W.lcmp hx hb dL_law_2374 ?_
      refine lv_if_eq (tgt := 2380) hx hb dL_law_2375 (by decide) (fun hc => ?_) (fun hc => ?_)
      · have hF := it_t hF hc
        refine lv_goto (tgt := 3314) hx hb dL_law_2380 (by decide) ?_
        have hF := Option.some.inj hF
        subst hF
        exact W.widen (by show cells + 1 + 0 + 0 ≤ cells + 30; omega) (by show slots + 6 + 0 + 0 ≤ slots + 3000; omega) (kk H locs ls B (lv_sub hl [2, 3, 4, 5, 6, 7] rfl))
      · have hF := it_f hF hc
        cases hF
  · have hF := it_f hF hc
    cases hF
def F_cs_39 (M : fw_M) (xs : Nat → Int32) (i : Int32) : Option fw_M := bd_p (F_L_wisestPassenger M (xs (i + 1).toNatClampNeg)) fun k1 M2 => bd_p (F_X9_wisestPassenger M2 (xs (i + 1).toNatClampNeg)) fun r5 M6 => bd_x (F_X9_thrown M6 ) fun r8 => if r8 = k1 then (if k1 = 0 then (if (lg_cmp ((M6 386 0).toInt64) ((r5 : Int32).toInt64)) = 0 then (some M6) else (none)) else (some M6)) else (none)
set_option maxHeartbeats 4000000 in
set_option maxRecDepth 100000 in
theorem cs_39 (hlt : l.stackTraces = false) (hC : fl_C X p c s m b L xs) {i : Int32} (h1 : vp_in (i + 1) L) (h2 : vp_in (i + 2) L) (h3 : vp_in (i + 3) L) {M M0 : fw_M} {H : Heap} {locs : List Loc} {ls : Array Slot} {cells slots : Nat} (hF : F_cs_39 M xs i = some M0) (B : fr_H X s M H locs) (hl : lv_has ls 9 (fl_lv X b i)) (hcc : cells + 30 ≤ 603072) (hss : slots + 3000 ≤ 7194730) (kk : ∀ (H1 : Heap) (locs1 : List Loc) (ls1 : Array Slot), fr_H X s M0 H1 locs1 → lv_has ls1 9 (fl_lv X b i) → W p l e room_1 s m #[Value.ref b] below meth c H1 locs1 (cells + 30) (slots + 3000) Q (F0 m 3314 ls1 [])) : W p l e room_1 s m #[Value.ref b] below meth c H locs cells slots Q (F0 m 2383 ls []) := by
  have C := hC.1
  have hx := C.1.1
  have hb := C.1.2.1
  have hl : lv_has ls 9 [(0, .ref b), (1, .ref (fw_ad X 352)), (2, .ref (fw_ad X 378)), (3, .ref (fw_ad X 386)), (4, .ref (fw_ad X 387)), (5, .int i)] := hl
  unfold F_cs_39 at hF
  refine lv_aload_n hx hb dL_law_2383 rfl (lv_at hl 1 rfl) ?_
  refine lv_aload_n hx hb dL_law_2384 rfl (lv_at hl 0 rfl) ?_
  refine lv_iload hx hb dL_law_2385 (lv_at hl 5 rfl) ?_
  refine lv_iconst (v := 1) hx hb dL_law_2387 (by decide) ?_
  refine lv_iadd hx hb dL_law_2388 ?_
  refine fl_sld hC B h1 dL_law_2389 ?_
  refine lv_aload_n hx hb dL_law_2390 rfl (lv_at hl 3 rfl) ?_
  obtain ⟨k1, M2, hf3, hF⟩ := bp_e hF
  refine fr_cHi (As := [.ref (fw_ad X 352), .int (xs (i + 1).toNatClampNeg), .ref (fw_ad X 386)]) (rest := []) C B (cm_L_wisestPassenger hlt hf3) yh_L_wisestPassenger wm_L_312 rfl hl.1 rfl (Nat.le_of_ble_eq_true rfl) ⟨(Nat.le_of_ble_eq_true rfl), (Nat.le_of_ble_eq_true rfl)⟩ ⟨(by show cells + 1 ≤ 603072; omega), (by show slots + 6 ≤ 7194730; omega)⟩ dL_law_2391 (fun H locs B => ?_)
  have B : fr_H X s M2 H locs := B
  refine lv_istore (lv' := [(6, .int k1), (0, .ref b), (1, .ref (fw_ad X 352)), (2, .ref (fw_ad X 378)), (3, .ref (fw_ad X 386)), (4, .ref (fw_ad X 387)), (5, .int i)]) hx hb dL_law_2394 hl (by decide) rfl (fun ls hl => ?_)
  refine lv_aload_n hx hb dL_law_2396 rfl (lv_at hl 3 rfl) ?_
  refine lv_aload_n hx hb dL_law_2397 rfl (lv_at hl 1 rfl) ?_
  refine lv_iload hx hb dL_law_2398 (lv_at hl 6 rfl) ?_
  refine lv_iconst (v := 1) hx hb dL_law_2400 (by decide) ?_
  refine lv_iadd hx hb dL_law_2401 ?_
  refine fl_sld hC B h1 dL_law_2402 ?_
  obtain ⟨r5, M6, hf4, hF⟩ := bp_e hF
  refine fr_cVi (As := [.int (xs (i + 1).toNatClampNeg)]) (rest := []) C B (cm_X9_wisestPassenger hf4) ob_9 rfl yw_X9_wisestPassenger wm_L_314 rfl hl.1 rfl (Nat.le_of_ble_eq_true rfl) ⟨(Nat.le_of_ble_eq_true rfl), (Nat.le_of_ble_eq_true rfl)⟩ ⟨(by show cells + 1 + 0 ≤ 603072; omega), (by show slots + 6 + 0 ≤ 7194730; omega)⟩ dL_law_2403 (fr_nx rfl) (fun r9 M9 H locs ho9 B => ?_)
  obtain ⟨rfl, rfl⟩ := oi_e ho9
  refine lv_istore (lv' := [(7, .int r5), (6, .int k1), (0, .ref b), (1, .ref (fw_ad X 352)), (2, .ref (fw_ad X 378)), (3, .ref (fw_ad X 386)), (4, .ref (fw_ad X 387)), (5, .int i)]) hx hb dL_law_2406 hl (by decide) rfl (fun ls hl => ?_)
  refine lv_aload_n hx hb dL_law_2408 rfl (lv_at hl 4 rfl) ?_
  obtain ⟨r8, hf7, hF⟩ := bx_e hF
  refine fr_cVi (As := []) (rest := []) C B (cm_X9_thrown hf7) ob_9 rfl yw_X9_thrown wm_L_185 rfl hl.1 rfl (Nat.le_of_ble_eq_true rfl) ⟨(Nat.le_of_ble_eq_true rfl), (Nat.le_of_ble_eq_true rfl)⟩ ⟨(by show cells + 1 + 0 + 0 ≤ 603072; omega), (by show slots + 6 + 0 + 0 ≤ 7194730; omega)⟩ dL_law_2409 (fr_nx rfl) (fun r9 M9 H locs ho9 B => ?_)
  obtain ⟨rfl, rfl⟩ := oi_e ho9
  refine lv_iload hx hb dL_law_2412 (lv_at hl 1 rfl) ?_
  refine lv_icmp_eq (tgt := 2419) hx hb dL_law_2414 (by decide) (fun hc => ?_) (fun hc => ?_)
  · have hF := it_t hF hc
    refine lv_iload hx hb dL_law_2419 (lv_at hl 1 rfl) ?_
    refine lv_if_ne (tgt := 2436) hx hb dL_law_2421 (by decide) (fun hc => ?_) (fun hc => ?_)
    · have hF := it_f hF hc
      refine lv_goto (tgt := 3314) hx hb dL_law_2436 (by decide) ?_
      have hF := Option.some.inj hF
      subst hF
      exact W.widen (by show cells + 1 + 0 + 0 ≤ cells + 30; omega) (by show slots + 6 + 0 + 0 ≤ slots + 3000; omega) (kk H locs ls B (lv_sub hl [2, 3, 4, 5, 6, 7] rfl))
    · have hF := it_t hF hc
      refine lv_aload_n hx hb dL_law_2424 rfl (lv_at hl 5 rfl) ?_
      refine lv_iconst (v := 0) hx hb dL_law_2425 (by decide) ?_
      refine fr_ll C B dL_law_2426 ?_
      refine lv_iload hx hb dL_law_2427 (lv_at hl 0 rfl) ?_
      refine lv_i2l hx hb dL_law_2429 rfl ?_
      refine W.lcmp hx hb dL_law_2430 ?_
      refine lv_if_eq (tgt := 2436) hx hb dL_law_2431 (by decide) (fun hc => ?_) (fun hc => ?_)
      · have hF := it_t hF hc
        refine lv_goto (tgt := 3314) hx hb dL_law_2436 (by decide) ?_
        have hF := Option.some.inj hF
        subst hF
        exact W.widen (by show cells + 1 + 0 + 0 ≤ cells + 30; omega) (by show slots + 6 + 0 + 0 ≤ slots + 3000; omega) (kk H locs ls B (lv_sub hl [2, 3, 4, 5, 6, 7] rfl))
      · have hF := it_f hF hc
        cases hF
  · have hF := it_f hF hc
    cases hF
def F_cs_40 (M : fw_M) (xs : Nat → Int32) (i : Int32) : Option fw_M := bd_p (F_L_distance M (xs (i + 1).toNatClampNeg) (xs (i + 2).toNatClampNeg)) fun k1 M2 => bd_p (F_X9_distance M2 (xs (i + 1).toNatClampNeg) (xs (i + 2).toNatClampNeg)) fun r5 M6 => bd_x (F_X9_thrown M6 ) fun r8 => if r8 = k1 then (if k1 = 0 then (if (lg_cmp ((M6 386 0).toInt64) ((r5 : Int32).toInt64)) = 0 then (some M6) else (none)) else (some M6)) else (none)
set_option maxHeartbeats 4000000 in
set_option maxRecDepth 100000 in
theorem cs_40 (hlt : l.stackTraces = false) (hC : fl_C X p c s m b L xs) {i : Int32} (h1 : vp_in (i + 1) L) (h2 : vp_in (i + 2) L) (h3 : vp_in (i + 3) L) {M M0 : fw_M} {H : Heap} {locs : List Loc} {ls : Array Slot} {cells slots : Nat} (hF : F_cs_40 M xs i = some M0) (B : fr_H X s M H locs) (hl : lv_has ls 9 (fl_lv X b i)) (hcc : cells + 30 ≤ 603072) (hss : slots + 3000 ≤ 7194730) (kk : ∀ (H1 : Heap) (locs1 : List Loc) (ls1 : Array Slot), fr_H X s M0 H1 locs1 → lv_has ls1 9 (fl_lv X b i) → W p l e room_1 s m #[Value.ref b] below meth c H1 locs1 (cells + 30) (slots + 3000) Q (F0 m 3314 ls1 [])) : W p l e room_1 s m #[Value.ref b] below meth c H locs cells slots Q (F0 m 2439 ls []) := by
  have C := hC.1
  have hx := C.1.1
  have hb := C.1.2.1
  have hl : lv_has ls 9 [(0, .ref b), (1, .ref (fw_ad X 352)), (2, .ref (fw_ad X 378)), (3, .ref (fw_ad X 386)), (4, .ref (fw_ad X 387)), (5, .int i)] := hl
  unfold F_cs_40 at hF
  refine lv_aload_n hx hb dL_law_2439 rfl (lv_at hl 1 rfl) ?_
  refine lv_aload_n hx hb dL_law_2440 rfl (lv_at hl 0 rfl) ?_
  refine lv_iload hx hb dL_law_2441 (lv_at hl 5 rfl) ?_
  refine lv_iconst (v := 1) hx hb dL_law_2443 (by decide) ?_
  refine lv_iadd hx hb dL_law_2444 ?_
  refine fl_sld hC B h1 dL_law_2445 ?_
  refine lv_aload_n hx hb dL_law_2446 rfl (lv_at hl 0 rfl) ?_
  refine lv_iload hx hb dL_law_2447 (lv_at hl 5 rfl) ?_
  refine lv_iconst (v := 2) hx hb dL_law_2449 (by decide) ?_
  refine lv_iadd hx hb dL_law_2450 ?_
  refine fl_sld hC B h2 dL_law_2451 ?_
  refine lv_aload_n hx hb dL_law_2452 rfl (lv_at hl 3 rfl) ?_
  obtain ⟨k1, M2, hf3, hF⟩ := bp_e hF
  refine fr_cHi (As := [.ref (fw_ad X 352), .int (xs (i + 1).toNatClampNeg), .int (xs (i + 2).toNatClampNeg), .ref (fw_ad X 386)]) (rest := []) C B (cm_L_distance hlt hf3) yh_L_distance wm_L_315 rfl hl.1 rfl (Nat.le_of_ble_eq_true rfl) ⟨(Nat.le_of_ble_eq_true rfl), (Nat.le_of_ble_eq_true rfl)⟩ ⟨(by show cells + 3 ≤ 603072; omega), (by show slots + 18 ≤ 7194730; omega)⟩ dL_law_2453 (fun H locs B => ?_)
  have B : fr_H X s M2 H locs := B
  refine lv_istore (lv' := [(6, .int k1), (0, .ref b), (1, .ref (fw_ad X 352)), (2, .ref (fw_ad X 378)), (3, .ref (fw_ad X 386)), (4, .ref (fw_ad X 387)), (5, .int i)]) hx hb dL_law_2456 hl (by decide) rfl (fun ls hl => ?_)
  refine lv_aload_n hx hb dL_law_2458 rfl (lv_at hl 3 rfl) ?_
  refine lv_aload_n hx hb dL_law_2459 rfl (lv_at hl 1 rfl) ?_
  refine lv_iload hx hb dL_law_2460 (lv_at hl 6 rfl) ?_
  refine lv_iconst (v := 1) hx hb dL_law_2462 (by decide) ?_
  refine lv_iadd hx hb dL_law_2463 ?_
  refine fl_sld hC B h1 dL_law_2464 ?_
  refine lv_aload_n hx hb dL_law_2465 rfl (lv_at hl 1 rfl) ?_
  refine lv_iload hx hb dL_law_2466 (lv_at hl 6 rfl) ?_
  refine lv_iconst (v := 2) hx hb dL_law_2468 (by decide) ?_
  refine lv_iadd hx hb dL_law_2469 ?_
  refine fl_sld hC B h2 dL_law_2470 ?_
  obtain ⟨r5, M6, hf4, hF⟩ := bp_e hF
  refine fr_cVi (As := [.int (xs (i + 1).toNatClampNeg), .int (xs (i + 2).toNatClampNeg)]) (rest := []) C B (cm_X9_distance hf4) ob_9 rfl yw_X9_distance wm_L_317 rfl hl.1 rfl (Nat.le_of_ble_eq_true rfl) ⟨(Nat.le_of_ble_eq_true rfl), (Nat.le_of_ble_eq_true rfl)⟩ ⟨(by show cells + 3 + 0 ≤ 603072; omega), (by show slots + 18 + 0 ≤ 7194730; omega)⟩ dL_law_2471 (fr_nx rfl) (fun r9 M9 H locs ho9 B => ?_)
  obtain ⟨rfl, rfl⟩ := oi_e ho9
  refine lv_istore (lv' := [(7, .int r5), (6, .int k1), (0, .ref b), (1, .ref (fw_ad X 352)), (2, .ref (fw_ad X 378)), (3, .ref (fw_ad X 386)), (4, .ref (fw_ad X 387)), (5, .int i)]) hx hb dL_law_2474 hl (by decide) rfl (fun ls hl => ?_)
  refine lv_aload_n hx hb dL_law_2476 rfl (lv_at hl 4 rfl) ?_
  obtain ⟨r8, hf7, hF⟩ := bx_e hF
  refine fr_cVi (As := []) (rest := []) C B (cm_X9_thrown hf7) ob_9 rfl yw_X9_thrown wm_L_185 rfl hl.1 rfl (Nat.le_of_ble_eq_true rfl) ⟨(Nat.le_of_ble_eq_true rfl), (Nat.le_of_ble_eq_true rfl)⟩ ⟨(by show cells + 3 + 0 + 0 ≤ 603072; omega), (by show slots + 18 + 0 + 0 ≤ 7194730; omega)⟩ dL_law_2477 (fr_nx rfl) (fun r9 M9 H locs ho9 B => ?_)
  obtain ⟨rfl, rfl⟩ := oi_e ho9
  refine lv_iload hx hb dL_law_2480 (lv_at hl 1 rfl) ?_
  refine lv_icmp_eq (tgt := 2487) hx hb dL_law_2482 (by decide) (fun hc => ?_) (fun hc => ?_)
  · have hF := it_t hF hc
    refine lv_iload hx hb dL_law_2487 (lv_at hl 1 rfl) ?_
    refine lv_if_ne (tgt := 2504) hx hb dL_law_2489 (by decide) (fun hc => ?_) (fun hc => ?_)
    · have hF := it_f hF hc
      refine lv_goto (tgt := 3314) hx hb dL_law_2504 (by decide) ?_
      have hF := Option.some.inj hF
      subst hF
      exact W.widen (by show cells + 3 + 0 + 0 ≤ cells + 30; omega) (by show slots + 18 + 0 + 0 ≤ slots + 3000; omega) (kk H locs ls B (lv_sub hl [2, 3, 4, 5, 6, 7] rfl))
    · have hF := it_t hF hc
      refine lv_aload_n hx hb dL_law_2492 rfl (lv_at hl 5 rfl) ?_
      refine lv_iconst (v := 0) hx hb dL_law_2493 (by decide) ?_
      refine fr_ll C B dL_law_2494 ?_
      refine lv_iload hx hb dL_law_2495 (lv_at hl 0 rfl) ?_
      refine lv_i2l hx hb dL_law_2497 rfl ?_
      refine W.lcmp hx hb dL_law_2498 ?_
      refine lv_if_eq (tgt := 2504) hx hb dL_law_2499 (by decide) (fun hc => ?_) (fun hc => ?_)
      · have hF := it_t hF hc
        refine lv_goto (tgt := 3314) hx hb dL_law_2504 (by decide) ?_
        have hF := Option.some.inj hF
        subst hF
        exact W.widen (by show cells + 3 + 0 + 0 ≤ cells + 30; omega) (by show slots + 18 + 0 + 0 ≤ slots + 3000; omega) (kk H locs ls B (lv_sub hl [2, 3, 4, 5, 6, 7] rfl))
      · have hF := it_f hF hc
        cases hF
  · have hF := it_f hF hc
    cases hF
def F_cs_41 (M : fw_M) (xs : Nat → Int32) (i : Int32) : Option fw_M := bd_p (F_L_distanceByRelaxation M (xs (i + 1).toNatClampNeg) (xs (i + 2).toNatClampNeg)) fun k1 M2 => bd_p (F_X9_distanceByRelaxation M2 (xs (i + 1).toNatClampNeg) (xs (i + 2).toNatClampNeg)) fun r5 M6 => bd_x (F_X9_thrown M6 ) fun r8 => if r8 = k1 then (if k1 = 0 then (if (lg_cmp ((M6 386 0).toInt64) ((r5 : Int32).toInt64)) = 0 then (some M6) else (none)) else (some M6)) else (none)
set_option maxHeartbeats 4000000 in
set_option maxRecDepth 100000 in
theorem cs_41 (hlt : l.stackTraces = false) (hC : fl_C X p c s m b L xs) {i : Int32} (h1 : vp_in (i + 1) L) (h2 : vp_in (i + 2) L) (h3 : vp_in (i + 3) L) {M M0 : fw_M} {H : Heap} {locs : List Loc} {ls : Array Slot} {cells slots : Nat} (hF : F_cs_41 M xs i = some M0) (B : fr_H X s M H locs) (hl : lv_has ls 9 (fl_lv X b i)) (hcc : cells + 30 ≤ 603072) (hss : slots + 3000 ≤ 7194730) (kk : ∀ (H1 : Heap) (locs1 : List Loc) (ls1 : Array Slot), fr_H X s M0 H1 locs1 → lv_has ls1 9 (fl_lv X b i) → W p l e room_1 s m #[Value.ref b] below meth c H1 locs1 (cells + 30) (slots + 3000) Q (F0 m 3314 ls1 [])) : W p l e room_1 s m #[Value.ref b] below meth c H locs cells slots Q (F0 m 2507 ls []) := by
  have C := hC.1
  have hx := C.1.1
  have hb := C.1.2.1
  have hl : lv_has ls 9 [(0, .ref b), (1, .ref (fw_ad X 352)), (2, .ref (fw_ad X 378)), (3, .ref (fw_ad X 386)), (4, .ref (fw_ad X 387)), (5, .int i)] := hl
  unfold F_cs_41 at hF
  refine lv_aload_n hx hb dL_law_2507 rfl (lv_at hl 1 rfl) ?_
  refine lv_aload_n hx hb dL_law_2508 rfl (lv_at hl 0 rfl) ?_
  refine lv_iload hx hb dL_law_2509 (lv_at hl 5 rfl) ?_
  refine lv_iconst (v := 1) hx hb dL_law_2511 (by decide) ?_
  refine lv_iadd hx hb dL_law_2512 ?_
  refine fl_sld hC B h1 dL_law_2513 ?_
  refine lv_aload_n hx hb dL_law_2514 rfl (lv_at hl 0 rfl) ?_
  refine lv_iload hx hb dL_law_2515 (lv_at hl 5 rfl) ?_
  refine lv_iconst (v := 2) hx hb dL_law_2517 (by decide) ?_
  refine lv_iadd hx hb dL_law_2518 ?_
  refine fl_sld hC B h2 dL_law_2519 ?_
  refine lv_aload_n hx hb dL_law_2520 rfl (lv_at hl 3 rfl) ?_
  obtain ⟨k1, M2, hf3, hF⟩ := bp_e hF
  refine fr_cHi (As := [.ref (fw_ad X 352), .int (xs (i + 1).toNatClampNeg), .int (xs (i + 2).toNatClampNeg), .ref (fw_ad X 386)]) (rest := []) C B (cm_L_distanceByRelaxation hlt hf3) yh_L_distanceByRelaxation wm_L_318 rfl hl.1 rfl (Nat.le_of_ble_eq_true rfl) ⟨(Nat.le_of_ble_eq_true rfl), (Nat.le_of_ble_eq_true rfl)⟩ ⟨(by show cells + 3 ≤ 603072; omega), (by show slots + 18 ≤ 7194730; omega)⟩ dL_law_2521 (fun H locs B => ?_)
  have B : fr_H X s M2 H locs := B
  refine lv_istore (lv' := [(6, .int k1), (0, .ref b), (1, .ref (fw_ad X 352)), (2, .ref (fw_ad X 378)), (3, .ref (fw_ad X 386)), (4, .ref (fw_ad X 387)), (5, .int i)]) hx hb dL_law_2524 hl (by decide) rfl (fun ls hl => ?_)
  refine lv_aload_n hx hb dL_law_2526 rfl (lv_at hl 3 rfl) ?_
  refine lv_aload_n hx hb dL_law_2527 rfl (lv_at hl 1 rfl) ?_
  refine lv_iload hx hb dL_law_2528 (lv_at hl 6 rfl) ?_
  refine lv_iconst (v := 1) hx hb dL_law_2530 (by decide) ?_
  refine lv_iadd hx hb dL_law_2531 ?_
  refine fl_sld hC B h1 dL_law_2532 ?_
  refine lv_aload_n hx hb dL_law_2533 rfl (lv_at hl 1 rfl) ?_
  refine lv_iload hx hb dL_law_2534 (lv_at hl 6 rfl) ?_
  refine lv_iconst (v := 2) hx hb dL_law_2536 (by decide) ?_
  refine lv_iadd hx hb dL_law_2537 ?_
  refine fl_sld hC B h2 dL_law_2538 ?_
  obtain ⟨r5, M6, hf4, hF⟩ := bp_e hF
  refine fr_cVi (As := [.int (xs (i + 1).toNatClampNeg), .int (xs (i + 2).toNatClampNeg)]) (rest := []) C B (cm_X9_distanceByRelaxation hf4) ob_9 rfl yw_X9_distanceByRelaxation wm_L_320 rfl hl.1 rfl (Nat.le_of_ble_eq_true rfl) ⟨(Nat.le_of_ble_eq_true rfl), (Nat.le_of_ble_eq_true rfl)⟩ ⟨(by show cells + 3 + 0 ≤ 603072; omega), (by show slots + 18 + 0 ≤ 7194730; omega)⟩ dL_law_2539 (fr_nx rfl) (fun r9 M9 H locs ho9 B => ?_)
  obtain ⟨rfl, rfl⟩ := oi_e ho9
  refine lv_istore (lv' := [(7, .int r5), (6, .int k1), (0, .ref b), (1, .ref (fw_ad X 352)), (2, .ref (fw_ad X 378)), (3, .ref (fw_ad X 386)), (4, .ref (fw_ad X 387)), (5, .int i)]) hx hb dL_law_2542 hl (by decide) rfl (fun ls hl => ?_)
  refine lv_aload_n hx hb dL_law_2544 rfl (lv_at hl 4 rfl) ?_
  obtain ⟨r8, hf7, hF⟩ := bx_e hF
  refine fr_cVi (As := []) (rest := []) C B (cm_X9_thrown hf7) ob_9 rfl yw_X9_thrown wm_L_185 rfl hl.1 rfl (Nat.le_of_ble_eq_true rfl) ⟨(Nat.le_of_ble_eq_true rfl), (Nat.le_of_ble_eq_true rfl)⟩ ⟨(by show cells + 3 + 0 + 0 ≤ 603072; omega), (by show slots + 18 + 0 + 0 ≤ 7194730; omega)⟩ dL_law_2545 (fr_nx rfl) (fun r9 M9 H locs ho9 B => ?_)
  obtain ⟨rfl, rfl⟩ := oi_e ho9
  refine lv_iload hx hb dL_law_2548 (lv_at hl 1 rfl) ?_
  refine lv_icmp_eq (tgt := 2555) hx hb dL_law_2550 (by decide) (fun hc => ?_) (fun hc => ?_)
  · have hF := it_t hF hc
    refine lv_iload hx hb dL_law_2555 (lv_at hl 1 rfl) ?_
    refine lv_if_ne (tgt := 2572) hx hb dL_law_2557 (by decide) (fun hc => ?_) (fun hc => ?_)
    · have hF := it_f hF hc
      refine lv_goto (tgt := 3314) hx hb dL_law_2572 (by decide) ?_
      have hF := Option.some.inj hF
      subst hF
      exact W.widen (by show cells + 3 + 0 + 0 ≤ cells + 30; omega) (by show slots + 18 + 0 + 0 ≤ slots + 3000; omega) (kk H locs ls B (lv_sub hl [2, 3, 4, 5, 6, 7] rfl))
    · have hF := it_t hF hc
      refine lv_aload_n hx hb dL_law_2560 rfl (lv_at hl 5 rfl) ?_
      refine lv_iconst (v := 0) hx hb dL_law_2561 (by decide) ?_
      refine fr_ll C B dL_law_2562 ?_
      refine lv_iload hx hb dL_law_2563 (lv_at hl 0 rfl) ?_
      refine lv_i2l hx hb dL_law_2565 rfl ?_
      refine W.lcmp hx hb dL_law_2566 ?_
      refine lv_if_eq (tgt := 2572) hx hb dL_law_2567 (by decide) (fun hc => ?_) (fun hc => ?_)
      · have hF := it_t hF hc
        refine lv_goto (tgt := 3314) hx hb dL_law_2572 (by decide) ?_
        have hF := Option.some.inj hF
        subst hF
        exact W.widen (by show cells + 3 + 0 + 0 ≤ cells + 30; omega) (by show slots + 18 + 0 + 0 ≤ slots + 3000; omega) (kk H locs ls B (lv_sub hl [2, 3, 4, 5, 6, 7] rfl))
      · have hF := it_f hF hc
        cases hF
  · have hF := it_f hF hc
    cases hF
def F_cs_42 (M : fw_M) (xs : Nat → Int32) (i : Int32) : Option fw_M := bd_p (F_L_changes M (xs (i + 1).toNatClampNeg) (xs (i + 2).toNatClampNeg)) fun k1 M2 => bd_p (F_X9_changes M2 (xs (i + 1).toNatClampNeg) (xs (i + 2).toNatClampNeg)) fun r5 M6 => bd_x (F_X9_thrown M6 ) fun r8 => if r8 = k1 then (if k1 = 0 then (if (lg_cmp ((M6 386 0).toInt64) ((r5 : Int32).toInt64)) = 0 then (some M6) else (none)) else (some M6)) else (none)
set_option maxHeartbeats 4000000 in
set_option maxRecDepth 100000 in
theorem cs_42 (hlt : l.stackTraces = false) (hC : fl_C X p c s m b L xs) {i : Int32} (h1 : vp_in (i + 1) L) (h2 : vp_in (i + 2) L) (h3 : vp_in (i + 3) L) {M M0 : fw_M} {H : Heap} {locs : List Loc} {ls : Array Slot} {cells slots : Nat} (hF : F_cs_42 M xs i = some M0) (B : fr_H X s M H locs) (hl : lv_has ls 9 (fl_lv X b i)) (hcc : cells + 30 ≤ 603072) (hss : slots + 3000 ≤ 7194730) (kk : ∀ (H1 : Heap) (locs1 : List Loc) (ls1 : Array Slot), fr_H X s M0 H1 locs1 → lv_has ls1 9 (fl_lv X b i) → W p l e room_1 s m #[Value.ref b] below meth c H1 locs1 (cells + 30) (slots + 3000) Q (F0 m 3314 ls1 [])) : W p l e room_1 s m #[Value.ref b] below meth c H locs cells slots Q (F0 m 2575 ls []) := by
  have C := hC.1
  have hx := C.1.1
  have hb := C.1.2.1
  have hl : lv_has ls 9 [(0, .ref b), (1, .ref (fw_ad X 352)), (2, .ref (fw_ad X 378)), (3, .ref (fw_ad X 386)), (4, .ref (fw_ad X 387)), (5, .int i)] := hl
  unfold F_cs_42 at hF
  refine lv_aload_n hx hb dL_law_2575 rfl (lv_at hl 1 rfl) ?_
  refine lv_aload_n hx hb dL_law_2576 rfl (lv_at hl 0 rfl) ?_
  refine lv_iload hx hb dL_law_2577 (lv_at hl 5 rfl) ?_
  refine lv_iconst (v := 1) hx hb dL_law_2579 (by decide) ?_
  refine lv_iadd hx hb dL_law_2580 ?_
  refine fl_sld hC B h1 dL_law_2581 ?_
  refine lv_aload_n hx hb dL_law_2582 rfl (lv_at hl 0 rfl) ?_
  refine lv_iload hx hb dL_law_2583 (lv_at hl 5 rfl) ?_
  refine lv_iconst (v := 2) hx hb dL_law_2585 (by decide) ?_
  refine lv_iadd hx hb dL_law_2586 ?_
  refine fl_sld hC B h2 dL_law_2587 ?_
  refine lv_aload_n hx hb dL_law_2588 rfl (lv_at hl 3 rfl) ?_
  obtain ⟨k1, M2, hf3, hF⟩ := bp_e hF
  refine fr_cHi (As := [.ref (fw_ad X 352), .int (xs (i + 1).toNatClampNeg), .int (xs (i + 2).toNatClampNeg), .ref (fw_ad X 386)]) (rest := []) C B (cm_L_changes hlt hf3) yh_L_changes wm_L_321 rfl hl.1 rfl (Nat.le_of_ble_eq_true rfl) ⟨(Nat.le_of_ble_eq_true rfl), (Nat.le_of_ble_eq_true rfl)⟩ ⟨(by show cells + 3 ≤ 603072; omega), (by show slots + 18 ≤ 7194730; omega)⟩ dL_law_2589 (fun H locs B => ?_)
  have B : fr_H X s M2 H locs := B
  refine lv_istore (lv' := [(6, .int k1), (0, .ref b), (1, .ref (fw_ad X 352)), (2, .ref (fw_ad X 378)), (3, .ref (fw_ad X 386)), (4, .ref (fw_ad X 387)), (5, .int i)]) hx hb dL_law_2592 hl (by decide) rfl (fun ls hl => ?_)
  refine lv_aload_n hx hb dL_law_2594 rfl (lv_at hl 3 rfl) ?_
  refine lv_aload_n hx hb dL_law_2595 rfl (lv_at hl 1 rfl) ?_
  refine lv_iload hx hb dL_law_2596 (lv_at hl 6 rfl) ?_
  refine lv_iconst (v := 1) hx hb dL_law_2598 (by decide) ?_
  refine lv_iadd hx hb dL_law_2599 ?_
  refine fl_sld hC B h1 dL_law_2600 ?_
  refine lv_aload_n hx hb dL_law_2601 rfl (lv_at hl 1 rfl) ?_
  refine lv_iload hx hb dL_law_2602 (lv_at hl 6 rfl) ?_
  refine lv_iconst (v := 2) hx hb dL_law_2604 (by decide) ?_
  refine lv_iadd hx hb dL_law_2605 ?_
  refine fl_sld hC B h2 dL_law_2606 ?_
  obtain ⟨r5, M6, hf4, hF⟩ := bp_e hF
  refine fr_cVi (As := [.int (xs (i + 1).toNatClampNeg), .int (xs (i + 2).toNatClampNeg)]) (rest := []) C B (cm_X9_changes hf4) ob_9 rfl yw_X9_changes wm_L_323 rfl hl.1 rfl (Nat.le_of_ble_eq_true rfl) ⟨(Nat.le_of_ble_eq_true rfl), (Nat.le_of_ble_eq_true rfl)⟩ ⟨(by show cells + 3 + 0 ≤ 603072; omega), (by show slots + 18 + 0 ≤ 7194730; omega)⟩ dL_law_2607 (fr_nx rfl) (fun r9 M9 H locs ho9 B => ?_)
  obtain ⟨rfl, rfl⟩ := oi_e ho9
  refine lv_istore (lv' := [(7, .int r5), (6, .int k1), (0, .ref b), (1, .ref (fw_ad X 352)), (2, .ref (fw_ad X 378)), (3, .ref (fw_ad X 386)), (4, .ref (fw_ad X 387)), (5, .int i)]) hx hb dL_law_2610 hl (by decide) rfl (fun ls hl => ?_)
  refine lv_aload_n hx hb dL_law_2612 rfl (lv_at hl 4 rfl) ?_
  obtain ⟨r8, hf7, hF⟩ := bx_e hF
  refine fr_cVi (As := []) (rest := []) C B (cm_X9_thrown hf7) ob_9 rfl yw_X9_thrown wm_L_185 rfl hl.1 rfl (Nat.le_of_ble_eq_true rfl) ⟨(Nat.le_of_ble_eq_true rfl), (Nat.le_of_ble_eq_true rfl)⟩ ⟨(by show cells + 3 + 0 + 0 ≤ 603072; omega), (by show slots + 18 + 0 + 0 ≤ 7194730; omega)⟩ dL_law_2613 (fr_nx rfl) (fun r9 M9 H locs ho9 B => ?_)
  obtain ⟨rfl, rfl⟩ := oi_e ho9
  refine lv_iload hx hb dL_law_2616 (lv_at hl 1 rfl) ?_
  refine lv_icmp_eq (tgt := 2623) hx hb dL_law_2618 (by decide) (fun hc => ?_) (fun hc => ?_)
  · have hF := it_t hF hc
    refine lv_iload hx hb dL_law_2623 (lv_at hl 1 rfl) ?_
    refine lv_if_ne (tgt := 2640) hx hb dL_law_2625 (by decide) (fun hc => ?_) (fun hc => ?_)
    · have hF := it_f hF hc
      refine lv_goto (tgt := 3314) hx hb dL_law_2640 (by decide) ?_
      have hF := Option.some.inj hF
      subst hF
      exact W.widen (by show cells + 3 + 0 + 0 ≤ cells + 30; omega) (by show slots + 18 + 0 + 0 ≤ slots + 3000; omega) (kk H locs ls B (lv_sub hl [2, 3, 4, 5, 6, 7] rfl))
    · have hF := it_t hF hc
      refine lv_aload_n hx hb dL_law_2628 rfl (lv_at hl 5 rfl) ?_
      refine lv_iconst (v := 0) hx hb dL_law_2629 (by decide) ?_
      refine fr_ll C B dL_law_2630 ?_
      refine lv_iload hx hb dL_law_2631 (lv_at hl 0 rfl) ?_
      refine lv_i2l hx hb dL_law_2633 rfl ?_
      refine W.lcmp hx hb dL_law_2634 ?_
      refine lv_if_eq (tgt := 2640) hx hb dL_law_2635 (by decide) (fun hc => ?_) (fun hc => ?_)
      · have hF := it_t hF hc
        refine lv_goto (tgt := 3314) hx hb dL_law_2640 (by decide) ?_
        have hF := Option.some.inj hF
        subst hF
        exact W.widen (by show cells + 3 + 0 + 0 ≤ cells + 30; omega) (by show slots + 18 + 0 + 0 ≤ slots + 3000; omega) (kk H locs ls B (lv_sub hl [2, 3, 4, 5, 6, 7] rfl))
      · have hF := it_f hF hc
        cases hF
  · have hF := it_f hF hc
    cases hF
def F_cs_43 (M : fw_M) (xs : Nat → Int32) (i : Int32) : Option fw_M := bd_p (F_L_changesByGrowth M (xs (i + 1).toNatClampNeg) (xs (i + 2).toNatClampNeg)) fun k1 M2 => bd_p (F_X9_changesByGrowth M2 (xs (i + 1).toNatClampNeg) (xs (i + 2).toNatClampNeg)) fun r5 M6 => bd_x (F_X9_thrown M6 ) fun r8 => if r8 = k1 then (if k1 = 0 then (if (lg_cmp ((M6 386 0).toInt64) ((r5 : Int32).toInt64)) = 0 then (some M6) else (none)) else (some M6)) else (none)
set_option maxHeartbeats 4000000 in
set_option maxRecDepth 100000 in
theorem cs_43 (hlt : l.stackTraces = false) (hC : fl_C X p c s m b L xs) {i : Int32} (h1 : vp_in (i + 1) L) (h2 : vp_in (i + 2) L) (h3 : vp_in (i + 3) L) {M M0 : fw_M} {H : Heap} {locs : List Loc} {ls : Array Slot} {cells slots : Nat} (hF : F_cs_43 M xs i = some M0) (B : fr_H X s M H locs) (hl : lv_has ls 9 (fl_lv X b i)) (hcc : cells + 30 ≤ 603072) (hss : slots + 3000 ≤ 7194730) (kk : ∀ (H1 : Heap) (locs1 : List Loc) (ls1 : Array Slot), fr_H X s M0 H1 locs1 → lv_has ls1 9 (fl_lv X b i) → W p l e room_1 s m #[Value.ref b] below meth c H1 locs1 (cells + 30) (slots + 3000) Q (F0 m 3314 ls1 [])) : W p l e room_1 s m #[Value.ref b] below meth c H locs cells slots Q (F0 m 2643 ls []) := by
  have C := hC.1
  have hx := C.1.1
  have hb := C.1.2.1
  have hl : lv_has ls 9 [(0, .ref b), (1, .ref (fw_ad X 352)), (2, .ref (fw_ad X 378)), (3, .ref (fw_ad X 386)), (4, .ref (fw_ad X 387)), (5, .int i)] := hl
  unfold F_cs_43 at hF
  refine lv_aload_n hx hb dL_law_2643 rfl (lv_at hl 1 rfl) ?_
  refine lv_aload_n hx hb dL_law_2644 rfl (lv_at hl 0 rfl) ?_
  refine lv_iload hx hb dL_law_2645 (lv_at hl 5 rfl) ?_
  refine lv_iconst (v := 1) hx hb dL_law_2647 (by decide) ?_
  refine lv_iadd hx hb dL_law_2648 ?_
  refine fl_sld hC B h1 dL_law_2649 ?_
  refine lv_aload_n hx hb dL_law_2650 rfl (lv_at hl 0 rfl) ?_
  refine lv_iload hx hb dL_law_2651 (lv_at hl 5 rfl) ?_
  refine lv_iconst (v := 2) hx hb dL_law_2653 (by decide) ?_
  refine lv_iadd hx hb dL_law_2654 ?_
  refine fl_sld hC B h2 dL_law_2655 ?_
  refine lv_aload_n hx hb dL_law_2656 rfl (lv_at hl 3 rfl) ?_
  obtain ⟨k1, M2, hf3, hF⟩ := bp_e hF
  refine fr_cHi (As := [.ref (fw_ad X 352), .int (xs (i + 1).toNatClampNeg), .int (xs (i + 2).toNatClampNeg), .ref (fw_ad X 386)]) (rest := []) C B (cm_L_changesByGrowth hlt hf3) yh_L_changesByGrowth wm_L_324 rfl hl.1 rfl (Nat.le_of_ble_eq_true rfl) ⟨(Nat.le_of_ble_eq_true rfl), (Nat.le_of_ble_eq_true rfl)⟩ ⟨(by show cells + 3 ≤ 603072; omega), (by show slots + 18 ≤ 7194730; omega)⟩ dL_law_2657 (fun H locs B => ?_)
  have B : fr_H X s M2 H locs := B
  refine lv_istore (lv' := [(6, .int k1), (0, .ref b), (1, .ref (fw_ad X 352)), (2, .ref (fw_ad X 378)), (3, .ref (fw_ad X 386)), (4, .ref (fw_ad X 387)), (5, .int i)]) hx hb dL_law_2660 hl (by decide) rfl (fun ls hl => ?_)
  refine lv_aload_n hx hb dL_law_2662 rfl (lv_at hl 3 rfl) ?_
  refine lv_aload_n hx hb dL_law_2663 rfl (lv_at hl 1 rfl) ?_
  refine lv_iload hx hb dL_law_2664 (lv_at hl 6 rfl) ?_
  refine lv_iconst (v := 1) hx hb dL_law_2666 (by decide) ?_
  refine lv_iadd hx hb dL_law_2667 ?_
  refine fl_sld hC B h1 dL_law_2668 ?_
  refine lv_aload_n hx hb dL_law_2669 rfl (lv_at hl 1 rfl) ?_
  refine lv_iload hx hb dL_law_2670 (lv_at hl 6 rfl) ?_
  refine lv_iconst (v := 2) hx hb dL_law_2672 (by decide) ?_
  refine lv_iadd hx hb dL_law_2673 ?_
  refine fl_sld hC B h2 dL_law_2674 ?_
  obtain ⟨r5, M6, hf4, hF⟩ := bp_e hF
  refine fr_cVi (As := [.int (xs (i + 1).toNatClampNeg), .int (xs (i + 2).toNatClampNeg)]) (rest := []) C B (cm_X9_changesByGrowth hf4) ob_9 rfl yw_X9_changesByGrowth wm_L_326 rfl hl.1 rfl (Nat.le_of_ble_eq_true rfl) ⟨(Nat.le_of_ble_eq_true rfl), (Nat.le_of_ble_eq_true rfl)⟩ ⟨(by show cells + 3 + 0 ≤ 603072; omega), (by show slots + 18 + 0 ≤ 7194730; omega)⟩ dL_law_2675 (fr_nx rfl) (fun r9 M9 H locs ho9 B => ?_)
  obtain ⟨rfl, rfl⟩ := oi_e ho9
  refine lv_istore (lv' := [(7, .int r5), (6, .int k1), (0, .ref b), (1, .ref (fw_ad X 352)), (2, .ref (fw_ad X 378)), (3, .ref (fw_ad X 386)), (4, .ref (fw_ad X 387)), (5, .int i)]) hx hb dL_law_2678 hl (by decide) rfl (fun ls hl => ?_)
  refine lv_aload_n hx hb dL_law_2680 rfl (lv_at hl 4 rfl) ?_
  obtain ⟨r8, hf7, hF⟩ := bx_e hF
  refine fr_cVi (As := []) (rest := []) C B (cm_X9_thrown hf7) ob_9 rfl yw_X9_thrown wm_L_185 rfl hl.1 rfl (Nat.le_of_ble_eq_true rfl) ⟨(Nat.le_of_ble_eq_true rfl), (Nat.le_of_ble_eq_true rfl)⟩ ⟨(by show cells + 3 + 0 + 0 ≤ 603072; omega), (by show slots + 18 + 0 + 0 ≤ 7194730; omega)⟩ dL_law_2681 (fr_nx rfl) (fun r9 M9 H locs ho9 B => ?_)
  obtain ⟨rfl, rfl⟩ := oi_e ho9
  refine lv_iload hx hb dL_law_2684 (lv_at hl 1 rfl) ?_
  refine lv_icmp_eq (tgt := 2691) hx hb dL_law_2686 (by decide) (fun hc => ?_) (fun hc => ?_)
  · have hF := it_t hF hc
    refine lv_iload hx hb dL_law_2691 (lv_at hl 1 rfl) ?_
    refine lv_if_ne (tgt := 2708) hx hb dL_law_2693 (by decide) (fun hc => ?_) (fun hc => ?_)
    · have hF := it_f hF hc
      refine lv_goto (tgt := 3314) hx hb dL_law_2708 (by decide) ?_
      have hF := Option.some.inj hF
      subst hF
      exact W.widen (by show cells + 3 + 0 + 0 ≤ cells + 30; omega) (by show slots + 18 + 0 + 0 ≤ slots + 3000; omega) (kk H locs ls B (lv_sub hl [2, 3, 4, 5, 6, 7] rfl))
    · have hF := it_t hF hc
      refine lv_aload_n hx hb dL_law_2696 rfl (lv_at hl 5 rfl) ?_
      refine lv_iconst (v := 0) hx hb dL_law_2697 (by decide) ?_
      refine fr_ll C B dL_law_2698 ?_
      refine lv_iload hx hb dL_law_2699 (lv_at hl 0 rfl) ?_
      refine lv_i2l hx hb dL_law_2701 rfl ?_
      refine W.lcmp hx hb dL_law_2702 ?_
      refine lv_if_eq (tgt := 2708) hx hb dL_law_2703 (by decide) (fun hc => ?_) (fun hc => ?_)
      · have hF := it_t hF hc
        refine lv_goto (tgt := 3314) hx hb dL_law_2708 (by decide) ?_
        have hF := Option.some.inj hF
        subst hF
        exact W.widen (by show cells + 3 + 0 + 0 ≤ cells + 30; omega) (by show slots + 18 + 0 + 0 ≤ slots + 3000; omega) (kk H locs ls B (lv_sub hl [2, 3, 4, 5, 6, 7] rfl))
      · have hF := it_f hF hc
        cases hF
  · have hF := it_f hF hc
    cases hF
def F_cs_44 (M : fw_M) (xs : Nat → Int32) (i : Int32) : Option fw_M := bd_p (F_L_writeLine M (xs (i + 1).toNatClampNeg)) fun k1 M2 => bd_p (F_X9_writeLine M2 (xs (i + 1).toNatClampNeg)) fun r5 M6 => bd_x (F_X9_thrown M6 ) fun r8 => if r8 = k1 then (if k1 = 0 then (if (lg_cmp ((M6 386 0).toInt64) ((r5 : Int32).toInt64)) = 0 then (some M6) else (none)) else (some M6)) else (none)
set_option maxHeartbeats 4000000 in
set_option maxRecDepth 100000 in
theorem cs_44 (hlt : l.stackTraces = false) (hC : fl_C X p c s m b L xs) {i : Int32} (h1 : vp_in (i + 1) L) (h2 : vp_in (i + 2) L) (h3 : vp_in (i + 3) L) {M M0 : fw_M} {H : Heap} {locs : List Loc} {ls : Array Slot} {cells slots : Nat} (hF : F_cs_44 M xs i = some M0) (B : fr_H X s M H locs) (hl : lv_has ls 9 (fl_lv X b i)) (hcc : cells + 30 ≤ 603072) (hss : slots + 3000 ≤ 7194730) (kk : ∀ (H1 : Heap) (locs1 : List Loc) (ls1 : Array Slot), fr_H X s M0 H1 locs1 → lv_has ls1 9 (fl_lv X b i) → W p l e room_1 s m #[Value.ref b] below meth c H1 locs1 (cells + 30) (slots + 3000) Q (F0 m 3314 ls1 [])) : W p l e room_1 s m #[Value.ref b] below meth c H locs cells slots Q (F0 m 2711 ls []) := by
  have C := hC.1
  have hx := C.1.1
  have hb := C.1.2.1
  have hl : lv_has ls 9 [(0, .ref b), (1, .ref (fw_ad X 352)), (2, .ref (fw_ad X 378)), (3, .ref (fw_ad X 386)), (4, .ref (fw_ad X 387)), (5, .int i)] := hl
  unfold F_cs_44 at hF
  refine lv_aload_n hx hb dL_law_2711 rfl (lv_at hl 1 rfl) ?_
  refine lv_aload_n hx hb dL_law_2712 rfl (lv_at hl 0 rfl) ?_
  refine lv_iload hx hb dL_law_2713 (lv_at hl 5 rfl) ?_
  refine lv_iconst (v := 1) hx hb dL_law_2715 (by decide) ?_
  refine lv_iadd hx hb dL_law_2716 ?_
  refine fl_sld hC B h1 dL_law_2717 ?_
  refine lv_aload_n hx hb dL_law_2718 rfl (lv_at hl 3 rfl) ?_
  obtain ⟨k1, M2, hf3, hF⟩ := bp_e hF
  refine fr_cHi (As := [.ref (fw_ad X 352), .int (xs (i + 1).toNatClampNeg), .ref (fw_ad X 386)]) (rest := []) C B (cm_L_writeLine hlt hf3) yh_L_writeLine wm_L_327 rfl hl.1 rfl (Nat.le_of_ble_eq_true rfl) ⟨(Nat.le_of_ble_eq_true rfl), (Nat.le_of_ble_eq_true rfl)⟩ ⟨(by show cells + 18 ≤ 603072; omega), (by show slots + 1706 ≤ 7194730; omega)⟩ dL_law_2719 (fun H locs B => ?_)
  have B : fr_H X s M2 H locs := B
  refine lv_istore (lv' := [(6, .int k1), (0, .ref b), (1, .ref (fw_ad X 352)), (2, .ref (fw_ad X 378)), (3, .ref (fw_ad X 386)), (4, .ref (fw_ad X 387)), (5, .int i)]) hx hb dL_law_2722 hl (by decide) rfl (fun ls hl => ?_)
  refine lv_aload_n hx hb dL_law_2724 rfl (lv_at hl 3 rfl) ?_
  refine lv_aload_n hx hb dL_law_2725 rfl (lv_at hl 1 rfl) ?_
  refine lv_iload hx hb dL_law_2726 (lv_at hl 6 rfl) ?_
  refine lv_iconst (v := 1) hx hb dL_law_2728 (by decide) ?_
  refine lv_iadd hx hb dL_law_2729 ?_
  refine fl_sld hC B h1 dL_law_2730 ?_
  obtain ⟨r5, M6, hf4, hF⟩ := bp_e hF
  refine fr_cVi (As := [.int (xs (i + 1).toNatClampNeg)]) (rest := []) C B (cm_X9_writeLine hf4) ob_9 rfl yw_X9_writeLine wm_L_329 rfl hl.1 rfl (Nat.le_of_ble_eq_true rfl) ⟨(Nat.le_of_ble_eq_true rfl), (Nat.le_of_ble_eq_true rfl)⟩ ⟨(by show cells + 18 + 0 ≤ 603072; omega), (by show slots + 1706 + 0 ≤ 7194730; omega)⟩ dL_law_2731 (fr_nx rfl) (fun r9 M9 H locs ho9 B => ?_)
  obtain ⟨rfl, rfl⟩ := oi_e ho9
  refine lv_istore (lv' := [(7, .int r5), (6, .int k1), (0, .ref b), (1, .ref (fw_ad X 352)), (2, .ref (fw_ad X 378)), (3, .ref (fw_ad X 386)), (4, .ref (fw_ad X 387)), (5, .int i)]) hx hb dL_law_2734 hl (by decide) rfl (fun ls hl => ?_)
  refine lv_aload_n hx hb dL_law_2736 rfl (lv_at hl 4 rfl) ?_
  obtain ⟨r8, hf7, hF⟩ := bx_e hF
  refine fr_cVi (As := []) (rest := []) C B (cm_X9_thrown hf7) ob_9 rfl yw_X9_thrown wm_L_185 rfl hl.1 rfl (Nat.le_of_ble_eq_true rfl) ⟨(Nat.le_of_ble_eq_true rfl), (Nat.le_of_ble_eq_true rfl)⟩ ⟨(by show cells + 18 + 0 + 0 ≤ 603072; omega), (by show slots + 1706 + 0 + 0 ≤ 7194730; omega)⟩ dL_law_2737 (fr_nx rfl) (fun r9 M9 H locs ho9 B => ?_)
  obtain ⟨rfl, rfl⟩ := oi_e ho9
  refine lv_iload hx hb dL_law_2740 (lv_at hl 1 rfl) ?_
  refine lv_icmp_eq (tgt := 2747) hx hb dL_law_2742 (by decide) (fun hc => ?_) (fun hc => ?_)
  · have hF := it_t hF hc
    refine lv_iload hx hb dL_law_2747 (lv_at hl 1 rfl) ?_
    refine lv_if_ne (tgt := 2764) hx hb dL_law_2749 (by decide) (fun hc => ?_) (fun hc => ?_)
    · have hF := it_f hF hc
      refine lv_goto (tgt := 3314) hx hb dL_law_2764 (by decide) ?_
      have hF := Option.some.inj hF
      subst hF
      exact W.widen (by show cells + 18 + 0 + 0 ≤ cells + 30; omega) (by show slots + 1706 + 0 + 0 ≤ slots + 3000; omega) (kk H locs ls B (lv_sub hl [2, 3, 4, 5, 6, 7] rfl))
    · have hF := it_t hF hc
      refine lv_aload_n hx hb dL_law_2752 rfl (lv_at hl 5 rfl) ?_
      refine lv_iconst (v := 0) hx hb dL_law_2753 (by decide) ?_
      refine fr_ll C B dL_law_2754 ?_
      refine lv_iload hx hb dL_law_2755 (lv_at hl 0 rfl) ?_
      refine lv_i2l hx hb dL_law_2757 rfl ?_
      refine W.lcmp hx hb dL_law_2758 ?_
      refine lv_if_eq (tgt := 2764) hx hb dL_law_2759 (by decide) (fun hc => ?_) (fun hc => ?_)
      · have hF := it_t hF hc
        refine lv_goto (tgt := 3314) hx hb dL_law_2764 (by decide) ?_
        have hF := Option.some.inj hF
        subst hF
        exact W.widen (by show cells + 18 + 0 + 0 ≤ cells + 30; omega) (by show slots + 1706 + 0 + 0 ≤ slots + 3000; omega) (kk H locs ls B (lv_sub hl [2, 3, 4, 5, 6, 7] rfl))
      · have hF := it_f hF hc
        cases hF
  · have hF := it_f hF hc
    cases hF
def F_cs_45 (M : fw_M) (xs : Nat → Int32) (i : Int32) : Option fw_M := bd_p (F_L_writePassenger M (xs (i + 1).toNatClampNeg)) fun k1 M2 => bd_p (F_X9_writePassenger M2 (xs (i + 1).toNatClampNeg)) fun r5 M6 => bd_x (F_X9_thrown M6 ) fun r8 => if r8 = k1 then (if k1 = 0 then (if (lg_cmp ((M6 386 0).toInt64) ((r5 : Int32).toInt64)) = 0 then (some M6) else (none)) else (some M6)) else (none)
set_option maxHeartbeats 4000000 in
set_option maxRecDepth 100000 in
theorem cs_45 (hlt : l.stackTraces = false) (hC : fl_C X p c s m b L xs) {i : Int32} (h1 : vp_in (i + 1) L) (h2 : vp_in (i + 2) L) (h3 : vp_in (i + 3) L) {M M0 : fw_M} {H : Heap} {locs : List Loc} {ls : Array Slot} {cells slots : Nat} (hF : F_cs_45 M xs i = some M0) (B : fr_H X s M H locs) (hl : lv_has ls 9 (fl_lv X b i)) (hcc : cells + 30 ≤ 603072) (hss : slots + 3000 ≤ 7194730) (kk : ∀ (H1 : Heap) (locs1 : List Loc) (ls1 : Array Slot), fr_H X s M0 H1 locs1 → lv_has ls1 9 (fl_lv X b i) → W p l e room_1 s m #[Value.ref b] below meth c H1 locs1 (cells + 30) (slots + 3000) Q (F0 m 3314 ls1 [])) : W p l e room_1 s m #[Value.ref b] below meth c H locs cells slots Q (F0 m 2767 ls []) := by
  have C := hC.1
  have hx := C.1.1
  have hb := C.1.2.1
  have hl : lv_has ls 9 [(0, .ref b), (1, .ref (fw_ad X 352)), (2, .ref (fw_ad X 378)), (3, .ref (fw_ad X 386)), (4, .ref (fw_ad X 387)), (5, .int i)] := hl
  unfold F_cs_45 at hF
  refine lv_aload_n hx hb dL_law_2767 rfl (lv_at hl 1 rfl) ?_
  refine lv_aload_n hx hb dL_law_2768 rfl (lv_at hl 0 rfl) ?_
  refine lv_iload hx hb dL_law_2769 (lv_at hl 5 rfl) ?_
  refine lv_iconst (v := 1) hx hb dL_law_2771 (by decide) ?_
  refine lv_iadd hx hb dL_law_2772 ?_
  refine fl_sld hC B h1 dL_law_2773 ?_
  refine lv_aload_n hx hb dL_law_2774 rfl (lv_at hl 3 rfl) ?_
  obtain ⟨k1, M2, hf3, hF⟩ := bp_e hF
  refine fr_cHi (As := [.ref (fw_ad X 352), .int (xs (i + 1).toNatClampNeg), .ref (fw_ad X 386)]) (rest := []) C B (cm_L_writePassenger hlt hf3) yh_L_writePassenger wm_L_330 rfl hl.1 rfl (Nat.le_of_ble_eq_true rfl) ⟨(Nat.le_of_ble_eq_true rfl), (Nat.le_of_ble_eq_true rfl)⟩ ⟨(by show cells + 23 ≤ 603072; omega), (by show slots + 2206 ≤ 7194730; omega)⟩ dL_law_2775 (fun H locs B => ?_)
  have B : fr_H X s M2 H locs := B
  refine lv_istore (lv' := [(6, .int k1), (0, .ref b), (1, .ref (fw_ad X 352)), (2, .ref (fw_ad X 378)), (3, .ref (fw_ad X 386)), (4, .ref (fw_ad X 387)), (5, .int i)]) hx hb dL_law_2778 hl (by decide) rfl (fun ls hl => ?_)
  refine lv_aload_n hx hb dL_law_2780 rfl (lv_at hl 3 rfl) ?_
  refine lv_aload_n hx hb dL_law_2781 rfl (lv_at hl 1 rfl) ?_
  refine lv_iload hx hb dL_law_2782 (lv_at hl 6 rfl) ?_
  refine lv_iconst (v := 1) hx hb dL_law_2784 (by decide) ?_
  refine lv_iadd hx hb dL_law_2785 ?_
  refine fl_sld hC B h1 dL_law_2786 ?_
  obtain ⟨r5, M6, hf4, hF⟩ := bp_e hF
  refine fr_cVi (As := [.int (xs (i + 1).toNatClampNeg)]) (rest := []) C B (cm_X9_writePassenger hf4) ob_9 rfl yw_X9_writePassenger wm_L_332 rfl hl.1 rfl (Nat.le_of_ble_eq_true rfl) ⟨(Nat.le_of_ble_eq_true rfl), (Nat.le_of_ble_eq_true rfl)⟩ ⟨(by show cells + 23 + 0 ≤ 603072; omega), (by show slots + 2206 + 0 ≤ 7194730; omega)⟩ dL_law_2787 (fr_nx rfl) (fun r9 M9 H locs ho9 B => ?_)
  obtain ⟨rfl, rfl⟩ := oi_e ho9
  refine lv_istore (lv' := [(7, .int r5), (6, .int k1), (0, .ref b), (1, .ref (fw_ad X 352)), (2, .ref (fw_ad X 378)), (3, .ref (fw_ad X 386)), (4, .ref (fw_ad X 387)), (5, .int i)]) hx hb dL_law_2790 hl (by decide) rfl (fun ls hl => ?_)
  refine lv_aload_n hx hb dL_law_2792 rfl (lv_at hl 4 rfl) ?_
  obtain ⟨r8, hf7, hF⟩ := bx_e hF
  refine fr_cVi (As := []) (rest := []) C B (cm_X9_thrown hf7) ob_9 rfl yw_X9_thrown wm_L_185 rfl hl.1 rfl (Nat.le_of_ble_eq_true rfl) ⟨(Nat.le_of_ble_eq_true rfl), (Nat.le_of_ble_eq_true rfl)⟩ ⟨(by show cells + 23 + 0 + 0 ≤ 603072; omega), (by show slots + 2206 + 0 + 0 ≤ 7194730; omega)⟩ dL_law_2793 (fr_nx rfl) (fun r9 M9 H locs ho9 B => ?_)
  obtain ⟨rfl, rfl⟩ := oi_e ho9
  refine lv_iload hx hb dL_law_2796 (lv_at hl 1 rfl) ?_
  refine lv_icmp_eq (tgt := 2803) hx hb dL_law_2798 (by decide) (fun hc => ?_) (fun hc => ?_)
  · have hF := it_t hF hc
    refine lv_iload hx hb dL_law_2803 (lv_at hl 1 rfl) ?_
    refine lv_if_ne (tgt := 2820) hx hb dL_law_2805 (by decide) (fun hc => ?_) (fun hc => ?_)
    · have hF := it_f hF hc
      refine lv_goto (tgt := 3314) hx hb dL_law_2820 (by decide) ?_
      have hF := Option.some.inj hF
      subst hF
      exact W.widen (by show cells + 23 + 0 + 0 ≤ cells + 30; omega) (by show slots + 2206 + 0 + 0 ≤ slots + 3000; omega) (kk H locs ls B (lv_sub hl [2, 3, 4, 5, 6, 7] rfl))
    · have hF := it_t hF hc
      refine lv_aload_n hx hb dL_law_2808 rfl (lv_at hl 5 rfl) ?_
      refine lv_iconst (v := 0) hx hb dL_law_2809 (by decide) ?_
      refine fr_ll C B dL_law_2810 ?_
      refine lv_iload hx hb dL_law_2811 (lv_at hl 0 rfl) ?_
      refine lv_i2l hx hb dL_law_2813 rfl ?_
      refine W.lcmp hx hb dL_law_2814 ?_
      refine lv_if_eq (tgt := 2820) hx hb dL_law_2815 (by decide) (fun hc => ?_) (fun hc => ?_)
      · have hF := it_t hF hc
        refine lv_goto (tgt := 3314) hx hb dL_law_2820 (by decide) ?_
        have hF := Option.some.inj hF
        subst hF
        exact W.widen (by show cells + 23 + 0 + 0 ≤ cells + 30; omega) (by show slots + 2206 + 0 + 0 ≤ slots + 3000; omega) (kk H locs ls B (lv_sub hl [2, 3, 4, 5, 6, 7] rfl))
      · have hF := it_f hF hc
        cases hF
  · have hF := it_f hF hc
    cases hF
def F_cs_46 (M : fw_M) (xs : Nat → Int32) (i : Int32) : Option fw_M := bd_p (F_L_textAt M (xs (i + 1).toNatClampNeg)) fun k1 M2 => bd_p (F_X9_textAt M2 (xs (i + 1).toNatClampNeg)) fun r5 M6 => bd_x (F_X9_thrown M6 ) fun r8 => if r8 = k1 then (if k1 = 0 then (if (lg_cmp ((M6 386 0).toInt64) ((r5 : Int32).toInt64)) = 0 then (some M6) else (none)) else (some M6)) else (none)
set_option maxHeartbeats 4000000 in
set_option maxRecDepth 100000 in
theorem cs_46 (hlt : l.stackTraces = false) (hC : fl_C X p c s m b L xs) {i : Int32} (h1 : vp_in (i + 1) L) (h2 : vp_in (i + 2) L) (h3 : vp_in (i + 3) L) {M M0 : fw_M} {H : Heap} {locs : List Loc} {ls : Array Slot} {cells slots : Nat} (hF : F_cs_46 M xs i = some M0) (B : fr_H X s M H locs) (hl : lv_has ls 9 (fl_lv X b i)) (hcc : cells + 30 ≤ 603072) (hss : slots + 3000 ≤ 7194730) (kk : ∀ (H1 : Heap) (locs1 : List Loc) (ls1 : Array Slot), fr_H X s M0 H1 locs1 → lv_has ls1 9 (fl_lv X b i) → W p l e room_1 s m #[Value.ref b] below meth c H1 locs1 (cells + 30) (slots + 3000) Q (F0 m 3314 ls1 [])) : W p l e room_1 s m #[Value.ref b] below meth c H locs cells slots Q (F0 m 2823 ls []) := by
  have C := hC.1
  have hx := C.1.1
  have hb := C.1.2.1
  have hl : lv_has ls 9 [(0, .ref b), (1, .ref (fw_ad X 352)), (2, .ref (fw_ad X 378)), (3, .ref (fw_ad X 386)), (4, .ref (fw_ad X 387)), (5, .int i)] := hl
  unfold F_cs_46 at hF
  refine lv_aload_n hx hb dL_law_2823 rfl (lv_at hl 1 rfl) ?_
  refine lv_aload_n hx hb dL_law_2824 rfl (lv_at hl 0 rfl) ?_
  refine lv_iload hx hb dL_law_2825 (lv_at hl 5 rfl) ?_
  refine lv_iconst (v := 1) hx hb dL_law_2827 (by decide) ?_
  refine lv_iadd hx hb dL_law_2828 ?_
  refine fl_sld hC B h1 dL_law_2829 ?_
  refine lv_aload_n hx hb dL_law_2830 rfl (lv_at hl 3 rfl) ?_
  obtain ⟨k1, M2, hf3, hF⟩ := bp_e hF
  refine fr_cHi (As := [.ref (fw_ad X 352), .int (xs (i + 1).toNatClampNeg), .ref (fw_ad X 386)]) (rest := []) C B (cm_L_textAt hlt hf3) yh_L_textAt wm_L_333 rfl hl.1 rfl (Nat.le_of_ble_eq_true rfl) ⟨(Nat.le_of_ble_eq_true rfl), (Nat.le_of_ble_eq_true rfl)⟩ ⟨(by show cells + 1 ≤ 603072; omega), (by show slots + 6 ≤ 7194730; omega)⟩ dL_law_2831 (fun H locs B => ?_)
  have B : fr_H X s M2 H locs := B
  refine lv_istore (lv' := [(6, .int k1), (0, .ref b), (1, .ref (fw_ad X 352)), (2, .ref (fw_ad X 378)), (3, .ref (fw_ad X 386)), (4, .ref (fw_ad X 387)), (5, .int i)]) hx hb dL_law_2834 hl (by decide) rfl (fun ls hl => ?_)
  refine lv_aload_n hx hb dL_law_2836 rfl (lv_at hl 3 rfl) ?_
  refine lv_aload_n hx hb dL_law_2837 rfl (lv_at hl 1 rfl) ?_
  refine lv_iload hx hb dL_law_2838 (lv_at hl 6 rfl) ?_
  refine lv_iconst (v := 1) hx hb dL_law_2840 (by decide) ?_
  refine lv_iadd hx hb dL_law_2841 ?_
  refine fl_sld hC B h1 dL_law_2842 ?_
  obtain ⟨r5, M6, hf4, hF⟩ := bp_e hF
  refine fr_cVi (As := [.int (xs (i + 1).toNatClampNeg)]) (rest := []) C B (cm_X9_textAt hf4) ob_9 rfl yw_X9_textAt wm_L_335 rfl hl.1 rfl (Nat.le_of_ble_eq_true rfl) ⟨(Nat.le_of_ble_eq_true rfl), (Nat.le_of_ble_eq_true rfl)⟩ ⟨(by show cells + 1 + 0 ≤ 603072; omega), (by show slots + 6 + 0 ≤ 7194730; omega)⟩ dL_law_2843 (fr_nx rfl) (fun r9 M9 H locs ho9 B => ?_)
  obtain ⟨rfl, rfl⟩ := oi_e ho9
  refine lv_istore (lv' := [(7, .int r5), (6, .int k1), (0, .ref b), (1, .ref (fw_ad X 352)), (2, .ref (fw_ad X 378)), (3, .ref (fw_ad X 386)), (4, .ref (fw_ad X 387)), (5, .int i)]) hx hb dL_law_2846 hl (by decide) rfl (fun ls hl => ?_)
  refine lv_aload_n hx hb dL_law_2848 rfl (lv_at hl 4 rfl) ?_
  obtain ⟨r8, hf7, hF⟩ := bx_e hF
  refine fr_cVi (As := []) (rest := []) C B (cm_X9_thrown hf7) ob_9 rfl yw_X9_thrown wm_L_185 rfl hl.1 rfl (Nat.le_of_ble_eq_true rfl) ⟨(Nat.le_of_ble_eq_true rfl), (Nat.le_of_ble_eq_true rfl)⟩ ⟨(by show cells + 1 + 0 + 0 ≤ 603072; omega), (by show slots + 6 + 0 + 0 ≤ 7194730; omega)⟩ dL_law_2849 (fr_nx rfl) (fun r9 M9 H locs ho9 B => ?_)
  obtain ⟨rfl, rfl⟩ := oi_e ho9
  refine lv_iload hx hb dL_law_2852 (lv_at hl 1 rfl) ?_
  refine lv_icmp_eq (tgt := 2859) hx hb dL_law_2854 (by decide) (fun hc => ?_) (fun hc => ?_)
  · have hF := it_t hF hc
    refine lv_iload hx hb dL_law_2859 (lv_at hl 1 rfl) ?_
    refine lv_if_ne (tgt := 2876) hx hb dL_law_2861 (by decide) (fun hc => ?_) (fun hc => ?_)
    · have hF := it_f hF hc
      refine lv_goto (tgt := 3314) hx hb dL_law_2876 (by decide) ?_
      have hF := Option.some.inj hF
      subst hF
      exact W.widen (by show cells + 1 + 0 + 0 ≤ cells + 30; omega) (by show slots + 6 + 0 + 0 ≤ slots + 3000; omega) (kk H locs ls B (lv_sub hl [2, 3, 4, 5, 6, 7] rfl))
    · have hF := it_t hF hc
      refine lv_aload_n hx hb dL_law_2864 rfl (lv_at hl 5 rfl) ?_
      refine lv_iconst (v := 0) hx hb dL_law_2865 (by decide) ?_
      refine fr_ll C B dL_law_2866 ?_
      refine lv_iload hx hb dL_law_2867 (lv_at hl 0 rfl) ?_
      refine lv_i2l hx hb dL_law_2869 rfl ?_
      refine W.lcmp hx hb dL_law_2870 ?_
      refine lv_if_eq (tgt := 2876) hx hb dL_law_2871 (by decide) (fun hc => ?_) (fun hc => ?_)
      · have hF := it_t hF hc
        refine lv_goto (tgt := 3314) hx hb dL_law_2876 (by decide) ?_
        have hF := Option.some.inj hF
        subst hF
        exact W.widen (by show cells + 1 + 0 + 0 ≤ cells + 30; omega) (by show slots + 6 + 0 + 0 ≤ slots + 3000; omega) (kk H locs ls B (lv_sub hl [2, 3, 4, 5, 6, 7] rfl))
      · have hF := it_f hF hc
        cases hF
  · have hF := it_f hF hc
    cases hF
def F_cs_47 (M : fw_M) (xs : Nat → Int32) (i : Int32) : Option fw_M := bd_p (F_L_meanRides M ) fun k1 M2 => bd_p (F_X9_meanRides M2 ) fun r5 M6 => bd_x (F_X9_thrown M6 ) fun r8 => if r8 = k1 then (if k1 = 0 then (if (Op.cmpValue (FP.dcmp (fw_dbl (M6 387 0) (M6 387 1)) r5) .l) = 0 then (some M6) else (if (Op.cmpValue (FP.dcmp (fw_dbl (M6 387 0) (M6 387 1)) (fw_dbl (M6 387 0) (M6 387 1))) .l) = 0 then (none) else (if (Op.cmpValue (FP.dcmp r5 r5) .l) = 0 then (none) else (some M6)))) else (some M6)) else (none)
set_option maxHeartbeats 4000000 in
set_option maxRecDepth 100000 in
theorem cs_47 (hlt : l.stackTraces = false) (hC : fl_C X p c s m b L xs) {i : Int32} (h1 : vp_in (i + 1) L) (h2 : vp_in (i + 2) L) (h3 : vp_in (i + 3) L) {M M0 : fw_M} {H : Heap} {locs : List Loc} {ls : Array Slot} {cells slots : Nat} (hF : F_cs_47 M xs i = some M0) (B : fr_H X s M H locs) (hl : lv_has ls 9 (fl_lv X b i)) (hcc : cells + 30 ≤ 603072) (hss : slots + 3000 ≤ 7194730) (kk : ∀ (H1 : Heap) (locs1 : List Loc) (ls1 : Array Slot), fr_H X s M0 H1 locs1 → lv_has ls1 9 (fl_lv X b i) → W p l e room_1 s m #[Value.ref b] below meth c H1 locs1 (cells + 30) (slots + 3000) Q (F0 m 3314 ls1 [])) : W p l e room_1 s m #[Value.ref b] below meth c H locs cells slots Q (F0 m 2879 ls []) := by
  have C := hC.1
  have hx := C.1.1
  have hb := C.1.2.1
  have hl : lv_has ls 9 [(0, .ref b), (1, .ref (fw_ad X 352)), (2, .ref (fw_ad X 378)), (3, .ref (fw_ad X 386)), (4, .ref (fw_ad X 387)), (5, .int i)] := hl
  unfold F_cs_47 at hF
  refine lv_aload_n hx hb dL_law_2879 rfl (lv_at hl 1 rfl) ?_
  refine lv_aload hx hb dL_law_2880 (lv_at hl 4 rfl) ?_
  obtain ⟨k1, M2, hf3, hF⟩ := bp_e hF
  refine fr_cHi (As := [.ref (fw_ad X 352), .ref (fw_ad X 387)]) (rest := []) C B (cm_L_meanRides hlt hf3) yh_L_meanRides wm_L_336 rfl hl.1 rfl (Nat.le_of_ble_eq_true rfl) ⟨(Nat.le_of_ble_eq_true rfl), (Nat.le_of_ble_eq_true rfl)⟩ ⟨(by show cells + 1 ≤ 603072; omega), (by show slots + 6 ≤ 7194730; omega)⟩ dL_law_2882 (fun H locs B => ?_)
  have B : fr_H X s M2 H locs := B
  refine lv_istore (lv' := [(6, .int k1), (0, .ref b), (1, .ref (fw_ad X 352)), (2, .ref (fw_ad X 378)), (3, .ref (fw_ad X 386)), (4, .ref (fw_ad X 387)), (5, .int i)]) hx hb dL_law_2885 hl (by decide) rfl (fun ls hl => ?_)
  refine lv_aload_n hx hb dL_law_2887 rfl (lv_at hl 3 rfl) ?_
  obtain ⟨r5, M6, hf4, hF⟩ := bp_e hF
  refine fr_cVd (As := []) (rest := []) C B (cm_X9_meanRides hf4) ob_9 rfl yw_X9_meanRides wm_L_339 rfl hl.1 rfl (Nat.le_of_ble_eq_true rfl) ⟨(Nat.le_of_ble_eq_true rfl), (Nat.le_of_ble_eq_true rfl)⟩ ⟨(by show cells + 1 + 0 ≤ 603072; omega), (by show slots + 6 + 0 ≤ 7194730; omega)⟩ dL_law_2888 (fr_nx rfl) (fun r9 M9 H locs ho9 B => ?_)
  obtain ⟨rfl, rfl⟩ := od_e ho9
  refine lv_dstore (lv' := [(7, .double r5), (6, .int k1), (0, .ref b), (1, .ref (fw_ad X 352)), (2, .ref (fw_ad X 378)), (3, .ref (fw_ad X 386)), (4, .ref (fw_ad X 387)), (5, .int i)]) hx hb dL_law_2891 hl (by decide) rfl (fun ls hl => ?_)
  refine lv_aload_n hx hb dL_law_2893 rfl (lv_at hl 4 rfl) ?_
  obtain ⟨r8, hf7, hF⟩ := bx_e hF
  refine fr_cVi (As := []) (rest := []) C B (cm_X9_thrown hf7) ob_9 rfl yw_X9_thrown wm_L_185 rfl hl.1 rfl (Nat.le_of_ble_eq_true rfl) ⟨(Nat.le_of_ble_eq_true rfl), (Nat.le_of_ble_eq_true rfl)⟩ ⟨(by show cells + 1 + 0 + 0 ≤ 603072; omega), (by show slots + 6 + 0 + 0 ≤ 7194730; omega)⟩ dL_law_2894 (fr_nx rfl) (fun r9 M9 H locs ho9 B => ?_)
  obtain ⟨rfl, rfl⟩ := oi_e ho9
  refine lv_iload hx hb dL_law_2897 (lv_at hl 1 rfl) ?_
  refine lv_icmp_eq (tgt := 2904) hx hb dL_law_2899 (by decide) (fun hc => ?_) (fun hc => ?_)
  · have hF := it_t hF hc
    refine lv_iload hx hb dL_law_2904 (lv_at hl 1 rfl) ?_
    refine lv_if_ne (tgt := 2941) hx hb dL_law_2906 (by decide) (fun hc => ?_) (fun hc => ?_)
    · have hF := it_f hF hc
      refine lv_goto (tgt := 3314) hx hb dL_law_2941 (by decide) ?_
      have hF := Option.some.inj hF
      subst hF
      exact W.widen (by show cells + 1 + 0 + 0 ≤ cells + 30; omega) (by show slots + 6 + 0 + 0 ≤ slots + 3000; omega) (kk H locs ls B (lv_sub hl [2, 3, 4, 5, 6, 7] rfl))
    · have hF := it_t hF hc
      refine lv_aload hx hb dL_law_2909 (lv_at hl 6 rfl) ?_
      refine lv_iconst (v := 0) hx hb dL_law_2911 (by decide) ?_
      refine fr_dl C B dL_law_2912 ?_
      refine lv_dload hx hb dL_law_2913 (lv_at hl 0 rfl) ?_
      refine lv_dcmp hx hb dL_law_2915 ?_
      refine lv_if_eq (tgt := 2941) hx hb dL_law_2916 (by decide) (fun hc => ?_) (fun hc => ?_)
      · have hF := it_t hF hc
        refine lv_goto (tgt := 3314) hx hb dL_law_2941 (by decide) ?_
        have hF := Option.some.inj hF
        subst hF
        exact W.widen (by show cells + 1 + 0 + 0 ≤ cells + 30; omega) (by show slots + 6 + 0 + 0 ≤ slots + 3000; omega) (kk H locs ls B (lv_sub hl [2, 3, 4, 5, 6, 7] rfl))
      · have hF := it_f hF hc
        refine lv_aload hx hb dL_law_2919 (lv_at hl 6 rfl) ?_
        refine lv_iconst (v := 0) hx hb dL_law_2921 (by decide) ?_
        refine fr_dl C B dL_law_2922 ?_
        refine lv_aload hx hb dL_law_2923 (lv_at hl 6 rfl) ?_
        refine lv_iconst (v := 0) hx hb dL_law_2925 (by decide) ?_
        refine fr_dl C B dL_law_2926 ?_
        refine lv_dcmp hx hb dL_law_2927 ?_
        refine lv_if_eq (tgt := 2939) hx hb dL_law_2928 (by decide) (fun hc => ?_) (fun hc => ?_)
        · have hF := it_t hF hc
          cases hF
        · have hF := it_f hF hc
          refine lv_dload hx hb dL_law_2931 (lv_at hl 0 rfl) ?_
          refine lv_dload hx hb dL_law_2933 (lv_at hl 0 rfl) ?_
          refine lv_dcmp hx hb dL_law_2935 ?_
          refine lv_if_ne (tgt := 2941) hx hb dL_law_2936 (by decide) (fun hc => ?_) (fun hc => ?_)
          · have hF := it_f hF hc
            refine lv_goto (tgt := 3314) hx hb dL_law_2941 (by decide) ?_
            have hF := Option.some.inj hF
            subst hF
            exact W.widen (by show cells + 1 + 0 + 0 ≤ cells + 30; omega) (by show slots + 6 + 0 + 0 ≤ slots + 3000; omega) (kk H locs ls B (lv_sub hl [2, 3, 4, 5, 6, 7] rfl))
          · have hF := it_t hF hc
            cases hF
  · have hF := it_f hF hc
    cases hF
end CS
