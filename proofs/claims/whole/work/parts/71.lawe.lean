section CS
variable {p : Program} {l : Launch} {e : Env} {s : State} {m : MethodId} {below : List Frame} {meth : Method} {c : Code} {Q : State → Prop} {X : fw_X} {b L : Nat} {xs : Nat → Int32}
def F_cs_48 (M : fw_M) (xs : Nat → Int32) (i : Int32) : Option fw_M := bd_p (F_L_truthShare M ) fun k1 M2 => bd_p (F_X9_truthShare M2 ) fun r5 M6 => bd_x (F_X9_thrown M6 ) fun r8 => if r8 = k1 then (if k1 = 0 then (if vn_d (FP.f2d r5) then (if (Op.cmpValue (FP.dcmp (fw_dbl (M6 387 0) (M6 387 1)) (FP.f2d r5)) .l) = 0 then (some M6) else (if (Op.cmpValue (FP.dcmp (fw_dbl (M6 387 0) (M6 387 1)) (fw_dbl (M6 387 0) (M6 387 1))) .l) = 0 then (none) else (if (Op.cmpValue (FP.fcmp r5 r5) .l) = 0 then (none) else (some M6)))) else none) else (some M6)) else (none)
set_option maxHeartbeats 4000000 in
set_option maxRecDepth 100000 in
theorem cs_48 (hlt : l.stackTraces = false) (hC : fl_C X p c s m b L xs) {i : Int32} (h1 : vp_in (i + 1) L) (h2 : vp_in (i + 2) L) (h3 : vp_in (i + 3) L) {M M0 : fw_M} {H : Heap} {locs : List Loc} {ls : Array Slot} {cells slots : Nat} (hF : F_cs_48 M xs i = some M0) (B : fr_H X s M H locs) (hl : lv_has ls 9 (fl_lv X b i)) (hcc : cells + 30 ≤ 603072) (hss : slots + 3000 ≤ 7194730) (kk : ∀ (H1 : Heap) (locs1 : List Loc) (ls1 : Array Slot), fr_H X s M0 H1 locs1 → lv_has ls1 9 (fl_lv X b i) → W p l e room_1 s m #[Value.ref b] below meth c H1 locs1 (cells + 30) (slots + 3000) Q (F0 m 3314 ls1 [])) : W p l e room_1 s m #[Value.ref b] below meth c H locs cells slots Q (F0 m 2944 ls []) := by
  have C := hC.1
  have hx := C.1.1
  have hb := C.1.2.1
  have hl : lv_has ls 9 [(0, .ref b), (1, .ref (fw_ad X 352)), (2, .ref (fw_ad X 378)), (3, .ref (fw_ad X 386)), (4, .ref (fw_ad X 387)), (5, .int i)] := hl
  unfold F_cs_48 at hF
  refine lv_aload_n hx hb dL_law_2944 rfl (lv_at hl 1 rfl) ?_
  refine lv_aload hx hb dL_law_2945 (lv_at hl 4 rfl) ?_
  obtain ⟨k1, M2, hf3, hF⟩ := bp_e hF
  refine fr_cHi (As := [.ref (fw_ad X 352), .ref (fw_ad X 387)]) (rest := []) C B (cm_L_truthShare hlt hf3) yh_L_truthShare wm_L_340 rfl hl.1 rfl (Nat.le_of_ble_eq_true rfl) ⟨(Nat.le_of_ble_eq_true rfl), (Nat.le_of_ble_eq_true rfl)⟩ ⟨(by show cells + 1 ≤ 603072; omega), (by show slots + 6 ≤ 7194730; omega)⟩ dL_law_2947 (fun H locs B => ?_)
  have B : fr_H X s M2 H locs := B
  refine lv_istore (lv' := [(6, .int k1), (0, .ref b), (1, .ref (fw_ad X 352)), (2, .ref (fw_ad X 378)), (3, .ref (fw_ad X 386)), (4, .ref (fw_ad X 387)), (5, .int i)]) hx hb dL_law_2950 hl (by decide) rfl (fun ls hl => ?_)
  refine lv_aload_n hx hb dL_law_2952 rfl (lv_at hl 3 rfl) ?_
  obtain ⟨r5, M6, hf4, hF⟩ := bp_e hF
  refine fr_cVf (As := []) (rest := []) C B (cm_X9_truthShare hf4) ob_9 rfl yw_X9_truthShare wm_L_342 rfl hl.1 rfl (Nat.le_of_ble_eq_true rfl) ⟨(Nat.le_of_ble_eq_true rfl), (Nat.le_of_ble_eq_true rfl)⟩ ⟨(by show cells + 1 + 0 ≤ 603072; omega), (by show slots + 6 + 0 ≤ 7194730; omega)⟩ dL_law_2953 (fr_nx rfl) (fun r9 M9 H locs ho9 B => ?_)
  obtain ⟨rfl, rfl⟩ := of_e ho9
  refine lv_fstore (lv' := [(7, .float r5), (6, .int k1), (0, .ref b), (1, .ref (fw_ad X 352)), (2, .ref (fw_ad X 378)), (3, .ref (fw_ad X 386)), (4, .ref (fw_ad X 387)), (5, .int i)]) hx hb dL_law_2956 hl (by decide) rfl (fun ls hl => ?_)
  refine lv_aload_n hx hb dL_law_2958 rfl (lv_at hl 4 rfl) ?_
  obtain ⟨r8, hf7, hF⟩ := bx_e hF
  refine fr_cVi (As := []) (rest := []) C B (cm_X9_thrown hf7) ob_9 rfl yw_X9_thrown wm_L_185 rfl hl.1 rfl (Nat.le_of_ble_eq_true rfl) ⟨(Nat.le_of_ble_eq_true rfl), (Nat.le_of_ble_eq_true rfl)⟩ ⟨(by show cells + 1 + 0 + 0 ≤ 603072; omega), (by show slots + 6 + 0 + 0 ≤ 7194730; omega)⟩ dL_law_2959 (fr_nx rfl) (fun r9 M9 H locs ho9 B => ?_)
  obtain ⟨rfl, rfl⟩ := oi_e ho9
  refine lv_iload hx hb dL_law_2962 (lv_at hl 1 rfl) ?_
  refine lv_icmp_eq (tgt := 2969) hx hb dL_law_2964 (by decide) (fun hc => ?_) (fun hc => ?_)
  · have hF := it_t hF hc
    refine lv_iload hx hb dL_law_2969 (lv_at hl 1 rfl) ?_
    refine lv_if_ne (tgt := 3007) hx hb dL_law_2971 (by decide) (fun hc => ?_) (fun hc => ?_)
    · have hF := it_f hF hc
      refine lv_goto (tgt := 3314) hx hb dL_law_3007 (by decide) ?_
      have hF := Option.some.inj hF
      subst hF
      exact W.widen (by show cells + 1 + 0 + 0 ≤ cells + 30; omega) (by show slots + 6 + 0 + 0 ≤ slots + 3000; omega) (kk H locs ls B (lv_sub hl [2, 3, 4, 5, 6, 7] rfl))
    · have hF := it_t hF hc
      refine lv_aload hx hb dL_law_2974 (lv_at hl 6 rfl) ?_
      refine lv_iconst (v := 0) hx hb dL_law_2976 (by decide) ?_
      refine fr_dl C B dL_law_2977 ?_
      refine lv_fload hx hb dL_law_2978 (lv_at hl 0 rfl) ?_
      obtain ⟨hv, hF⟩ := of_g hF
      refine lv_f2d hx hb dL_law_2980 hv ?_
      refine lv_dcmp hx hb dL_law_2981 ?_
      refine lv_if_eq (tgt := 3007) hx hb dL_law_2982 (by decide) (fun hc => ?_) (fun hc => ?_)
      · have hF := it_t hF hc
        refine lv_goto (tgt := 3314) hx hb dL_law_3007 (by decide) ?_
        have hF := Option.some.inj hF
        subst hF
        exact W.widen (by show cells + 1 + 0 + 0 ≤ cells + 30; omega) (by show slots + 6 + 0 + 0 ≤ slots + 3000; omega) (kk H locs ls B (lv_sub hl [2, 3, 4, 5, 6, 7] rfl))
      · have hF := it_f hF hc
        refine lv_aload hx hb dL_law_2985 (lv_at hl 6 rfl) ?_
        refine lv_iconst (v := 0) hx hb dL_law_2987 (by decide) ?_
        refine fr_dl C B dL_law_2988 ?_
        refine lv_aload hx hb dL_law_2989 (lv_at hl 6 rfl) ?_
        refine lv_iconst (v := 0) hx hb dL_law_2991 (by decide) ?_
        refine fr_dl C B dL_law_2992 ?_
        refine lv_dcmp hx hb dL_law_2993 ?_
        refine lv_if_eq (tgt := 3005) hx hb dL_law_2994 (by decide) (fun hc => ?_) (fun hc => ?_)
        · have hF := it_t hF hc
          cases hF
        · have hF := it_f hF hc
          refine lv_fload hx hb dL_law_2997 (lv_at hl 0 rfl) ?_
          refine lv_fload hx hb dL_law_2999 (lv_at hl 0 rfl) ?_
          refine lv_fcmp hx hb dL_law_3001 ?_
          refine lv_if_ne (tgt := 3007) hx hb dL_law_3002 (by decide) (fun hc => ?_) (fun hc => ?_)
          · have hF := it_f hF hc
            refine lv_goto (tgt := 3314) hx hb dL_law_3007 (by decide) ?_
            have hF := Option.some.inj hF
            subst hF
            exact W.widen (by show cells + 1 + 0 + 0 ≤ cells + 30; omega) (by show slots + 6 + 0 + 0 ≤ slots + 3000; omega) (kk H locs ls B (lv_sub hl [2, 3, 4, 5, 6, 7] rfl))
          · have hF := it_t hF hc
            cases hF
  · have hF := it_f hF hc
    cases hF
def F_cs_49 (M : fw_M) (xs : Nat → Int32) (i : Int32) : Option fw_M := bd_p (F_X8_isConsistent M ) fun r2 M3 => bd_p (F_X9_isConsistent M3 ) fun r5 M6 => if r2 = r5 then (some M6) else (none)
set_option maxHeartbeats 4000000 in
set_option maxRecDepth 100000 in
theorem cs_49 (hlt : l.stackTraces = false) (hC : fl_C X p c s m b L xs) {i : Int32} (h1 : vp_in (i + 1) L) (h2 : vp_in (i + 2) L) (h3 : vp_in (i + 3) L) {M M0 : fw_M} {H : Heap} {locs : List Loc} {ls : Array Slot} {cells slots : Nat} (hF : F_cs_49 M xs i = some M0) (B : fr_H X s M H locs) (hl : lv_has ls 9 (fl_lv X b i)) (hcc : cells + 30 ≤ 603072) (hss : slots + 3000 ≤ 7194730) (kk : ∀ (H1 : Heap) (locs1 : List Loc) (ls1 : Array Slot), fr_H X s M0 H1 locs1 → lv_has ls1 9 (fl_lv X b i) → W p l e room_1 s m #[Value.ref b] below meth c H1 locs1 (cells + 30) (slots + 3000) Q (F0 m 3314 ls1 [])) : W p l e room_1 s m #[Value.ref b] below meth c H locs cells slots Q (F0 m 3010 ls []) := by
  have C := hC.1
  have hx := C.1.1
  have hb := C.1.2.1
  have hl : lv_has ls 9 [(0, .ref b), (1, .ref (fw_ad X 352)), (2, .ref (fw_ad X 378)), (3, .ref (fw_ad X 386)), (4, .ref (fw_ad X 387)), (5, .int i)] := hl
  unfold F_cs_49 at hF
  refine lv_aload_n hx hb dL_law_3010 rfl (lv_at hl 1 rfl) ?_
  obtain ⟨r2, M3, hf1, hF⟩ := bp_e hF
  refine fr_cVi (As := []) (rest := []) C B (cm_X8_isConsistent hf1) ob_8 rfl yw_X8_isConsistent wm_L_343 rfl hl.1 rfl (Nat.le_of_ble_eq_true rfl) ⟨(Nat.le_of_ble_eq_true rfl), (Nat.le_of_ble_eq_true rfl)⟩ ⟨(by show cells + 0 ≤ 603072; omega), (by show slots + 0 ≤ 7194730; omega)⟩ dL_law_3011 (fr_nx rfl) (fun r9 M9 H locs ho9 B => ?_)
  obtain ⟨rfl, rfl⟩ := oi_e ho9
  refine lv_aload_n hx hb dL_law_3014 rfl (lv_at hl 2 rfl) ?_
  obtain ⟨r5, M6, hf4, hF⟩ := bp_e hF
  refine fr_cVi (As := []) (rest := [.int r2]) C B (cm_X9_isConsistent hf4) ob_9 rfl yw_X9_isConsistent wm_L_347 rfl hl.1 rfl (Nat.le_of_ble_eq_true rfl) ⟨(Nat.le_of_ble_eq_true rfl), (Nat.le_of_ble_eq_true rfl)⟩ ⟨(by show cells + 0 + 0 ≤ 603072; omega), (by show slots + 0 + 0 ≤ 7194730; omega)⟩ dL_law_3015 (fr_nx rfl) (fun r9 M9 H locs ho9 B => ?_)
  obtain ⟨rfl, rfl⟩ := oi_e ho9
  refine lv_icmp_eq (tgt := 3314) hx hb dL_law_3018 (by decide) (fun hc => ?_) (fun hc => ?_)
  · have hF := it_t hF hc
    have hF := Option.some.inj hF
    subst hF
    exact W.widen (by show cells + 0 + 0 ≤ cells + 30; omega) (by show slots + 0 + 0 ≤ slots + 3000; omega) (kk H locs ls B (lv_sub hl [0, 1, 2, 3, 4, 5] rfl))
  · have hF := it_f hF hc
    cases hF
def F_cs_50 (M : fw_M) (xs : Nat → Int32) (i : Int32) : Option fw_M := bd_p (F_L_type M (((xs (i + 1).toNatClampNeg).toUInt32 % 65536).toInt32)) fun k1 M2 => bd_p (F_X9_type M2 (((xs (i + 1).toNatClampNeg).toUInt32 % 65536).toInt32)) fun r5 M6 => bd_x (F_X9_thrown M6 ) fun r8 => if r8 = k1 then (if k1 = 0 then (if (lg_cmp ((M6 386 0).toInt64) ((r5 : Int32).toInt64)) = 0 then (some M6) else (none)) else (some M6)) else (none)
set_option maxHeartbeats 4000000 in
set_option maxRecDepth 100000 in
theorem cs_50 (hlt : l.stackTraces = false) (hC : fl_C X p c s m b L xs) {i : Int32} (h1 : vp_in (i + 1) L) (h2 : vp_in (i + 2) L) (h3 : vp_in (i + 3) L) {M M0 : fw_M} {H : Heap} {locs : List Loc} {ls : Array Slot} {cells slots : Nat} (hF : F_cs_50 M xs i = some M0) (B : fr_H X s M H locs) (hl : lv_has ls 9 (fl_lv X b i)) (hcc : cells + 30 ≤ 603072) (hss : slots + 3000 ≤ 7194730) (kk : ∀ (H1 : Heap) (locs1 : List Loc) (ls1 : Array Slot), fr_H X s M0 H1 locs1 → lv_has ls1 9 (fl_lv X b i) → W p l e room_1 s m #[Value.ref b] below meth c H1 locs1 (cells + 30) (slots + 3000) Q (F0 m 3314 ls1 [])) : W p l e room_1 s m #[Value.ref b] below meth c H locs cells slots Q (F0 m 3023 ls []) := by
  have C := hC.1
  have hx := C.1.1
  have hb := C.1.2.1
  have hl : lv_has ls 9 [(0, .ref b), (1, .ref (fw_ad X 352)), (2, .ref (fw_ad X 378)), (3, .ref (fw_ad X 386)), (4, .ref (fw_ad X 387)), (5, .int i)] := hl
  unfold F_cs_50 at hF
  refine lv_aload_n hx hb dL_law_3023 rfl (lv_at hl 1 rfl) ?_
  refine lv_aload_n hx hb dL_law_3024 rfl (lv_at hl 0 rfl) ?_
  refine lv_iload hx hb dL_law_3025 (lv_at hl 5 rfl) ?_
  refine lv_iconst (v := 1) hx hb dL_law_3027 (by decide) ?_
  refine lv_iadd hx hb dL_law_3028 ?_
  refine fl_sld hC B h1 dL_law_3029 ?_
  refine lv_i2c hx hb dL_law_3030 rfl ?_
  refine lv_aload_n hx hb dL_law_3031 rfl (lv_at hl 3 rfl) ?_
  obtain ⟨k1, M2, hf3, hF⟩ := bp_e hF
  refine fr_cHi (As := [.ref (fw_ad X 352), .int ((xs (i + 1).toNatClampNeg).toUInt32 % 65536).toInt32, .ref (fw_ad X 386)]) (rest := []) C B (cm_L_type hlt hf3) yh_L_type wm_L_348 rfl hl.1 rfl (Nat.le_of_ble_eq_true rfl) ⟨(Nat.le_of_ble_eq_true rfl), (Nat.le_of_ble_eq_true rfl)⟩ ⟨(by show cells + 1 ≤ 603072; omega), (by show slots + 6 ≤ 7194730; omega)⟩ dL_law_3032 (fun H locs B => ?_)
  have B : fr_H X s M2 H locs := B
  refine lv_istore (lv' := [(6, .int k1), (0, .ref b), (1, .ref (fw_ad X 352)), (2, .ref (fw_ad X 378)), (3, .ref (fw_ad X 386)), (4, .ref (fw_ad X 387)), (5, .int i)]) hx hb dL_law_3035 hl (by decide) rfl (fun ls hl => ?_)
  refine lv_aload_n hx hb dL_law_3037 rfl (lv_at hl 3 rfl) ?_
  refine lv_aload_n hx hb dL_law_3038 rfl (lv_at hl 1 rfl) ?_
  refine lv_iload hx hb dL_law_3039 (lv_at hl 6 rfl) ?_
  refine lv_iconst (v := 1) hx hb dL_law_3041 (by decide) ?_
  refine lv_iadd hx hb dL_law_3042 ?_
  refine fl_sld hC B h1 dL_law_3043 ?_
  refine lv_i2c hx hb dL_law_3044 rfl ?_
  obtain ⟨r5, M6, hf4, hF⟩ := bp_e hF
  refine fr_cVi (As := [.int ((xs (i + 1).toNatClampNeg).toUInt32 % 65536).toInt32]) (rest := []) C B (cm_X9_type hf4) ob_9 rfl yw_X9_type wm_L_351 rfl hl.1 rfl (Nat.le_of_ble_eq_true rfl) ⟨(Nat.le_of_ble_eq_true rfl), (Nat.le_of_ble_eq_true rfl)⟩ ⟨(by show cells + 1 + 0 ≤ 603072; omega), (by show slots + 6 + 0 ≤ 7194730; omega)⟩ dL_law_3045 (fr_nx rfl) (fun r9 M9 H locs ho9 B => ?_)
  obtain ⟨rfl, rfl⟩ := oi_e ho9
  refine lv_istore (lv' := [(7, .int r5), (6, .int k1), (0, .ref b), (1, .ref (fw_ad X 352)), (2, .ref (fw_ad X 378)), (3, .ref (fw_ad X 386)), (4, .ref (fw_ad X 387)), (5, .int i)]) hx hb dL_law_3048 hl (by decide) rfl (fun ls hl => ?_)
  refine lv_aload_n hx hb dL_law_3050 rfl (lv_at hl 4 rfl) ?_
  obtain ⟨r8, hf7, hF⟩ := bx_e hF
  refine fr_cVi (As := []) (rest := []) C B (cm_X9_thrown hf7) ob_9 rfl yw_X9_thrown wm_L_185 rfl hl.1 rfl (Nat.le_of_ble_eq_true rfl) ⟨(Nat.le_of_ble_eq_true rfl), (Nat.le_of_ble_eq_true rfl)⟩ ⟨(by show cells + 1 + 0 + 0 ≤ 603072; omega), (by show slots + 6 + 0 + 0 ≤ 7194730; omega)⟩ dL_law_3051 (fr_nx rfl) (fun r9 M9 H locs ho9 B => ?_)
  obtain ⟨rfl, rfl⟩ := oi_e ho9
  refine lv_iload hx hb dL_law_3054 (lv_at hl 1 rfl) ?_
  refine lv_icmp_eq (tgt := 3061) hx hb dL_law_3056 (by decide) (fun hc => ?_) (fun hc => ?_)
  · have hF := it_t hF hc
    refine lv_iload hx hb dL_law_3061 (lv_at hl 1 rfl) ?_
    refine lv_if_ne (tgt := 3078) hx hb dL_law_3063 (by decide) (fun hc => ?_) (fun hc => ?_)
    · have hF := it_f hF hc
      refine lv_goto (tgt := 3314) hx hb dL_law_3078 (by decide) ?_
      have hF := Option.some.inj hF
      subst hF
      exact W.widen (by show cells + 1 + 0 + 0 ≤ cells + 30; omega) (by show slots + 6 + 0 + 0 ≤ slots + 3000; omega) (kk H locs ls B (lv_sub hl [2, 3, 4, 5, 6, 7] rfl))
    · have hF := it_t hF hc
      refine lv_aload_n hx hb dL_law_3066 rfl (lv_at hl 5 rfl) ?_
      refine lv_iconst (v := 0) hx hb dL_law_3067 (by decide) ?_
      refine fr_ll C B dL_law_3068 ?_
      refine lv_iload hx hb dL_law_3069 (lv_at hl 0 rfl) ?_
      refine lv_i2l hx hb dL_law_3071 rfl ?_
      refine W.lcmp hx hb dL_law_3072 ?_
      refine lv_if_eq (tgt := 3078) hx hb dL_law_3073 (by decide) (fun hc => ?_) (fun hc => ?_)
      · have hF := it_t hF hc
        refine lv_goto (tgt := 3314) hx hb dL_law_3078 (by decide) ?_
        have hF := Option.some.inj hF
        subst hF
        exact W.widen (by show cells + 1 + 0 + 0 ≤ cells + 30; omega) (by show slots + 6 + 0 + 0 ≤ slots + 3000; omega) (kk H locs ls B (lv_sub hl [2, 3, 4, 5, 6, 7] rfl))
      · have hF := it_f hF hc
        cases hF
  · have hF := it_f hF hc
    cases hF
def F_cs_51 (M : fw_M) (xs : Nat → Int32) (i : Int32) : Option fw_M := bd_p (F_L_execute M ) fun k1 M2 => bd_p (F_X9_execute M2 ) fun r5 M6 => bd_x (F_X9_thrown M6 ) fun r8 => if r8 = k1 then (if k1 = 0 then (if (lg_cmp ((M6 386 0).toInt64) ((r5 : Int32).toInt64)) = 0 then (some M6) else (none)) else (some M6)) else (none)
set_option maxHeartbeats 4000000 in
set_option maxRecDepth 100000 in
theorem cs_51 (hlt : l.stackTraces = false) (hC : fl_C X p c s m b L xs) {i : Int32} (h1 : vp_in (i + 1) L) (h2 : vp_in (i + 2) L) (h3 : vp_in (i + 3) L) {M M0 : fw_M} {H : Heap} {locs : List Loc} {ls : Array Slot} {cells slots : Nat} (hF : F_cs_51 M xs i = some M0) (B : fr_H X s M H locs) (hl : lv_has ls 9 (fl_lv X b i)) (hcc : cells + 30 ≤ 603072) (hss : slots + 3000 ≤ 7194730) (kk : ∀ (H1 : Heap) (locs1 : List Loc) (ls1 : Array Slot), fr_H X s M0 H1 locs1 → lv_has ls1 9 (fl_lv X b i) → W p l e room_1 s m #[Value.ref b] below meth c H1 locs1 (cells + 30) (slots + 3000) Q (F0 m 3314 ls1 [])) : W p l e room_1 s m #[Value.ref b] below meth c H locs cells slots Q (F0 m 3081 ls []) := by
  have C := hC.1
  have hx := C.1.1
  have hb := C.1.2.1
  have hl : lv_has ls 9 [(0, .ref b), (1, .ref (fw_ad X 352)), (2, .ref (fw_ad X 378)), (3, .ref (fw_ad X 386)), (4, .ref (fw_ad X 387)), (5, .int i)] := hl
  unfold F_cs_51 at hF
  refine lv_aload_n hx hb dL_law_3081 rfl (lv_at hl 1 rfl) ?_
  refine lv_aload_n hx hb dL_law_3082 rfl (lv_at hl 3 rfl) ?_
  obtain ⟨k1, M2, hf3, hF⟩ := bp_e hF
  refine fr_cHi (As := [.ref (fw_ad X 352), .ref (fw_ad X 386)]) (rest := []) C B (cm_L_execute hlt hf3) yh_L_execute wm_L_352 rfl hl.1 rfl (Nat.le_of_ble_eq_true rfl) ⟨(Nat.le_of_ble_eq_true rfl), (Nat.le_of_ble_eq_true rfl)⟩ ⟨(by show cells + 1 ≤ 603072; omega), (by show slots + 6 ≤ 7194730; omega)⟩ dL_law_3083 (fun H locs B => ?_)
  have B : fr_H X s M2 H locs := B
  refine lv_istore (lv' := [(6, .int k1), (0, .ref b), (1, .ref (fw_ad X 352)), (2, .ref (fw_ad X 378)), (3, .ref (fw_ad X 386)), (4, .ref (fw_ad X 387)), (5, .int i)]) hx hb dL_law_3086 hl (by decide) rfl (fun ls hl => ?_)
  refine lv_aload_n hx hb dL_law_3088 rfl (lv_at hl 3 rfl) ?_
  obtain ⟨r5, M6, hf4, hF⟩ := bp_e hF
  refine fr_cVi (As := []) (rest := []) C B (cm_X9_execute hf4) ob_9 rfl yw_X9_execute wm_L_354 rfl hl.1 rfl (Nat.le_of_ble_eq_true rfl) ⟨(Nat.le_of_ble_eq_true rfl), (Nat.le_of_ble_eq_true rfl)⟩ ⟨(by show cells + 1 + 0 ≤ 603072; omega), (by show slots + 6 + 0 ≤ 7194730; omega)⟩ dL_law_3089 (fr_nx rfl) (fun r9 M9 H locs ho9 B => ?_)
  obtain ⟨rfl, rfl⟩ := oi_e ho9
  refine lv_istore (lv' := [(7, .int r5), (6, .int k1), (0, .ref b), (1, .ref (fw_ad X 352)), (2, .ref (fw_ad X 378)), (3, .ref (fw_ad X 386)), (4, .ref (fw_ad X 387)), (5, .int i)]) hx hb dL_law_3092 hl (by decide) rfl (fun ls hl => ?_)
  refine lv_aload_n hx hb dL_law_3094 rfl (lv_at hl 4 rfl) ?_
  obtain ⟨r8, hf7, hF⟩ := bx_e hF
  refine fr_cVi (As := []) (rest := []) C B (cm_X9_thrown hf7) ob_9 rfl yw_X9_thrown wm_L_185 rfl hl.1 rfl (Nat.le_of_ble_eq_true rfl) ⟨(Nat.le_of_ble_eq_true rfl), (Nat.le_of_ble_eq_true rfl)⟩ ⟨(by show cells + 1 + 0 + 0 ≤ 603072; omega), (by show slots + 6 + 0 + 0 ≤ 7194730; omega)⟩ dL_law_3095 (fr_nx rfl) (fun r9 M9 H locs ho9 B => ?_)
  obtain ⟨rfl, rfl⟩ := oi_e ho9
  refine lv_iload hx hb dL_law_3098 (lv_at hl 1 rfl) ?_
  refine lv_icmp_eq (tgt := 3105) hx hb dL_law_3100 (by decide) (fun hc => ?_) (fun hc => ?_)
  · have hF := it_t hF hc
    refine lv_iload hx hb dL_law_3105 (lv_at hl 1 rfl) ?_
    refine lv_if_ne (tgt := 3122) hx hb dL_law_3107 (by decide) (fun hc => ?_) (fun hc => ?_)
    · have hF := it_f hF hc
      refine lv_goto (tgt := 3314) hx hb dL_law_3122 (by decide) ?_
      have hF := Option.some.inj hF
      subst hF
      exact W.widen (by show cells + 1 + 0 + 0 ≤ cells + 30; omega) (by show slots + 6 + 0 + 0 ≤ slots + 3000; omega) (kk H locs ls B (lv_sub hl [2, 3, 4, 5, 6, 7] rfl))
    · have hF := it_t hF hc
      refine lv_aload_n hx hb dL_law_3110 rfl (lv_at hl 5 rfl) ?_
      refine lv_iconst (v := 0) hx hb dL_law_3111 (by decide) ?_
      refine fr_ll C B dL_law_3112 ?_
      refine lv_iload hx hb dL_law_3113 (lv_at hl 0 rfl) ?_
      refine lv_i2l hx hb dL_law_3115 rfl ?_
      refine W.lcmp hx hb dL_law_3116 ?_
      refine lv_if_eq (tgt := 3122) hx hb dL_law_3117 (by decide) (fun hc => ?_) (fun hc => ?_)
      · have hF := it_t hF hc
        refine lv_goto (tgt := 3314) hx hb dL_law_3122 (by decide) ?_
        have hF := Option.some.inj hF
        subst hF
        exact W.widen (by show cells + 1 + 0 + 0 ≤ cells + 30; omega) (by show slots + 6 + 0 + 0 ≤ slots + 3000; omega) (kk H locs ls B (lv_sub hl [2, 3, 4, 5, 6, 7] rfl))
      · have hF := it_f hF hc
        cases hF
  · have hF := it_f hF hc
    cases hF
def F_cs_52 (M : fw_M) (xs : Nat → Int32) (i : Int32) : Option fw_M := bd_p (F_L_errorPosition M ) fun k1 M2 => bd_p (F_X9_errorPosition M2 ) fun r5 M6 => bd_x (F_X9_thrown M6 ) fun r8 => if r8 = k1 then (if k1 = 0 then (if (lg_cmp ((M6 386 0).toInt64) ((r5 : Int32).toInt64)) = 0 then (some M6) else (none)) else (some M6)) else (none)
set_option maxHeartbeats 4000000 in
set_option maxRecDepth 100000 in
theorem cs_52 (hlt : l.stackTraces = false) (hC : fl_C X p c s m b L xs) {i : Int32} (h1 : vp_in (i + 1) L) (h2 : vp_in (i + 2) L) (h3 : vp_in (i + 3) L) {M M0 : fw_M} {H : Heap} {locs : List Loc} {ls : Array Slot} {cells slots : Nat} (hF : F_cs_52 M xs i = some M0) (B : fr_H X s M H locs) (hl : lv_has ls 9 (fl_lv X b i)) (hcc : cells + 30 ≤ 603072) (hss : slots + 3000 ≤ 7194730) (kk : ∀ (H1 : Heap) (locs1 : List Loc) (ls1 : Array Slot), fr_H X s M0 H1 locs1 → lv_has ls1 9 (fl_lv X b i) → W p l e room_1 s m #[Value.ref b] below meth c H1 locs1 (cells + 30) (slots + 3000) Q (F0 m 3314 ls1 [])) : W p l e room_1 s m #[Value.ref b] below meth c H locs cells slots Q (F0 m 3125 ls []) := by
  have C := hC.1
  have hx := C.1.1
  have hb := C.1.2.1
  have hl : lv_has ls 9 [(0, .ref b), (1, .ref (fw_ad X 352)), (2, .ref (fw_ad X 378)), (3, .ref (fw_ad X 386)), (4, .ref (fw_ad X 387)), (5, .int i)] := hl
  unfold F_cs_52 at hF
  refine lv_aload_n hx hb dL_law_3125 rfl (lv_at hl 1 rfl) ?_
  refine lv_aload_n hx hb dL_law_3126 rfl (lv_at hl 3 rfl) ?_
  obtain ⟨k1, M2, hf3, hF⟩ := bp_e hF
  refine fr_cHi (As := [.ref (fw_ad X 352), .ref (fw_ad X 386)]) (rest := []) C B (cm_L_errorPosition hlt hf3) yh_L_errorPosition wm_L_355 rfl hl.1 rfl (Nat.le_of_ble_eq_true rfl) ⟨(Nat.le_of_ble_eq_true rfl), (Nat.le_of_ble_eq_true rfl)⟩ ⟨(by show cells + 1 ≤ 603072; omega), (by show slots + 6 ≤ 7194730; omega)⟩ dL_law_3127 (fun H locs B => ?_)
  have B : fr_H X s M2 H locs := B
  refine lv_istore (lv' := [(6, .int k1), (0, .ref b), (1, .ref (fw_ad X 352)), (2, .ref (fw_ad X 378)), (3, .ref (fw_ad X 386)), (4, .ref (fw_ad X 387)), (5, .int i)]) hx hb dL_law_3130 hl (by decide) rfl (fun ls hl => ?_)
  refine lv_aload_n hx hb dL_law_3132 rfl (lv_at hl 3 rfl) ?_
  obtain ⟨r5, M6, hf4, hF⟩ := bp_e hF
  refine fr_cVi (As := []) (rest := []) C B (cm_X9_errorPosition hf4) ob_9 rfl yw_X9_errorPosition wm_L_357 rfl hl.1 rfl (Nat.le_of_ble_eq_true rfl) ⟨(Nat.le_of_ble_eq_true rfl), (Nat.le_of_ble_eq_true rfl)⟩ ⟨(by show cells + 1 + 0 ≤ 603072; omega), (by show slots + 6 + 0 ≤ 7194730; omega)⟩ dL_law_3133 (fr_nx rfl) (fun r9 M9 H locs ho9 B => ?_)
  obtain ⟨rfl, rfl⟩ := oi_e ho9
  refine lv_istore (lv' := [(7, .int r5), (6, .int k1), (0, .ref b), (1, .ref (fw_ad X 352)), (2, .ref (fw_ad X 378)), (3, .ref (fw_ad X 386)), (4, .ref (fw_ad X 387)), (5, .int i)]) hx hb dL_law_3136 hl (by decide) rfl (fun ls hl => ?_)
  refine lv_aload_n hx hb dL_law_3138 rfl (lv_at hl 4 rfl) ?_
  obtain ⟨r8, hf7, hF⟩ := bx_e hF
  refine fr_cVi (As := []) (rest := []) C B (cm_X9_thrown hf7) ob_9 rfl yw_X9_thrown wm_L_185 rfl hl.1 rfl (Nat.le_of_ble_eq_true rfl) ⟨(Nat.le_of_ble_eq_true rfl), (Nat.le_of_ble_eq_true rfl)⟩ ⟨(by show cells + 1 + 0 + 0 ≤ 603072; omega), (by show slots + 6 + 0 + 0 ≤ 7194730; omega)⟩ dL_law_3139 (fr_nx rfl) (fun r9 M9 H locs ho9 B => ?_)
  obtain ⟨rfl, rfl⟩ := oi_e ho9
  refine lv_iload hx hb dL_law_3142 (lv_at hl 1 rfl) ?_
  refine lv_icmp_eq (tgt := 3149) hx hb dL_law_3144 (by decide) (fun hc => ?_) (fun hc => ?_)
  · have hF := it_t hF hc
    refine lv_iload hx hb dL_law_3149 (lv_at hl 1 rfl) ?_
    refine lv_if_ne (tgt := 3166) hx hb dL_law_3151 (by decide) (fun hc => ?_) (fun hc => ?_)
    · have hF := it_f hF hc
      refine lv_goto (tgt := 3314) hx hb dL_law_3166 (by decide) ?_
      have hF := Option.some.inj hF
      subst hF
      exact W.widen (by show cells + 1 + 0 + 0 ≤ cells + 30; omega) (by show slots + 6 + 0 + 0 ≤ slots + 3000; omega) (kk H locs ls B (lv_sub hl [2, 3, 4, 5, 6, 7] rfl))
    · have hF := it_t hF hc
      refine lv_aload_n hx hb dL_law_3154 rfl (lv_at hl 5 rfl) ?_
      refine lv_iconst (v := 0) hx hb dL_law_3155 (by decide) ?_
      refine fr_ll C B dL_law_3156 ?_
      refine lv_iload hx hb dL_law_3157 (lv_at hl 0 rfl) ?_
      refine lv_i2l hx hb dL_law_3159 rfl ?_
      refine W.lcmp hx hb dL_law_3160 ?_
      refine lv_if_eq (tgt := 3166) hx hb dL_law_3161 (by decide) (fun hc => ?_) (fun hc => ?_)
      · have hF := it_t hF hc
        refine lv_goto (tgt := 3314) hx hb dL_law_3166 (by decide) ?_
        have hF := Option.some.inj hF
        subst hF
        exact W.widen (by show cells + 1 + 0 + 0 ≤ cells + 30; omega) (by show slots + 6 + 0 + 0 ≤ slots + 3000; omega) (kk H locs ls B (lv_sub hl [2, 3, 4, 5, 6, 7] rfl))
      · have hF := it_f hF hc
        cases hF
  · have hF := it_f hF hc
    cases hF
def F_cs_53 (M : fw_M) (xs : Nat → Int32) (i : Int32) : Option fw_M := bd_p (F_L_failedCommand M ) fun k1 M2 => bd_p (F_X9_failedCommand M2 ) fun r5 M6 => bd_x (F_X9_thrown M6 ) fun r8 => if r8 = k1 then (if k1 = 0 then (if (lg_cmp ((M6 386 0).toInt64) ((r5 : Int32).toInt64)) = 0 then (some M6) else (none)) else (some M6)) else (none)
set_option maxHeartbeats 4000000 in
set_option maxRecDepth 100000 in
theorem cs_53 (hlt : l.stackTraces = false) (hC : fl_C X p c s m b L xs) {i : Int32} (h1 : vp_in (i + 1) L) (h2 : vp_in (i + 2) L) (h3 : vp_in (i + 3) L) {M M0 : fw_M} {H : Heap} {locs : List Loc} {ls : Array Slot} {cells slots : Nat} (hF : F_cs_53 M xs i = some M0) (B : fr_H X s M H locs) (hl : lv_has ls 9 (fl_lv X b i)) (hcc : cells + 30 ≤ 603072) (hss : slots + 3000 ≤ 7194730) (kk : ∀ (H1 : Heap) (locs1 : List Loc) (ls1 : Array Slot), fr_H X s M0 H1 locs1 → lv_has ls1 9 (fl_lv X b i) → W p l e room_1 s m #[Value.ref b] below meth c H1 locs1 (cells + 30) (slots + 3000) Q (F0 m 3314 ls1 [])) : W p l e room_1 s m #[Value.ref b] below meth c H locs cells slots Q (F0 m 3169 ls []) := by
  have C := hC.1
  have hx := C.1.1
  have hb := C.1.2.1
  have hl : lv_has ls 9 [(0, .ref b), (1, .ref (fw_ad X 352)), (2, .ref (fw_ad X 378)), (3, .ref (fw_ad X 386)), (4, .ref (fw_ad X 387)), (5, .int i)] := hl
  unfold F_cs_53 at hF
  refine lv_aload_n hx hb dL_law_3169 rfl (lv_at hl 1 rfl) ?_
  refine lv_aload_n hx hb dL_law_3170 rfl (lv_at hl 3 rfl) ?_
  obtain ⟨k1, M2, hf3, hF⟩ := bp_e hF
  refine fr_cHi (As := [.ref (fw_ad X 352), .ref (fw_ad X 386)]) (rest := []) C B (cm_L_failedCommand hlt hf3) yh_L_failedCommand wm_L_358 rfl hl.1 rfl (Nat.le_of_ble_eq_true rfl) ⟨(Nat.le_of_ble_eq_true rfl), (Nat.le_of_ble_eq_true rfl)⟩ ⟨(by show cells + 1 ≤ 603072; omega), (by show slots + 6 ≤ 7194730; omega)⟩ dL_law_3171 (fun H locs B => ?_)
  have B : fr_H X s M2 H locs := B
  refine lv_istore (lv' := [(6, .int k1), (0, .ref b), (1, .ref (fw_ad X 352)), (2, .ref (fw_ad X 378)), (3, .ref (fw_ad X 386)), (4, .ref (fw_ad X 387)), (5, .int i)]) hx hb dL_law_3174 hl (by decide) rfl (fun ls hl => ?_)
  refine lv_aload_n hx hb dL_law_3176 rfl (lv_at hl 3 rfl) ?_
  obtain ⟨r5, M6, hf4, hF⟩ := bp_e hF
  refine fr_cVi (As := []) (rest := []) C B (cm_X9_failedCommand hf4) ob_9 rfl yw_X9_failedCommand wm_L_360 rfl hl.1 rfl (Nat.le_of_ble_eq_true rfl) ⟨(Nat.le_of_ble_eq_true rfl), (Nat.le_of_ble_eq_true rfl)⟩ ⟨(by show cells + 1 + 0 ≤ 603072; omega), (by show slots + 6 + 0 ≤ 7194730; omega)⟩ dL_law_3177 (fr_nx rfl) (fun r9 M9 H locs ho9 B => ?_)
  obtain ⟨rfl, rfl⟩ := oi_e ho9
  refine lv_istore (lv' := [(7, .int r5), (6, .int k1), (0, .ref b), (1, .ref (fw_ad X 352)), (2, .ref (fw_ad X 378)), (3, .ref (fw_ad X 386)), (4, .ref (fw_ad X 387)), (5, .int i)]) hx hb dL_law_3180 hl (by decide) rfl (fun ls hl => ?_)
  refine lv_aload_n hx hb dL_law_3182 rfl (lv_at hl 4 rfl) ?_
  obtain ⟨r8, hf7, hF⟩ := bx_e hF
  refine fr_cVi (As := []) (rest := []) C B (cm_X9_thrown hf7) ob_9 rfl yw_X9_thrown wm_L_185 rfl hl.1 rfl (Nat.le_of_ble_eq_true rfl) ⟨(Nat.le_of_ble_eq_true rfl), (Nat.le_of_ble_eq_true rfl)⟩ ⟨(by show cells + 1 + 0 + 0 ≤ 603072; omega), (by show slots + 6 + 0 + 0 ≤ 7194730; omega)⟩ dL_law_3183 (fr_nx rfl) (fun r9 M9 H locs ho9 B => ?_)
  obtain ⟨rfl, rfl⟩ := oi_e ho9
  refine lv_iload hx hb dL_law_3186 (lv_at hl 1 rfl) ?_
  refine lv_icmp_eq (tgt := 3193) hx hb dL_law_3188 (by decide) (fun hc => ?_) (fun hc => ?_)
  · have hF := it_t hF hc
    refine lv_iload hx hb dL_law_3193 (lv_at hl 1 rfl) ?_
    refine lv_if_ne (tgt := 3210) hx hb dL_law_3195 (by decide) (fun hc => ?_) (fun hc => ?_)
    · have hF := it_f hF hc
      refine lv_goto (tgt := 3314) hx hb dL_law_3210 (by decide) ?_
      have hF := Option.some.inj hF
      subst hF
      exact W.widen (by show cells + 1 + 0 + 0 ≤ cells + 30; omega) (by show slots + 6 + 0 + 0 ≤ slots + 3000; omega) (kk H locs ls B (lv_sub hl [2, 3, 4, 5, 6, 7] rfl))
    · have hF := it_t hF hc
      refine lv_aload_n hx hb dL_law_3198 rfl (lv_at hl 5 rfl) ?_
      refine lv_iconst (v := 0) hx hb dL_law_3199 (by decide) ?_
      refine fr_ll C B dL_law_3200 ?_
      refine lv_iload hx hb dL_law_3201 (lv_at hl 0 rfl) ?_
      refine lv_i2l hx hb dL_law_3203 rfl ?_
      refine W.lcmp hx hb dL_law_3204 ?_
      refine lv_if_eq (tgt := 3210) hx hb dL_law_3205 (by decide) (fun hc => ?_) (fun hc => ?_)
      · have hF := it_t hF hc
        refine lv_goto (tgt := 3314) hx hb dL_law_3210 (by decide) ?_
        have hF := Option.some.inj hF
        subst hF
        exact W.widen (by show cells + 1 + 0 + 0 ≤ cells + 30; omega) (by show slots + 6 + 0 + 0 ≤ slots + 3000; omega) (kk H locs ls B (lv_sub hl [2, 3, 4, 5, 6, 7] rfl))
      · have hF := it_f hF hc
        cases hF
  · have hF := it_f hF hc
    cases hF
def F_cs_54 (M : fw_M) (xs : Nat → Int32) (i : Int32) : Option fw_M := bd_p (F_L_undo M ) fun k1 M2 => bd_p (F_X9_undo M2 ) fun r5 M6 => bd_x (F_X9_thrown M6 ) fun r8 => if r8 = k1 then (if k1 = 0 then (if (lg_cmp ((M6 386 0).toInt64) ((r5 : Int32).toInt64)) = 0 then (some M6) else (none)) else (some M6)) else (none)
set_option maxHeartbeats 4000000 in
set_option maxRecDepth 100000 in
theorem cs_54 (hlt : l.stackTraces = false) (hC : fl_C X p c s m b L xs) {i : Int32} (h1 : vp_in (i + 1) L) (h2 : vp_in (i + 2) L) (h3 : vp_in (i + 3) L) {M M0 : fw_M} {H : Heap} {locs : List Loc} {ls : Array Slot} {cells slots : Nat} (hF : F_cs_54 M xs i = some M0) (B : fr_H X s M H locs) (hl : lv_has ls 9 (fl_lv X b i)) (hcc : cells + 30 ≤ 603072) (hss : slots + 3000 ≤ 7194730) (kk : ∀ (H1 : Heap) (locs1 : List Loc) (ls1 : Array Slot), fr_H X s M0 H1 locs1 → lv_has ls1 9 (fl_lv X b i) → W p l e room_1 s m #[Value.ref b] below meth c H1 locs1 (cells + 30) (slots + 3000) Q (F0 m 3314 ls1 [])) : W p l e room_1 s m #[Value.ref b] below meth c H locs cells slots Q (F0 m 3213 ls []) := by
  have C := hC.1
  have hx := C.1.1
  have hb := C.1.2.1
  have hl : lv_has ls 9 [(0, .ref b), (1, .ref (fw_ad X 352)), (2, .ref (fw_ad X 378)), (3, .ref (fw_ad X 386)), (4, .ref (fw_ad X 387)), (5, .int i)] := hl
  unfold F_cs_54 at hF
  refine lv_aload_n hx hb dL_law_3213 rfl (lv_at hl 1 rfl) ?_
  refine lv_aload_n hx hb dL_law_3214 rfl (lv_at hl 3 rfl) ?_
  obtain ⟨k1, M2, hf3, hF⟩ := bp_e hF
  refine fr_cHi (As := [.ref (fw_ad X 352), .ref (fw_ad X 386)]) (rest := []) C B (cm_L_undo hlt hf3) yh_L_undo wm_L_361 rfl hl.1 rfl (Nat.le_of_ble_eq_true rfl) ⟨(Nat.le_of_ble_eq_true rfl), (Nat.le_of_ble_eq_true rfl)⟩ ⟨(by show cells + 1 ≤ 603072; omega), (by show slots + 6 ≤ 7194730; omega)⟩ dL_law_3215 (fun H locs B => ?_)
  have B : fr_H X s M2 H locs := B
  refine lv_istore (lv' := [(6, .int k1), (0, .ref b), (1, .ref (fw_ad X 352)), (2, .ref (fw_ad X 378)), (3, .ref (fw_ad X 386)), (4, .ref (fw_ad X 387)), (5, .int i)]) hx hb dL_law_3218 hl (by decide) rfl (fun ls hl => ?_)
  refine lv_aload_n hx hb dL_law_3220 rfl (lv_at hl 3 rfl) ?_
  obtain ⟨r5, M6, hf4, hF⟩ := bp_e hF
  refine fr_cVi (As := []) (rest := []) C B (cm_X9_undo hf4) ob_9 rfl yw_X9_undo wm_L_363 rfl hl.1 rfl (Nat.le_of_ble_eq_true rfl) ⟨(Nat.le_of_ble_eq_true rfl), (Nat.le_of_ble_eq_true rfl)⟩ ⟨(by show cells + 1 + 0 ≤ 603072; omega), (by show slots + 6 + 0 ≤ 7194730; omega)⟩ dL_law_3221 (fr_nx rfl) (fun r9 M9 H locs ho9 B => ?_)
  obtain ⟨rfl, rfl⟩ := oi_e ho9
  refine lv_istore (lv' := [(7, .int r5), (6, .int k1), (0, .ref b), (1, .ref (fw_ad X 352)), (2, .ref (fw_ad X 378)), (3, .ref (fw_ad X 386)), (4, .ref (fw_ad X 387)), (5, .int i)]) hx hb dL_law_3224 hl (by decide) rfl (fun ls hl => ?_)
  refine lv_aload_n hx hb dL_law_3226 rfl (lv_at hl 4 rfl) ?_
  obtain ⟨r8, hf7, hF⟩ := bx_e hF
  refine fr_cVi (As := []) (rest := []) C B (cm_X9_thrown hf7) ob_9 rfl yw_X9_thrown wm_L_185 rfl hl.1 rfl (Nat.le_of_ble_eq_true rfl) ⟨(Nat.le_of_ble_eq_true rfl), (Nat.le_of_ble_eq_true rfl)⟩ ⟨(by show cells + 1 + 0 + 0 ≤ 603072; omega), (by show slots + 6 + 0 + 0 ≤ 7194730; omega)⟩ dL_law_3227 (fr_nx rfl) (fun r9 M9 H locs ho9 B => ?_)
  obtain ⟨rfl, rfl⟩ := oi_e ho9
  refine lv_iload hx hb dL_law_3230 (lv_at hl 1 rfl) ?_
  refine lv_icmp_eq (tgt := 3237) hx hb dL_law_3232 (by decide) (fun hc => ?_) (fun hc => ?_)
  · have hF := it_t hF hc
    refine lv_iload hx hb dL_law_3237 (lv_at hl 1 rfl) ?_
    refine lv_if_ne (tgt := 3254) hx hb dL_law_3239 (by decide) (fun hc => ?_) (fun hc => ?_)
    · have hF := it_f hF hc
      refine lv_goto (tgt := 3314) hx hb dL_law_3254 (by decide) ?_
      have hF := Option.some.inj hF
      subst hF
      exact W.widen (by show cells + 1 + 0 + 0 ≤ cells + 30; omega) (by show slots + 6 + 0 + 0 ≤ slots + 3000; omega) (kk H locs ls B (lv_sub hl [2, 3, 4, 5, 6, 7] rfl))
    · have hF := it_t hF hc
      refine lv_aload_n hx hb dL_law_3242 rfl (lv_at hl 5 rfl) ?_
      refine lv_iconst (v := 0) hx hb dL_law_3243 (by decide) ?_
      refine fr_ll C B dL_law_3244 ?_
      refine lv_iload hx hb dL_law_3245 (lv_at hl 0 rfl) ?_
      refine lv_i2l hx hb dL_law_3247 rfl ?_
      refine W.lcmp hx hb dL_law_3248 ?_
      refine lv_if_eq (tgt := 3254) hx hb dL_law_3249 (by decide) (fun hc => ?_) (fun hc => ?_)
      · have hF := it_t hF hc
        refine lv_goto (tgt := 3314) hx hb dL_law_3254 (by decide) ?_
        have hF := Option.some.inj hF
        subst hF
        exact W.widen (by show cells + 1 + 0 + 0 ≤ cells + 30; omega) (by show slots + 6 + 0 + 0 ≤ slots + 3000; omega) (kk H locs ls B (lv_sub hl [2, 3, 4, 5, 6, 7] rfl))
      · have hF := it_f hF hc
        cases hF
  · have hF := it_f hF hc
    cases hF
def F_cs_55 (M : fw_M) (xs : Nat → Int32) (i : Int32) : Option fw_M := bd_p (F_X8_save M ) fun r2 M3 => bd_p (F_X9_save M3 ) fun r5 M6 => if r2 = r5 then (some M6) else (none)
set_option maxHeartbeats 4000000 in
set_option maxRecDepth 100000 in
theorem cs_55 (hlt : l.stackTraces = false) (hC : fl_C X p c s m b L xs) {i : Int32} (h1 : vp_in (i + 1) L) (h2 : vp_in (i + 2) L) (h3 : vp_in (i + 3) L) {M M0 : fw_M} {H : Heap} {locs : List Loc} {ls : Array Slot} {cells slots : Nat} (hF : F_cs_55 M xs i = some M0) (B : fr_H X s M H locs) (hl : lv_has ls 9 (fl_lv X b i)) (hcc : cells + 30 ≤ 603072) (hss : slots + 3000 ≤ 7194730) (kk : ∀ (H1 : Heap) (locs1 : List Loc) (ls1 : Array Slot), fr_H X s M0 H1 locs1 → lv_has ls1 9 (fl_lv X b i) → W p l e room_1 s m #[Value.ref b] below meth c H1 locs1 (cells + 30) (slots + 3000) Q (F0 m 3314 ls1 [])) : W p l e room_1 s m #[Value.ref b] below meth c H locs cells slots Q (F0 m 3257 ls []) := by
  have C := hC.1
  have hx := C.1.1
  have hb := C.1.2.1
  have hl : lv_has ls 9 [(0, .ref b), (1, .ref (fw_ad X 352)), (2, .ref (fw_ad X 378)), (3, .ref (fw_ad X 386)), (4, .ref (fw_ad X 387)), (5, .int i)] := hl
  unfold F_cs_55 at hF
  refine lv_aload_n hx hb dL_law_3257 rfl (lv_at hl 1 rfl) ?_
  obtain ⟨r2, M3, hf1, hF⟩ := bp_e hF
  refine fr_cVi (As := []) (rest := []) C B (cm_X8_save hf1) ob_8 rfl yw_X8_save wm_L_364 rfl hl.1 rfl (Nat.le_of_ble_eq_true rfl) ⟨(Nat.le_of_ble_eq_true rfl), (Nat.le_of_ble_eq_true rfl)⟩ ⟨(by show cells + 0 ≤ 603072; omega), (by show slots + 0 ≤ 7194730; omega)⟩ dL_law_3258 (fr_nx rfl) (fun r9 M9 H locs ho9 B => ?_)
  obtain ⟨rfl, rfl⟩ := oi_e ho9
  refine lv_aload_n hx hb dL_law_3261 rfl (lv_at hl 2 rfl) ?_
  obtain ⟨r5, M6, hf4, hF⟩ := bp_e hF
  refine fr_cVi (As := []) (rest := [.int r2]) C B (cm_X9_save hf4) ob_9 rfl yw_X9_save wm_L_367 rfl hl.1 rfl (Nat.le_of_ble_eq_true rfl) ⟨(Nat.le_of_ble_eq_true rfl), (Nat.le_of_ble_eq_true rfl)⟩ ⟨(by show cells + 0 + 0 ≤ 603072; omega), (by show slots + 0 + 0 ≤ 7194730; omega)⟩ dL_law_3262 (fr_nx rfl) (fun r9 M9 H locs ho9 B => ?_)
  obtain ⟨rfl, rfl⟩ := oi_e ho9
  refine lv_icmp_eq (tgt := 3314) hx hb dL_law_3265 (by decide) (fun hc => ?_) (fun hc => ?_)
  · have hF := it_t hF hc
    have hF := Option.some.inj hF
    subst hF
    exact W.widen (by show cells + 0 + 0 ≤ cells + 30; omega) (by show slots + 0 + 0 ≤ slots + 3000; omega) (kk H locs ls B (lv_sub hl [0, 1, 2, 3, 4, 5] rfl))
  · have hF := it_f hF hc
    cases hF
def F_cs_56 (M : fw_M) (xs : Nat → Int32) (i : Int32) : Option fw_M := bd_p (F_L_restore M ) fun k1 M2 => bd_p (F_X9_restore M2 ) fun r5 M6 => bd_x (F_X9_thrown M6 ) fun r8 => if r8 = k1 then (if k1 = 0 then (if (lg_cmp ((M6 386 0).toInt64) ((r5 : Int32).toInt64)) = 0 then (some M6) else (none)) else (some M6)) else (none)
set_option maxHeartbeats 4000000 in
set_option maxRecDepth 100000 in
theorem cs_56 (hlt : l.stackTraces = false) (hC : fl_C X p c s m b L xs) {i : Int32} (h1 : vp_in (i + 1) L) (h2 : vp_in (i + 2) L) (h3 : vp_in (i + 3) L) {M M0 : fw_M} {H : Heap} {locs : List Loc} {ls : Array Slot} {cells slots : Nat} (hF : F_cs_56 M xs i = some M0) (B : fr_H X s M H locs) (hl : lv_has ls 9 (fl_lv X b i)) (hcc : cells + 30 ≤ 603072) (hss : slots + 3000 ≤ 7194730) (kk : ∀ (H1 : Heap) (locs1 : List Loc) (ls1 : Array Slot), fr_H X s M0 H1 locs1 → lv_has ls1 9 (fl_lv X b i) → W p l e room_1 s m #[Value.ref b] below meth c H1 locs1 (cells + 30) (slots + 3000) Q (F0 m 3314 ls1 [])) : W p l e room_1 s m #[Value.ref b] below meth c H locs cells slots Q (F0 m 3270 ls []) := by
  have C := hC.1
  have hx := C.1.1
  have hb := C.1.2.1
  have hl : lv_has ls 9 [(0, .ref b), (1, .ref (fw_ad X 352)), (2, .ref (fw_ad X 378)), (3, .ref (fw_ad X 386)), (4, .ref (fw_ad X 387)), (5, .int i)] := hl
  unfold F_cs_56 at hF
  refine lv_aload_n hx hb dL_law_3270 rfl (lv_at hl 1 rfl) ?_
  refine lv_aload_n hx hb dL_law_3271 rfl (lv_at hl 3 rfl) ?_
  obtain ⟨k1, M2, hf3, hF⟩ := bp_e hF
  refine fr_cHi (As := [.ref (fw_ad X 352), .ref (fw_ad X 386)]) (rest := []) C B (cm_L_restore hlt hf3) yh_L_restore wm_L_368 rfl hl.1 rfl (Nat.le_of_ble_eq_true rfl) ⟨(Nat.le_of_ble_eq_true rfl), (Nat.le_of_ble_eq_true rfl)⟩ ⟨(by show cells + 1 ≤ 603072; omega), (by show slots + 6 ≤ 7194730; omega)⟩ dL_law_3272 (fun H locs B => ?_)
  have B : fr_H X s M2 H locs := B
  refine lv_istore (lv' := [(6, .int k1), (0, .ref b), (1, .ref (fw_ad X 352)), (2, .ref (fw_ad X 378)), (3, .ref (fw_ad X 386)), (4, .ref (fw_ad X 387)), (5, .int i)]) hx hb dL_law_3275 hl (by decide) rfl (fun ls hl => ?_)
  refine lv_aload_n hx hb dL_law_3277 rfl (lv_at hl 3 rfl) ?_
  obtain ⟨r5, M6, hf4, hF⟩ := bp_e hF
  refine fr_cVi (As := []) (rest := []) C B (cm_X9_restore hf4) ob_9 rfl yw_X9_restore wm_L_370 rfl hl.1 rfl (Nat.le_of_ble_eq_true rfl) ⟨(Nat.le_of_ble_eq_true rfl), (Nat.le_of_ble_eq_true rfl)⟩ ⟨(by show cells + 1 + 0 ≤ 603072; omega), (by show slots + 6 + 0 ≤ 7194730; omega)⟩ dL_law_3278 (fr_nx rfl) (fun r9 M9 H locs ho9 B => ?_)
  obtain ⟨rfl, rfl⟩ := oi_e ho9
  refine lv_istore (lv' := [(7, .int r5), (6, .int k1), (0, .ref b), (1, .ref (fw_ad X 352)), (2, .ref (fw_ad X 378)), (3, .ref (fw_ad X 386)), (4, .ref (fw_ad X 387)), (5, .int i)]) hx hb dL_law_3281 hl (by decide) rfl (fun ls hl => ?_)
  refine lv_aload_n hx hb dL_law_3283 rfl (lv_at hl 4 rfl) ?_
  obtain ⟨r8, hf7, hF⟩ := bx_e hF
  refine fr_cVi (As := []) (rest := []) C B (cm_X9_thrown hf7) ob_9 rfl yw_X9_thrown wm_L_185 rfl hl.1 rfl (Nat.le_of_ble_eq_true rfl) ⟨(Nat.le_of_ble_eq_true rfl), (Nat.le_of_ble_eq_true rfl)⟩ ⟨(by show cells + 1 + 0 + 0 ≤ 603072; omega), (by show slots + 6 + 0 + 0 ≤ 7194730; omega)⟩ dL_law_3284 (fr_nx rfl) (fun r9 M9 H locs ho9 B => ?_)
  obtain ⟨rfl, rfl⟩ := oi_e ho9
  refine lv_iload hx hb dL_law_3287 (lv_at hl 1 rfl) ?_
  refine lv_icmp_eq (tgt := 3294) hx hb dL_law_3289 (by decide) (fun hc => ?_) (fun hc => ?_)
  · have hF := it_t hF hc
    refine lv_iload hx hb dL_law_3294 (lv_at hl 1 rfl) ?_
    refine lv_if_ne (tgt := 3311) hx hb dL_law_3296 (by decide) (fun hc => ?_) (fun hc => ?_)
    · have hF := it_f hF hc
      refine lv_goto (tgt := 3314) hx hb dL_law_3311 (by decide) ?_
      have hF := Option.some.inj hF
      subst hF
      exact W.widen (by show cells + 1 + 0 + 0 ≤ cells + 30; omega) (by show slots + 6 + 0 + 0 ≤ slots + 3000; omega) (kk H locs ls B (lv_sub hl [2, 3, 4, 5, 6, 7] rfl))
    · have hF := it_t hF hc
      refine lv_aload_n hx hb dL_law_3299 rfl (lv_at hl 5 rfl) ?_
      refine lv_iconst (v := 0) hx hb dL_law_3300 (by decide) ?_
      refine fr_ll C B dL_law_3301 ?_
      refine lv_iload hx hb dL_law_3302 (lv_at hl 0 rfl) ?_
      refine lv_i2l hx hb dL_law_3304 rfl ?_
      refine W.lcmp hx hb dL_law_3305 ?_
      refine lv_if_eq (tgt := 3311) hx hb dL_law_3306 (by decide) (fun hc => ?_) (fun hc => ?_)
      · have hF := it_t hF hc
        refine lv_goto (tgt := 3314) hx hb dL_law_3311 (by decide) ?_
        have hF := Option.some.inj hF
        subst hF
        exact W.widen (by show cells + 1 + 0 + 0 ≤ cells + 30; omega) (by show slots + 6 + 0 + 0 ≤ slots + 3000; omega) (kk H locs ls B (lv_sub hl [2, 3, 4, 5, 6, 7] rfl))
      · have hF := it_f hF hc
        cases hF
  · have hF := it_f hF hc
    cases hF
end CS
