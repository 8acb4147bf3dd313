section CS
variable {p : Program} {l : Launch} {e : Env} {s : State} {m : MethodId} {below : List Frame} {meth : Method} {c : Code} {Q : State → Prop} {X : fw_X} {b L : Nat} {xs : Nat → Int32}
def F_cs_12 (M : fw_M) (xs : Nat → Int32) (i : Int32) : Option fw_M := bd_x (F_X8_tickCount M ) fun r2 => bd_p (F_X9_tickCount M ) fun r5 M6 => if r2 = r5 then (some M6) else (none)
set_option maxHeartbeats 4000000 in
set_option maxRecDepth 100000 in
theorem cs_12 (hlt : l.stackTraces = false) (hC : fl_C X p c s m b L xs) {i : Int32} (h1 : vp_in (i + 1) L) (h2 : vp_in (i + 2) L) (h3 : vp_in (i + 3) L) {M M0 : fw_M} {H : Heap} {locs : List Loc} {ls : Array Slot} {cells slots : Nat} (hF : F_cs_12 M xs i = some M0) (B : fr_H X s M H locs) (hl : lv_has ls 9 (fl_lv X b i)) (hcc : cells + 30 ≤ 603072) (hss : slots + 3000 ≤ 7194730) (kk : ∀ (H1 : Heap) (locs1 : List Loc) (ls1 : Array Slot), fr_H X s M0 H1 locs1 → lv_has ls1 9 (fl_lv X b i) → W p l e room_1 s m #[Value.ref b] below meth c H1 locs1 (cells + 30) (slots + 3000) Q (F0 m 3314 ls1 [])) : W p l e room_1 s m #[Value.ref b] below meth c H locs cells slots Q (F0 m 886 ls []) := by
  have C := hC.1
  have hx := C.1.1
  have hb := C.1.2.1
  have hl : lv_has ls 9 [(0, .ref b), (1, .ref (fw_ad X 352)), (2, .ref (fw_ad X 378)), (3, .ref (fw_ad X 386)), (4, .ref (fw_ad X 387)), (5, .int i)] := hl
  unfold F_cs_12 at hF
  refine lv_aload_n hx hb dL_law_886 rfl (lv_at hl 1 rfl) ?_
  obtain ⟨r2, hf1, hF⟩ := bx_e hF
  refine fr_cVi (As := []) (rest := []) C B (cm_X8_tickCount hf1) ob_8 rfl yw_X8_tickCount wm_L_225 rfl hl.1 rfl (Nat.le_of_ble_eq_true rfl) ⟨(Nat.le_of_ble_eq_true rfl), (Nat.le_of_ble_eq_true rfl)⟩ ⟨(by show cells + 0 ≤ 603072; omega), (by show slots + 0 ≤ 7194730; omega)⟩ dL_law_887 (fr_nx rfl) (fun r9 M9 H locs ho9 B => ?_)
  obtain ⟨rfl, rfl⟩ := oi_e ho9
  refine lv_aload_n hx hb dL_law_890 rfl (lv_at hl 2 rfl) ?_
  obtain ⟨r5, M6, hf4, hF⟩ := bp_e hF
  refine fr_cVi (As := []) (rest := [.int r2]) C B (cm_X9_tickCount hf4) ob_9 rfl yw_X9_tickCount wm_L_228 rfl hl.1 rfl (Nat.le_of_ble_eq_true rfl) ⟨(Nat.le_of_ble_eq_true rfl), (Nat.le_of_ble_eq_true rfl)⟩ ⟨(by show cells + 0 + 0 ≤ 603072; omega), (by show slots + 0 + 0 ≤ 7194730; omega)⟩ dL_law_891 (fr_nx rfl) (fun r9 M9 H locs ho9 B => ?_)
  obtain ⟨rfl, rfl⟩ := oi_e ho9
  refine lv_icmp_eq (tgt := 3314) hx hb dL_law_894 (by decide) (fun hc => ?_) (fun hc => ?_)
  · have hF := it_t hF hc
    have hF := Option.some.inj hF
    subst hF
    exact W.widen (by show cells + 0 + 0 ≤ cells + 30; omega) (by show slots + 0 + 0 ≤ slots + 3000; omega) (kk H locs ls B (lv_sub hl [0, 1, 2, 3, 4, 5] rfl))
  · have hF := it_f hF hc
    cases hF
def F_cs_13 (M : fw_M) (xs : Nat → Int32) (i : Int32) : Option fw_M := bd_x (F_X8_tramCount M ) fun r2 => bd_p (F_X9_tramCount M ) fun r5 M6 => if r2 = r5 then (some M6) else (none)
set_option maxHeartbeats 4000000 in
set_option maxRecDepth 100000 in
theorem cs_13 (hlt : l.stackTraces = false) (hC : fl_C X p c s m b L xs) {i : Int32} (h1 : vp_in (i + 1) L) (h2 : vp_in (i + 2) L) (h3 : vp_in (i + 3) L) {M M0 : fw_M} {H : Heap} {locs : List Loc} {ls : Array Slot} {cells slots : Nat} (hF : F_cs_13 M xs i = some M0) (B : fr_H X s M H locs) (hl : lv_has ls 9 (fl_lv X b i)) (hcc : cells + 30 ≤ 603072) (hss : slots + 3000 ≤ 7194730) (kk : ∀ (H1 : Heap) (locs1 : List Loc) (ls1 : Array Slot), fr_H X s M0 H1 locs1 → lv_has ls1 9 (fl_lv X b i) → W p l e room_1 s m #[Value.ref b] below meth c H1 locs1 (cells + 30) (slots + 3000) Q (F0 m 3314 ls1 [])) : W p l e room_1 s m #[Value.ref b] below meth c H locs cells slots Q (F0 m 899 ls []) := by
  have C := hC.1
  have hx := C.1.1
  have hb := C.1.2.1
  have hl : lv_has ls 9 [(0, .ref b), (1, .ref (fw_ad X 352)), (2, .ref (fw_ad X 378)), (3, .ref (fw_ad X 386)), (4, .ref (fw_ad X 387)), (5, .int i)] := hl
  unfold F_cs_13 at hF
  refine lv_aload_n hx hb dL_law_899 rfl (lv_at hl 1 rfl) ?_
  obtain ⟨r2, hf1, hF⟩ := bx_e hF
  refine fr_cVi (As := []) (rest := []) C B (cm_X8_tramCount hf1) ob_8 rfl yw_X8_tramCount wm_L_229 rfl hl.1 rfl (Nat.le_of_ble_eq_true rfl) ⟨(Nat.le_of_ble_eq_true rfl), (Nat.le_of_ble_eq_true rfl)⟩ ⟨(by show cells + 0 ≤ 603072; omega), (by show slots + 0 ≤ 7194730; omega)⟩ dL_law_900 (fr_nx rfl) (fun r9 M9 H locs ho9 B => ?_)
  obtain ⟨rfl, rfl⟩ := oi_e ho9
  refine lv_aload_n hx hb dL_law_903 rfl (lv_at hl 2 rfl) ?_
  obtain ⟨r5, M6, hf4, hF⟩ := bp_e hF
  refine fr_cVi (As := []) (rest := [.int r2]) C B (cm_X9_tramCount hf4) ob_9 rfl yw_X9_tramCount wm_L_232 rfl hl.1 rfl (Nat.le_of_ble_eq_true rfl) ⟨(Nat.le_of_ble_eq_true rfl), (Nat.le_of_ble_eq_true rfl)⟩ ⟨(by show cells + 0 + 0 ≤ 603072; omega), (by show slots + 0 + 0 ≤ 7194730; omega)⟩ dL_law_904 (fr_nx rfl) (fun r9 M9 H locs ho9 B => ?_)
  obtain ⟨rfl, rfl⟩ := oi_e ho9
  refine lv_icmp_eq (tgt := 3314) hx hb dL_law_907 (by decide) (fun hc => ?_) (fun hc => ?_)
  · have hF := it_t hF hc
    have hF := Option.some.inj hF
    subst hF
    exact W.widen (by show cells + 0 + 0 ≤ cells + 30; omega) (by show slots + 0 + 0 ≤ slots + 3000; omega) (kk H locs ls B (lv_sub hl [0, 1, 2, 3, 4, 5] rfl))
  · have hF := it_f hF hc
    cases hF
def F_cs_14 (M : fw_M) (xs : Nat → Int32) (i : Int32) : Option fw_M := bd_p (F_L_lineOfTram M (xs (i + 1).toNatClampNeg)) fun k1 M2 => bd_p (F_X9_lineOfTram M2 (xs (i + 1).toNatClampNeg)) fun r5 M6 => bd_x (F_X9_thrown M6 ) fun r8 => if r8 = k1 then (if k1 = 0 then (if (lg_cmp ((M6 386 0).toInt64) ((r5 : Int32).toInt64)) = 0 then (some M6) else (none)) else (some M6)) else (none)
set_option maxHeartbeats 4000000 in
set_option maxRecDepth 100000 in
theorem cs_14 (hlt : l.stackTraces = false) (hC : fl_C X p c s m b L xs) {i : Int32} (h1 : vp_in (i + 1) L) (h2 : vp_in (i + 2) L) (h3 : vp_in (i + 3) L) {M M0 : fw_M} {H : Heap} {locs : List Loc} {ls : Array Slot} {cells slots : Nat} (hF : F_cs_14 M xs i = some M0) (B : fr_H X s M H locs) (hl : lv_has ls 9 (fl_lv X b i)) (hcc : cells + 30 ≤ 603072) (hss : slots + 3000 ≤ 7194730) (kk : ∀ (H1 : Heap) (locs1 : List Loc) (ls1 : Array Slot), fr_H X s M0 H1 locs1 → lv_has ls1 9 (fl_lv X b i) → W p l e room_1 s m #[Value.ref b] below meth c H1 locs1 (cells + 30) (slots + 3000) Q (F0 m 3314 ls1 [])) : W p l e room_1 s m #[Value.ref b] below meth c H locs cells slots Q (F0 m 912 ls []) := by
  have C := hC.1
  have hx := C.1.1
  have hb := C.1.2.1
  have hl : lv_has ls 9 [(0, .ref b), (1, .ref (fw_ad X 352)), (2, .ref (fw_ad X 378)), (3, .ref (fw_ad X 386)), (4, .ref (fw_ad X 387)), (5, .int i)] := hl
  unfold F_cs_14 at hF
  refine lv_aload_n hx hb dL_law_912 rfl (lv_at hl 1 rfl) ?_
  refine lv_aload_n hx hb dL_law_913 rfl (lv_at hl 0 rfl) ?_
  refine lv_iload hx hb dL_law_914 (lv_at hl 5 rfl) ?_
  refine lv_iconst (v := 1) hx hb dL_law_916 (by decide) ?_
  refine lv_iadd hx hb dL_law_917 ?_
  refine fl_sld hC B h1 dL_law_918 ?_
  refine lv_aload_n hx hb dL_law_919 rfl (lv_at hl 3 rfl) ?_
  obtain ⟨k1, M2, hf3, hF⟩ := bp_e hF
  refine fr_cHi (As := [.ref (fw_ad X 352), .int (xs (i + 1).toNatClampNeg), .ref (fw_ad X 386)]) (rest := []) C B (cm_L_lineOfTram hlt hf3) yh_L_lineOfTram wm_L_233 rfl hl.1 rfl (Nat.le_of_ble_eq_true rfl) ⟨(Nat.le_of_ble_eq_true rfl), (Nat.le_of_ble_eq_true rfl)⟩ ⟨(by show cells + 1 ≤ 603072; omega), (by show slots + 6 ≤ 7194730; omega)⟩ dL_law_920 (fun H locs B => ?_)
  have B : fr_H X s M2 H locs := B
  refine lv_istore (lv' := [(6, .int k1), (0, .ref b), (1, .ref (fw_ad X 352)), (2, .ref (fw_ad X 378)), (3, .ref (fw_ad X 386)), (4, .ref (fw_ad X 387)), (5, .int i)]) hx hb dL_law_923 hl (by decide) rfl (fun ls hl => ?_)
  refine lv_aload_n hx hb dL_law_925 rfl (lv_at hl 3 rfl) ?_
  refine lv_aload_n hx hb dL_law_926 rfl (lv_at hl 1 rfl) ?_
  refine lv_iload hx hb dL_law_927 (lv_at hl 6 rfl) ?_
  refine lv_iconst (v := 1) hx hb dL_law_929 (by decide) ?_
  refine lv_iadd hx hb dL_law_930 ?_
  refine fl_sld hC B h1 dL_law_931 ?_
  obtain ⟨r5, M6, hf4, hF⟩ := bp_e hF
  refine fr_cVi (As := [.int (xs (i + 1).toNatClampNeg)]) (rest := []) C B (cm_X9_lineOfTram hf4) ob_9 rfl yw_X9_lineOfTram wm_L_235 rfl hl.1 rfl (Nat.le_of_ble_eq_true rfl) ⟨(Nat.le_of_ble_eq_true rfl), (Nat.le_of_ble_eq_true rfl)⟩ ⟨(by show cells + 1 + 0 ≤ 603072; omega), (by show slots + 6 + 0 ≤ 7194730; omega)⟩ dL_law_932 (fr_nx rfl) (fun r9 M9 H locs ho9 B => ?_)
  obtain ⟨rfl, rfl⟩ := oi_e ho9
  refine lv_istore (lv' := [(7, .int r5), (6, .int k1), (0, .ref b), (1, .ref (fw_ad X 352)), (2, .ref (fw_ad X 378)), (3, .ref (fw_ad X 386)), (4, .ref (fw_ad X 387)), (5, .int i)]) hx hb dL_law_935 hl (by decide) rfl (fun ls hl => ?_)
  refine lv_aload_n hx hb dL_law_937 rfl (lv_at hl 4 rfl) ?_
  obtain ⟨r8, hf7, hF⟩ := bx_e hF
  refine fr_cVi (As := []) (rest := []) C B (cm_X9_thrown hf7) ob_9 rfl yw_X9_thrown wm_L_185 rfl hl.1 rfl (Nat.le_of_ble_eq_true rfl) ⟨(Nat.le_of_ble_eq_true rfl), (Nat.le_of_ble_eq_true rfl)⟩ ⟨(by show cells + 1 + 0 + 0 ≤ 603072; omega), (by show slots + 6 + 0 + 0 ≤ 7194730; omega)⟩ dL_law_938 (fr_nx rfl) (fun r9 M9 H locs ho9 B => ?_)
  obtain ⟨rfl, rfl⟩ := oi_e ho9
  refine lv_iload hx hb dL_law_941 (lv_at hl 1 rfl) ?_
  refine lv_icmp_eq (tgt := 948) hx hb dL_law_943 (by decide) (fun hc => ?_) (fun hc => ?_)
  · have hF := it_t hF hc
    refine lv_iload hx hb dL_law_948 (lv_at hl 1 rfl) ?_
    refine lv_if_ne (tgt := 965) hx hb dL_law_950 (by decide) (fun hc => ?_) (fun hc => ?_)
    · have hF := it_f hF hc
      refine lv_goto (tgt := 3314) hx hb dL_law_965 (by decide) ?_
      have hF := Option.some.inj hF
      subst hF
      exact W.widen (by show cells + 1 + 0 + 0 ≤ cells + 30; omega) (by show slots + 6 + 0 + 0 ≤ slots + 3000; omega) (kk H locs ls B (lv_sub hl [2, 3, 4, 5, 6, 7] rfl))
    · have hF := it_t hF hc
      refine lv_aload_n hx hb dL_law_953 rfl (lv_at hl 5 rfl) ?_
      refine lv_iconst (v := 0) hx hb dL_law_954 (by decide) ?_
      refine fr_ll C B dL_law_955 ?_
      refine lv_iload hx hb dL_law_956 (lv_at hl 0 rfl) ?_
      refine lv_i2l hx hb dL_law_958 rfl ?_
      refine W.lcmp hx hb dL_law_959 ?_
      refine lv_if_eq (tgt := 965) hx hb dL_law_960 (by decide) (fun hc => ?_) (fun hc => ?_)
      · have hF := it_t hF hc
        refine lv_goto (tgt := 3314) hx hb dL_law_965 (by decide) ?_
        have hF := Option.some.inj hF
        subst hF
        exact W.widen (by show cells + 1 + 0 + 0 ≤ cells + 30; omega) (by show slots + 6 + 0 + 0 ≤ slots + 3000; omega) (kk H locs ls B (lv_sub hl [2, 3, 4, 5, 6, 7] rfl))
      · have hF := it_f hF hc
        cases hF
  · have hF := it_f hF hc
    cases hF
def F_cs_15 (M : fw_M) (xs : Nat → Int32) (i : Int32) : Option fw_M := bd_p (F_L_stopOfTram M (xs (i + 1).toNatClampNeg)) fun k1 M2 => bd_p (F_X9_stopOfTram M2 (xs (i + 1).toNatClampNeg)) fun r5 M6 => bd_x (F_X9_thrown M6 ) fun r8 => if r8 = k1 then (if k1 = 0 then (if (lg_cmp ((M6 386 0).toInt64) ((r5 : Int32).toInt64)) = 0 then (some M6) else (none)) else (some M6)) else (none)
set_option maxHeartbeats 4000000 in
set_option maxRecDepth 100000 in
theorem cs_15 (hlt : l.stackTraces = false) (hC : fl_C X p c s m b L xs) {i : Int32} (h1 : vp_in (i + 1) L) (h2 : vp_in (i + 2) L) (h3 : vp_in (i + 3) L) {M M0 : fw_M} {H : Heap} {locs : List Loc} {ls : Array Slot} {cells slots : Nat} (hF : F_cs_15 M xs i = some M0) (B : fr_H X s M H locs) (hl : lv_has ls 9 (fl_lv X b i)) (hcc : cells + 30 ≤ 603072) (hss : slots + 3000 ≤ 7194730) (kk : ∀ (H1 : Heap) (locs1 : List Loc) (ls1 : Array Slot), fr_H X s M0 H1 locs1 → lv_has ls1 9 (fl_lv X b i) → W p l e room_1 s m #[Value.ref b] below meth c H1 locs1 (cells + 30) (slots + 3000) Q (F0 m 3314 ls1 [])) : W p l e room_1 s m #[Value.ref b] below meth c H locs cells slots Q (F0 m 968 ls []) := by
  have C := hC.1
  have hx := C.1.1
  have hb := C.1.2.1
  have hl : lv_has ls 9 [(0, .ref b), (1, .ref (fw_ad X 352)), (2, .ref (fw_ad X 378)), (3, .ref (fw_ad X 386)), (4, .ref (fw_ad X 387)), (5, .int i)] := hl
  unfold F_cs_15 at hF
  refine lv_aload_n hx hb dL_law_968 rfl (lv_at hl 1 rfl) ?_
  refine lv_aload_n hx hb dL_law_969 rfl (lv_at hl 0 rfl) ?_
  refine lv_iload hx hb dL_law_970 (lv_at hl 5 rfl) ?_
  refine lv_iconst (v := 1) hx hb dL_law_972 (by decide) ?_
  refine lv_iadd hx hb dL_law_973 ?_
  refine fl_sld hC B h1 dL_law_974 ?_
  refine lv_aload_n hx hb dL_law_975 rfl (lv_at hl 3 rfl) ?_
  obtain ⟨k1, M2, hf3, hF⟩ := bp_e hF
  refine fr_cHi (As := [.ref (fw_ad X 352), .int (xs (i + 1).toNatClampNeg), .ref (fw_ad X 386)]) (rest := []) C B (cm_L_stopOfTram hlt hf3) yh_L_stopOfTram wm_L_236 rfl hl.1 rfl (Nat.le_of_ble_eq_true rfl) ⟨(Nat.le_of_ble_eq_true rfl), (Nat.le_of_ble_eq_true rfl)⟩ ⟨(by show cells + 1 ≤ 603072; omega), (by show slots + 6 ≤ 7194730; omega)⟩ dL_law_976 (fun H locs B => ?_)
  have B : fr_H X s M2 H locs := B
  refine lv_istore (lv' := [(6, .int k1), (0, .ref b), (1, .ref (fw_ad X 352)), (2, .ref (fw_ad X 378)), (3, .ref (fw_ad X 386)), (4, .ref (fw_ad X 387)), (5, .int i)]) hx hb dL_law_979 hl (by decide) rfl (fun ls hl => ?_)
  refine lv_aload_n hx hb dL_law_981 rfl (lv_at hl 3 rfl) ?_
  refine lv_aload_n hx hb dL_law_982 rfl (lv_at hl 1 rfl) ?_
  refine lv_iload hx hb dL_law_983 (lv_at hl 6 rfl) ?_
  refine lv_iconst (v := 1) hx hb dL_law_985 (by decide) ?_
  refine lv_iadd hx hb dL_law_986 ?_
  refine fl_sld hC B h1 dL_law_987 ?_
  obtain ⟨r5, M6, hf4, hF⟩ := bp_e hF
  refine fr_cVi (As := [.int (xs (i + 1).toNatClampNeg)]) (rest := []) C B (cm_X9_stopOfTram hf4) ob_9 rfl yw_X9_stopOfTram wm_L_238 rfl hl.1 rfl (Nat.le_of_ble_eq_true rfl) ⟨(Nat.le_of_ble_eq_true rfl), (Nat.le_of_ble_eq_true rfl)⟩ ⟨(by show cells + 1 + 0 ≤ 603072; omega), (by show slots + 6 + 0 ≤ 7194730; omega)⟩ dL_law_988 (fr_nx rfl) (fun r9 M9 H locs ho9 B => ?_)
  obtain ⟨rfl, rfl⟩ := oi_e ho9
  refine lv_istore (lv' := [(7, .int r5), (6, .int k1), (0, .ref b), (1, .ref (fw_ad X 352)), (2, .ref (fw_ad X 378)), (3, .ref (fw_ad X 386)), (4, .ref (fw_ad X 387)), (5, .int i)]) hx hb dL_law_991 hl (by decide) rfl (fun ls hl => ?_)
  refine lv_aload_n hx hb dL_law_993 rfl (lv_at hl 4 rfl) ?_
  obtain ⟨r8, hf7, hF⟩ := bx_e hF
  refine fr_cVi (As := []) (rest := []) C B (cm_X9_thrown hf7) ob_9 rfl yw_X9_thrown wm_L_185 rfl hl.1 rfl (Nat.le_of_ble_eq_true rfl) ⟨(Nat.le_of_ble_eq_true rfl), (Nat.le_of_ble_eq_true rfl)⟩ ⟨(by show cells + 1 + 0 + 0 ≤ 603072; omega), (by show slots + 6 + 0 + 0 ≤ 7194730; omega)⟩ dL_law_994 (fr_nx rfl) (fun r9 M9 H locs ho9 B => ?_)
  obtain ⟨rfl, rfl⟩ := oi_e ho9
  refine lv_iload hx hb dL_law_997 (lv_at hl 1 rfl) ?_
  refine lv_icmp_eq (tgt := 1004) hx hb dL_law_999 (by decide) (fun hc => ?_) (fun hc => ?_)
  · have hF := it_t hF hc
    refine lv_iload hx hb dL_law_1004 (lv_at hl 1 rfl) ?_
    refine lv_if_ne (tgt := 1021) hx hb dL_law_1006 (by decide) (fun hc => ?_) (fun hc => ?_)
    · have hF := it_f hF hc
      refine lv_goto (tgt := 3314) hx hb dL_law_1021 (by decide) ?_
      have hF := Option.some.inj hF
      subst hF
      exact W.widen (by show cells + 1 + 0 + 0 ≤ cells + 30; omega) (by show slots + 6 + 0 + 0 ≤ slots + 3000; omega) (kk H locs ls B (lv_sub hl [2, 3, 4, 5, 6, 7] rfl))
    · have hF := it_t hF hc
      refine lv_aload_n hx hb dL_law_1009 rfl (lv_at hl 5 rfl) ?_
      refine lv_iconst (v := 0) hx hb dL_law_1010 (by decide) ?_
      refine fr_ll C B dL_law_1011 ?_
      refine lv_iload hx hb dL_law_1012 (lv_at hl 0 rfl) ?_
      refine lv_i2l hx hb dL_law_1014 rfl ?_
      refine W.lcmp hx hb dL_law_1015 ?_
      refine lv_if_eq (tgt := 1021) hx hb dL_law_1016 (by decide) (fun hc => ?_) (fun hc => ?_)
      · have hF := it_t hF hc
        refine lv_goto (tgt := 3314) hx hb dL_law_1021 (by decide) ?_
        have hF := Option.some.inj hF
        subst hF
        exact W.widen (by show cells + 1 + 0 + 0 ≤ cells + 30; omega) (by show slots + 6 + 0 + 0 ≤ slots + 3000; omega) (kk H locs ls B (lv_sub hl [2, 3, 4, 5, 6, 7] rfl))
      · have hF := it_f hF hc
        cases hF
  · have hF := it_f hF hc
    cases hF
def F_cs_16 (M : fw_M) (xs : Nat → Int32) (i : Int32) : Option fw_M := bd_p (F_L_isForward M (xs (i + 1).toNatClampNeg)) fun k1 M2 => bd_p (F_X9_isForward M2 (xs (i + 1).toNatClampNeg)) fun r5 M6 => bd_x (F_X9_thrown M6 ) fun r8 => if r8 = k1 then (if k1 = 0 then (if r5 = 0 then (if (lg_cmp ((M6 386 0).toInt64) ((0 : Int32).toInt64)) = 0 then (some M6) else (none)) else (if (lg_cmp ((M6 386 0).toInt64) ((1 : Int32).toInt64)) = 0 then (some M6) else (none))) else (some M6)) else (none)
set_option maxHeartbeats 4000000 in
set_option maxRecDepth 100000 in
theorem cs_16 (hlt : l.stackTraces = false) (hC : fl_C X p c s m b L xs) {i : Int32} (h1 : vp_in (i + 1) L) (h2 : vp_in (i + 2) L) (h3 : vp_in (i + 3) L) {M M0 : fw_M} {H : Heap} {locs : List Loc} {ls : Array Slot} {cells slots : Nat} (hF : F_cs_16 M xs i = some M0) (B : fr_H X s M H locs) (hl : lv_has ls 9 (fl_lv X b i)) (hcc : cells + 30 ≤ 603072) (hss : slots + 3000 ≤ 7194730) (kk : ∀ (H1 : Heap) (locs1 : List Loc) (ls1 : Array Slot), fr_H X s M0 H1 locs1 → lv_has ls1 9 (fl_lv X b i) → W p l e room_1 s m #[Value.ref b] below meth c H1 locs1 (cells + 30) (slots + 3000) Q (F0 m 3314 ls1 [])) : W p l e room_1 s m #[Value.ref b] below meth c H locs cells slots Q (F0 m 1024 ls []) := by
  have C := hC.1
  have hx := C.1.1
  have hb := C.1.2.1
  have hl : lv_has ls 9 [(0, .ref b), (1, .ref (fw_ad X 352)), (2, .ref (fw_ad X 378)), (3, .ref (fw_ad X 386)), (4, .ref (fw_ad X 387)), (5, .int i)] := hl
  unfold F_cs_16 at hF
  refine lv_aload_n hx hb dL_law_1024 rfl (lv_at hl 1 rfl) ?_
  refine lv_aload_n hx hb dL_law_1025 rfl (lv_at hl 0 rfl) ?_
  refine lv_iload hx hb dL_law_1026 (lv_at hl 5 rfl) ?_
  refine lv_iconst (v := 1) hx hb dL_law_1028 (by decide) ?_
  refine lv_iadd hx hb dL_law_1029 ?_
  refine fl_sld hC B h1 dL_law_1030 ?_
  refine lv_aload_n hx hb dL_law_1031 rfl (lv_at hl 3 rfl) ?_
  obtain ⟨k1, M2, hf3, hF⟩ := bp_e hF
  refine fr_cHi (As := [.ref (fw_ad X 352), .int (xs (i + 1).toNatClampNeg), .ref (fw_ad X 386)]) (rest := []) C B (cm_L_isForward hlt hf3) yh_L_isForward wm_L_239 rfl hl.1 rfl (Nat.le_of_ble_eq_true rfl) ⟨(Nat.le_of_ble_eq_true rfl), (Nat.le_of_ble_eq_true rfl)⟩ ⟨(by show cells + 1 ≤ 603072; omega), (by show slots + 6 ≤ 7194730; omega)⟩ dL_law_1032 (fun H locs B => ?_)
  have B : fr_H X s M2 H locs := B
  refine lv_istore (lv' := [(6, .int k1), (0, .ref b), (1, .ref (fw_ad X 352)), (2, .ref (fw_ad X 378)), (3, .ref (fw_ad X 386)), (4, .ref (fw_ad X 387)), (5, .int i)]) hx hb dL_law_1035 hl (by decide) rfl (fun ls hl => ?_)
  refine lv_aload_n hx hb dL_law_1037 rfl (lv_at hl 3 rfl) ?_
  refine lv_aload_n hx hb dL_law_1038 rfl (lv_at hl 1 rfl) ?_
  refine lv_iload hx hb dL_law_1039 (lv_at hl 6 rfl) ?_
  refine lv_iconst (v := 1) hx hb dL_law_1041 (by decide) ?_
  refine lv_iadd hx hb dL_law_1042 ?_
  refine fl_sld hC B h1 dL_law_1043 ?_
  obtain ⟨r5, M6, hf4, hF⟩ := bp_e hF
  refine fr_cVi (As := [.int (xs (i + 1).toNatClampNeg)]) (rest := []) C B (cm_X9_isForward hf4) ob_9 rfl yw_X9_isForward wm_L_241 rfl hl.1 rfl (Nat.le_of_ble_eq_true rfl) ⟨(Nat.le_of_ble_eq_true rfl), (Nat.le_of_ble_eq_true rfl)⟩ ⟨(by show cells + 1 + 0 ≤ 603072; omega), (by show slots + 6 + 0 ≤ 7194730; omega)⟩ dL_law_1044 (fr_nx rfl) (fun r9 M9 H locs ho9 B => ?_)
  obtain ⟨rfl, rfl⟩ := oi_e ho9
  refine lv_istore (lv' := [(7, .int r5), (6, .int k1), (0, .ref b), (1, .ref (fw_ad X 352)), (2, .ref (fw_ad X 378)), (3, .ref (fw_ad X 386)), (4, .ref (fw_ad X 387)), (5, .int i)]) hx hb dL_law_1047 hl (by decide) rfl (fun ls hl => ?_)
  refine lv_aload_n hx hb dL_law_1049 rfl (lv_at hl 4 rfl) ?_
  obtain ⟨r8, hf7, hF⟩ := bx_e hF
  refine fr_cVi (As := []) (rest := []) C B (cm_X9_thrown hf7) ob_9 rfl yw_X9_thrown wm_L_185 rfl hl.1 rfl (Nat.le_of_ble_eq_true rfl) ⟨(Nat.le_of_ble_eq_true rfl), (Nat.le_of_ble_eq_true rfl)⟩ ⟨(by show cells + 1 + 0 + 0 ≤ 603072; omega), (by show slots + 6 + 0 + 0 ≤ 7194730; omega)⟩ dL_law_1050 (fr_nx rfl) (fun r9 M9 H locs ho9 B => ?_)
  obtain ⟨rfl, rfl⟩ := oi_e ho9
  refine lv_iload hx hb dL_law_1053 (lv_at hl 1 rfl) ?_
  refine lv_icmp_eq (tgt := 1060) hx hb dL_law_1055 (by decide) (fun hc => ?_) (fun hc => ?_)
  · have hF := it_t hF hc
    refine lv_iload hx hb dL_law_1060 (lv_at hl 1 rfl) ?_
    refine lv_if_ne (tgt := 1084) hx hb dL_law_1062 (by decide) (fun hc => ?_) (fun hc => ?_)
    · have hF := it_f hF hc
      refine lv_goto (tgt := 3314) hx hb dL_law_1084 (by decide) ?_
      have hF := Option.some.inj hF
      subst hF
      exact W.widen (by show cells + 1 + 0 + 0 ≤ cells + 30; omega) (by show slots + 6 + 0 + 0 ≤ slots + 3000; omega) (kk H locs ls B (lv_sub hl [2, 3, 4, 5, 6, 7] rfl))
    · have hF := it_t hF hc
      refine lv_aload_n hx hb dL_law_1065 rfl (lv_at hl 5 rfl) ?_
      refine lv_iconst (v := 0) hx hb dL_law_1066 (by decide) ?_
      refine fr_ll C B dL_law_1067 ?_
      refine lv_iload hx hb dL_law_1068 (lv_at hl 0 rfl) ?_
      refine lv_if_eq (tgt := 1077) hx hb dL_law_1070 (by decide) (fun hc => ?_) (fun hc => ?_)
      · have hF := it_t hF hc
        refine lv_lconst (v := (0 : Int32).toInt64) hx hb dL_law_1077 (by decide) ?_
        refine W.lcmp hx hb dL_law_1078 ?_
        refine lv_if_eq (tgt := 1084) hx hb dL_law_1079 (by decide) (fun hc => ?_) (fun hc => ?_)
        · have hF := it_t hF hc
          refine lv_goto (tgt := 3314) hx hb dL_law_1084 (by decide) ?_
          have hF := Option.some.inj hF
          subst hF
          exact W.widen (by show cells + 1 + 0 + 0 ≤ cells + 30; omega) (by show slots + 6 + 0 + 0 ≤ slots + 3000; omega) (kk H locs ls B (lv_sub hl [2, 3, 4, 5, 6, 7] rfl))
        · have hF := it_f hF hc
          cases hF
      · have hF := it_f hF hc
        refine lv_lconst (v := (1 : Int32).toInt64) hx hb dL_law_1073 (by decide) ?_
        refine lv_goto (tgt := 1078) hx hb dL_law_1074 (by decide) ?_
        refine W.lcmp hx hb dL_law_1078 ?_
        refine lv_if_eq (tgt := 1084) hx hb dL_law_1079 (by decide) (fun hc => ?_) (fun hc => ?_)
        · have hF := it_t hF hc
          refine lv_goto (tgt := 3314) hx hb dL_law_1084 (by decide) ?_
          have hF := Option.some.inj hF
          subst hF
          exact W.widen (by show cells + 1 + 0 + 0 ≤ cells + 30; omega) (by show slots + 6 + 0 + 0 ≤ slots + 3000; omega) (kk H locs ls B (lv_sub hl [2, 3, 4, 5, 6, 7] rfl))
        · have hF := it_f hF hc
          cases hF
  · have hF := it_f hF hc
    cases hF
def F_cs_17 (M : fw_M) (xs : Nat → Int32) (i : Int32) : Option fw_M := bd_p (F_L_crowdOf M (xs (i + 1).toNatClampNeg)) fun k1 M2 => bd_p (F_X9_crowdOf M2 (xs (i + 1).toNatClampNeg)) fun r5 M6 => bd_x (F_X9_thrown M6 ) fun r8 => if r8 = k1 then (if k1 = 0 then (if (lg_cmp ((M6 386 0).toInt64) ((r5 : Int32).toInt64)) = 0 then (some M6) else (none)) else (some M6)) else (none)
set_option maxHeartbeats 4000000 in
set_option maxRecDepth 100000 in
theorem cs_17 (hlt : l.stackTraces = false) (hC : fl_C X p c s m b L xs) {i : Int32} (h1 : vp_in (i + 1) L) (h2 : vp_in (i + 2) L) (h3 : vp_in (i + 3) L) {M M0 : fw_M} {H : Heap} {locs : List Loc} {ls : Array Slot} {cells slots : Nat} (hF : F_cs_17 M xs i = some M0) (B : fr_H X s M H locs) (hl : lv_has ls 9 (fl_lv X b i)) (hcc : cells + 30 ≤ 603072) (hss : slots + 3000 ≤ 7194730) (kk : ∀ (H1 : Heap) (locs1 : List Loc) (ls1 : Array Slot), fr_H X s M0 H1 locs1 → lv_has ls1 9 (fl_lv X b i) → W p l e room_1 s m #[Value.ref b] below meth c H1 locs1 (cells + 30) (slots + 3000) Q (F0 m 3314 ls1 [])) : W p l e room_1 s m #[Value.ref b] below meth c H locs cells slots Q (F0 m 1087 ls []) := by
  have C := hC.1
  have hx := C.1.1
  have hb := C.1.2.1
  have hl : lv_has ls 9 [(0, .ref b), (1, .ref (fw_ad X 352)), (2, .ref (fw_ad X 378)), (3, .ref (fw_ad X 386)), (4, .ref (fw_ad X 387)), (5, .int i)] := hl
  unfold F_cs_17 at hF
  refine lv_aload_n hx hb dL_law_1087 rfl (lv_at hl 1 rfl) ?_
  refine lv_aload_n hx hb dL_law_1088 rfl (lv_at hl 0 rfl) ?_
  refine lv_iload hx hb dL_law_1089 (lv_at hl 5 rfl) ?_
  refine lv_iconst (v := 1) hx hb dL_law_1091 (by decide) ?_
  refine lv_iadd hx hb dL_law_1092 ?_
  refine fl_sld hC B h1 dL_law_1093 ?_
  refine lv_aload_n hx hb dL_law_1094 rfl (lv_at hl 3 rfl) ?_
  obtain ⟨k1, M2, hf3, hF⟩ := bp_e hF
  refine fr_cHi (As := [.ref (fw_ad X 352), .int (xs (i + 1).toNatClampNeg), .ref (fw_ad X 386)]) (rest := []) C B (cm_L_crowdOf hlt hf3) yh_L_crowdOf wm_L_242 rfl hl.1 rfl (Nat.le_of_ble_eq_true rfl) ⟨(Nat.le_of_ble_eq_true rfl), (Nat.le_of_ble_eq_true rfl)⟩ ⟨(by show cells + 1 ≤ 603072; omega), (by show slots + 6 ≤ 7194730; omega)⟩ dL_law_1095 (fun H locs B => ?_)
  have B : fr_H X s M2 H locs := B
  refine lv_istore (lv' := [(6, .int k1), (0, .ref b), (1, .ref (fw_ad X 352)), (2, .ref (fw_ad X 378)), (3, .ref (fw_ad X 386)), (4, .ref (fw_ad X 387)), (5, .int i)]) hx hb dL_law_1098 hl (by decide) rfl (fun ls hl => ?_)
  refine lv_aload_n hx hb dL_law_1100 rfl (lv_at hl 3 rfl) ?_
  refine lv_aload_n hx hb dL_law_1101 rfl (lv_at hl 1 rfl) ?_
  refine lv_iload hx hb dL_law_1102 (lv_at hl 6 rfl) ?_
  refine lv_iconst (v := 1) hx hb dL_law_1104 (by decide) ?_
  refine lv_iadd hx hb dL_law_1105 ?_
  refine fl_sld hC B h1 dL_law_1106 ?_
  obtain ⟨r5, M6, hf4, hF⟩ := bp_e hF
  refine fr_cVi (As := [.int (xs (i + 1).toNatClampNeg)]) (rest := []) C B (cm_X9_crowdOf hf4) ob_9 rfl yw_X9_crowdOf wm_L_244 rfl hl.1 rfl (Nat.le_of_ble_eq_true rfl) ⟨(Nat.le_of_ble_eq_true rfl), (Nat.le_of_ble_eq_true rfl)⟩ ⟨(by show cells + 1 + 0 ≤ 603072; omega), (by show slots + 6 + 0 ≤ 7194730; omega)⟩ dL_law_1107 (fr_nx rfl) (fun r9 M9 H locs ho9 B => ?_)
  obtain ⟨rfl, rfl⟩ := oi_e ho9
  refine lv_istore (lv' := [(7, .int r5), (6, .int k1), (0, .ref b), (1, .ref (fw_ad X 352)), (2, .ref (fw_ad X 378)), (3, .ref (fw_ad X 386)), (4, .ref (fw_ad X 387)), (5, .int i)]) hx hb dL_law_1110 hl (by decide) rfl (fun ls hl => ?_)
  refine lv_aload_n hx hb dL_law_1112 rfl (lv_at hl 4 rfl) ?_
  obtain ⟨r8, hf7, hF⟩ := bx_e hF
  refine fr_cVi (As := []) (rest := []) C B (cm_X9_thrown hf7) ob_9 rfl yw_X9_thrown wm_L_185 rfl hl.1 rfl (Nat.le_of_ble_eq_true rfl) ⟨(Nat.le_of_ble_eq_true rfl), (Nat.le_of_ble_eq_true rfl)⟩ ⟨(by show cells + 1 + 0 + 0 ≤ 603072; omega), (by show slots + 6 + 0 + 0 ≤ 7194730; omega)⟩ dL_law_1113 (fr_nx rfl) (fun r9 M9 H locs ho9 B => ?_)
  obtain ⟨rfl, rfl⟩ := oi_e ho9
  refine lv_iload hx hb dL_law_1116 (lv_at hl 1 rfl) ?_
  refine lv_icmp_eq (tgt := 1123) hx hb dL_law_1118 (by decide) (fun hc => ?_) (fun hc => ?_)
  · have hF := it_t hF hc
    refine lv_iload hx hb dL_law_1123 (lv_at hl 1 rfl) ?_
    refine lv_if_ne (tgt := 1140) hx hb dL_law_1125 (by decide) (fun hc => ?_) (fun hc => ?_)
    · have hF := it_f hF hc
      refine lv_goto (tgt := 3314) hx hb dL_law_1140 (by decide) ?_
      have hF := Option.some.inj hF
      subst hF
      exact W.widen (by show cells + 1 + 0 + 0 ≤ cells + 30; omega) (by show slots + 6 + 0 + 0 ≤ slots + 3000; omega) (kk H locs ls B (lv_sub hl [2, 3, 4, 5, 6, 7] rfl))
    · have hF := it_t hF hc
      refine lv_aload_n hx hb dL_law_1128 rfl (lv_at hl 5 rfl) ?_
      refine lv_iconst (v := 0) hx hb dL_law_1129 (by decide) ?_
      refine fr_ll C B dL_law_1130 ?_
      refine lv_iload hx hb dL_law_1131 (lv_at hl 0 rfl) ?_
      refine lv_i2l hx hb dL_law_1133 rfl ?_
      refine W.lcmp hx hb dL_law_1134 ?_
      refine lv_if_eq (tgt := 1140) hx hb dL_law_1135 (by decide) (fun hc => ?_) (fun hc => ?_)
      · have hF := it_t hF hc
        refine lv_goto (tgt := 3314) hx hb dL_law_1140 (by decide) ?_
        have hF := Option.some.inj hF
        subst hF
        exact W.widen (by show cells + 1 + 0 + 0 ≤ cells + 30; omega) (by show slots + 6 + 0 + 0 ≤ slots + 3000; omega) (kk H locs ls B (lv_sub hl [2, 3, 4, 5, 6, 7] rfl))
      · have hF := it_f hF hc
        cases hF
  · have hF := it_f hF hc
    cases hF
def F_cs_18 (M : fw_M) (xs : Nat → Int32) (i : Int32) : Option fw_M := bd_p (F_L_fullestTram M ) fun k1 M2 => bd_p (F_X9_fullestTram M2 ) fun r5 M6 => bd_x (F_X9_thrown M6 ) fun r8 => if r8 = k1 then (if k1 = 0 then (if (lg_cmp ((M6 386 0).toInt64) ((r5 : Int32).toInt64)) = 0 then (some M6) else (none)) else (some M6)) else (none)
set_option maxHeartbeats 4000000 in
set_option maxRecDepth 100000 in
theorem cs_18 (hlt : l.stackTraces = false) (hC : fl_C X p c s m b L xs) {i : Int32} (h1 : vp_in (i + 1) L) (h2 : vp_in (i + 2) L) (h3 : vp_in (i + 3) L) {M M0 : fw_M} {H : Heap} {locs : List Loc} {ls : Array Slot} {cells slots : Nat} (hF : F_cs_18 M xs i = some M0) (B : fr_H X s M H locs) (hl : lv_has ls 9 (fl_lv X b i)) (hcc : cells + 30 ≤ 603072) (hss : slots + 3000 ≤ 7194730) (kk : ∀ (H1 : Heap) (locs1 : List Loc) (ls1 : Array Slot), fr_H X s M0 H1 locs1 → lv_has ls1 9 (fl_lv X b i) → W p l e room_1 s m #[Value.ref b] below meth c H1 locs1 (cells + 30) (slots + 3000) Q (F0 m 3314 ls1 [])) : W p l e room_1 s m #[Value.ref b] below meth c H locs cells slots Q (F0 m 1143 ls []) := by
  have C := hC.1
  have hx := C.1.1
  have hb := C.1.2.1
  have hl : lv_has ls 9 [(0, .ref b), (1, .ref (fw_ad X 352)), (2, .ref (fw_ad X 378)), (3, .ref (fw_ad X 386)), (4, .ref (fw_ad X 387)), (5, .int i)] := hl
  unfold F_cs_18 at hF
  refine lv_aload_n hx hb dL_law_1143 rfl (lv_at hl 1 rfl) ?_
  refine lv_aload_n hx hb dL_law_1144 rfl (lv_at hl 3 rfl) ?_
  obtain ⟨k1, M2, hf3, hF⟩ := bp_e hF
  refine fr_cHi (As := [.ref (fw_ad X 352), .ref (fw_ad X 386)]) (rest := []) C B (cm_L_fullestTram hlt hf3) yh_L_fullestTram wm_L_245 rfl hl.1 rfl (Nat.le_of_ble_eq_true rfl) ⟨(Nat.le_of_ble_eq_true rfl), (Nat.le_of_ble_eq_true rfl)⟩ ⟨(by show cells + 1 ≤ 603072; omega), (by show slots + 6 ≤ 7194730; omega)⟩ dL_law_1145 (fun H locs B => ?_)
  have B : fr_H X s M2 H locs := B
  refine lv_istore (lv' := [(6, .int k1), (0, .ref b), (1, .ref (fw_ad X 352)), (2, .ref (fw_ad X 378)), (3, .ref (fw_ad X 386)), (4, .ref (fw_ad X 387)), (5, .int i)]) hx hb dL_law_1148 hl (by decide) rfl (fun ls hl => ?_)
  refine lv_aload_n hx hb dL_law_1150 rfl (lv_at hl 3 rfl) ?_
  obtain ⟨r5, M6, hf4, hF⟩ := bp_e hF
  refine fr_cVi (As := []) (rest := []) C B (cm_X9_fullestTram hf4) ob_9 rfl yw_X9_fullestTram wm_L_248 rfl hl.1 rfl (Nat.le_of_ble_eq_true rfl) ⟨(Nat.le_of_ble_eq_true rfl), (Nat.le_of_ble_eq_true rfl)⟩ ⟨(by show cells + 1 + 0 ≤ 603072; omega), (by show slots + 6 + 0 ≤ 7194730; omega)⟩ dL_law_1151 (fr_nx rfl) (fun r9 M9 H locs ho9 B => ?_)
  obtain ⟨rfl, rfl⟩ := oi_e ho9
  refine lv_istore (lv' := [(7, .int r5), (6, .int k1), (0, .ref b), (1, .ref (fw_ad X 352)), (2, .ref (fw_ad X 378)), (3, .ref (fw_ad X 386)), (4, .ref (fw_ad X 387)), (5, .int i)]) hx hb dL_law_1154 hl (by decide) rfl (fun ls hl => ?_)
  refine lv_aload_n hx hb dL_law_1156 rfl (lv_at hl 4 rfl) ?_
  obtain ⟨r8, hf7, hF⟩ := bx_e hF
  refine fr_cVi (As := []) (rest := []) C B (cm_X9_thrown hf7) ob_9 rfl yw_X9_thrown wm_L_185 rfl hl.1 rfl (Nat.le_of_ble_eq_true rfl) ⟨(Nat.le_of_ble_eq_true rfl), (Nat.le_of_ble_eq_true rfl)⟩ ⟨(by show cells + 1 + 0 + 0 ≤ 603072; omega), (by show slots + 6 + 0 + 0 ≤ 7194730; omega)⟩ dL_law_1157 (fr_nx rfl) (fun r9 M9 H locs ho9 B => ?_)
  obtain ⟨rfl, rfl⟩ := oi_e ho9
  refine lv_iload hx hb dL_law_1160 (lv_at hl 1 rfl) ?_
  refine lv_icmp_eq (tgt := 1167) hx hb dL_law_1162 (by decide) (fun hc => ?_) (fun hc => ?_)
  · have hF := it_t hF hc
    refine lv_iload hx hb dL_law_1167 (lv_at hl 1 rfl) ?_
    refine lv_if_ne (tgt := 1184) hx hb dL_law_1169 (by decide) (fun hc => ?_) (fun hc => ?_)
    · have hF := it_f hF hc
      refine lv_goto (tgt := 3314) hx hb dL_law_1184 (by decide) ?_
      have hF := Option.some.inj hF
      subst hF
      exact W.widen (by show cells + 1 + 0 + 0 ≤ cells + 30; omega) (by show slots + 6 + 0 + 0 ≤ slots + 3000; omega) (kk H locs ls B (lv_sub hl [2, 3, 4, 5, 6, 7] rfl))
    · have hF := it_t hF hc
      refine lv_aload_n hx hb dL_law_1172 rfl (lv_at hl 5 rfl) ?_
      refine lv_iconst (v := 0) hx hb dL_law_1173 (by decide) ?_
      refine fr_ll C B dL_law_1174 ?_
      refine lv_iload hx hb dL_law_1175 (lv_at hl 0 rfl) ?_
      refine lv_i2l hx hb dL_law_1177 rfl ?_
      refine W.lcmp hx hb dL_law_1178 ?_
      refine lv_if_eq (tgt := 1184) hx hb dL_law_1179 (by decide) (fun hc => ?_) (fun hc => ?_)
      · have hF := it_t hF hc
        refine lv_goto (tgt := 3314) hx hb dL_law_1184 (by decide) ?_
        have hF := Option.some.inj hF
        subst hF
        exact W.widen (by show cells + 1 + 0 + 0 ≤ cells + 30; omega) (by show slots + 6 + 0 + 0 ≤ slots + 3000; omega) (kk H locs ls B (lv_sub hl [2, 3, 4, 5, 6, 7] rfl))
      · have hF := it_f hF hc
        cases hF
  · have hF := it_f hF hc
    cases hF
def F_cs_19 (M : fw_M) (xs : Nat → Int32) (i : Int32) : Option fw_M := bd_p (F_L_arrivalOf M (xs (i + 1).toNatClampNeg) (xs (i + 2).toNatClampNeg)) fun k1 M2 => bd_p (F_X9_arrivalOf M2 (xs (i + 1).toNatClampNeg) (xs (i + 2).toNatClampNeg)) fun r5 M6 => bd_x (F_X9_thrown M6 ) fun r8 => if r8 = k1 then (if k1 = 0 then (if (lg_cmp ((M6 386 0).toInt64) ((r5 : Int32).toInt64)) = 0 then (some M6) else (none)) else (some M6)) else (none)
set_option maxHeartbeats 4000000 in
set_option maxRecDepth 100000 in
theorem cs_19 (hlt : l.stackTraces = false) (hC : fl_C X p c s m b L xs) {i : Int32} (h1 : vp_in (i + 1) L) (h2 : vp_in (i + 2) L) (h3 : vp_in (i + 3) L) {M M0 : fw_M} {H : Heap} {locs : List Loc} {ls : Array Slot} {cells slots : Nat} (hF : F_cs_19 M xs i = some M0) (B : fr_H X s M H locs) (hl : lv_has ls 9 (fl_lv X b i)) (hcc : cells + 30 ≤ 603072) (hss : slots + 3000 ≤ 7194730) (kk : ∀ (H1 : Heap) (locs1 : List Loc) (ls1 : Array Slot), fr_H X s M0 H1 locs1 → lv_has ls1 9 (fl_lv X b i) → W p l e room_1 s m #[Value.ref b] below meth c H1 locs1 (cells + 30) (slots + 3000) Q (F0 m 3314 ls1 [])) : W p l e room_1 s m #[Value.ref b] below meth c H locs cells slots Q (F0 m 1187 ls []) := by
  have C := hC.1
  have hx := C.1.1
  have hb := C.1.2.1
  have hl : lv_has ls 9 [(0, .ref b), (1, .ref (fw_ad X 352)), (2, .ref (fw_ad X 378)), (3, .ref (fw_ad X 386)), (4, .ref (fw_ad X 387)), (5, .int i)] := hl
  unfold F_cs_19 at hF
  refine lv_aload_n hx hb dL_law_1187 rfl (lv_at hl 1 rfl) ?_
  refine lv_aload_n hx hb dL_law_1188 rfl (lv_at hl 0 rfl) ?_
  refine lv_iload hx hb dL_law_1189 (lv_at hl 5 rfl) ?_
  refine lv_iconst (v := 1) hx hb dL_law_1191 (by decide) ?_
  refine lv_iadd hx hb dL_law_1192 ?_
  refine fl_sld hC B h1 dL_law_1193 ?_
  refine lv_aload_n hx hb dL_law_1194 rfl (lv_at hl 0 rfl) ?_
  refine lv_iload hx hb dL_law_1195 (lv_at hl 5 rfl) ?_
  refine lv_iconst (v := 2) hx hb dL_law_1197 (by decide) ?_
  refine lv_iadd hx hb dL_law_1198 ?_
  refine fl_sld hC B h2 dL_law_1199 ?_
  refine lv_aload_n hx hb dL_law_1200 rfl (lv_at hl 3 rfl) ?_
  obtain ⟨k1, M2, hf3, hF⟩ := bp_e hF
  refine fr_cHi (As := [.ref (fw_ad X 352), .int (xs (i + 1).toNatClampNeg), .int (xs (i + 2).toNatClampNeg), .ref (fw_ad X 386)]) (rest := []) C B (cm_L_arrivalOf hlt hf3) yh_L_arrivalOf wm_L_249 rfl hl.1 rfl (Nat.le_of_ble_eq_true rfl) ⟨(Nat.le_of_ble_eq_true rfl), (Nat.le_of_ble_eq_true rfl)⟩ ⟨(by show cells + 3 ≤ 603072; omega), (by show slots + 18 ≤ 7194730; omega)⟩ dL_law_1201 (fun H locs B => ?_)
  have B : fr_H X s M2 H locs := B
  refine lv_istore (lv' := [(6, .int k1), (0, .ref b), (1, .ref (fw_ad X 352)), (2, .ref (fw_ad X 378)), (3, .ref (fw_ad X 386)), (4, .ref (fw_ad X 387)), (5, .int i)]) hx hb dL_law_1204 hl (by decide) rfl (fun ls hl => ?_)
  refine lv_aload_n hx hb dL_law_1206 rfl (lv_at hl 3 rfl) ?_
  refine lv_aload_n hx hb dL_law_1207 rfl (lv_at hl 1 rfl) ?_
  refine lv_iload hx hb dL_law_1208 (lv_at hl 6 rfl) ?_
  refine lv_iconst (v := 1) hx hb dL_law_1210 (by decide) ?_
  refine lv_iadd hx hb dL_law_1211 ?_
  refine fl_sld hC B h1 dL_law_1212 ?_
  refine lv_aload_n hx hb dL_law_1213 rfl (lv_at hl 1 rfl) ?_
  refine lv_iload hx hb dL_law_1214 (lv_at hl 6 rfl) ?_
  refine lv_iconst (v := 2) hx hb dL_law_1216 (by decide) ?_
  refine lv_iadd hx hb dL_law_1217 ?_
  refine fl_sld hC B h2 dL_law_1218 ?_
  obtain ⟨r5, M6, hf4, hF⟩ := bp_e hF
  refine fr_cVi (As := [.int (xs (i + 1).toNatClampNeg), .int (xs (i + 2).toNatClampNeg)]) (rest := []) C B (cm_X9_arrivalOf hf4) ob_9 rfl yw_X9_arrivalOf wm_L_251 rfl hl.1 rfl (Nat.le_of_ble_eq_true rfl) ⟨(Nat.le_of_ble_eq_true rfl), (Nat.le_of_ble_eq_true rfl)⟩ ⟨(by show cells + 3 + 0 ≤ 603072; omega), (by show slots + 18 + 0 ≤ 7194730; omega)⟩ dL_law_1219 (fr_nx rfl) (fun r9 M9 H locs ho9 B => ?_)
  obtain ⟨rfl, rfl⟩ := oi_e ho9
  refine lv_istore (lv' := [(7, .int r5), (6, .int k1), (0, .ref b), (1, .ref (fw_ad X 352)), (2, .ref (fw_ad X 378)), (3, .ref (fw_ad X 386)), (4, .ref (fw_ad X 387)), (5, .int i)]) hx hb dL_law_1222 hl (by decide) rfl (fun ls hl => ?_)
  refine lv_aload_n hx hb dL_law_1224 rfl (lv_at hl 4 rfl) ?_
  obtain ⟨r8, hf7, hF⟩ := bx_e hF
  refine fr_cVi (As := []) (rest := []) C B (cm_X9_thrown hf7) ob_9 rfl yw_X9_thrown wm_L_185 rfl hl.1 rfl (Nat.le_of_ble_eq_true rfl) ⟨(Nat.le_of_ble_eq_true rfl), (Nat.le_of_ble_eq_true rfl)⟩ ⟨(by show cells + 3 + 0 + 0 ≤ 603072; omega), (by show slots + 18 + 0 + 0 ≤ 7194730; omega)⟩ dL_law_1225 (fr_nx rfl) (fun r9 M9 H locs ho9 B => ?_)
  obtain ⟨rfl, rfl⟩ := oi_e ho9
  refine lv_iload hx hb dL_law_1228 (lv_at hl 1 rfl) ?_
  refine lv_icmp_eq (tgt := 1235) hx hb dL_law_1230 (by decide) (fun hc => ?_) (fun hc => ?_)
  · have hF := it_t hF hc
    refine lv_iload hx hb dL_law_1235 (lv_at hl 1 rfl) ?_
    refine lv_if_ne (tgt := 1252) hx hb dL_law_1237 (by decide) (fun hc => ?_) (fun hc => ?_)
    · have hF := it_f hF hc
      refine lv_goto (tgt := 3314) hx hb dL_law_1252 (by decide) ?_
      have hF := Option.some.inj hF
      subst hF
      exact W.widen (by show cells + 3 + 0 + 0 ≤ cells + 30; omega) (by show slots + 18 + 0 + 0 ≤ slots + 3000; omega) (kk H locs ls B (lv_sub hl [2, 3, 4, 5, 6, 7] rfl))
    · have hF := it_t hF hc
      refine lv_aload_n hx hb dL_law_1240 rfl (lv_at hl 5 rfl) ?_
      refine lv_iconst (v := 0) hx hb dL_law_1241 (by decide) ?_
      refine fr_ll C B dL_law_1242 ?_
      refine lv_iload hx hb dL_law_1243 (lv_at hl 0 rfl) ?_
      refine lv_i2l hx hb dL_law_1245 rfl ?_
      refine W.lcmp hx hb dL_law_1246 ?_
      refine lv_if_eq (tgt := 1252) hx hb dL_law_1247 (by decide) (fun hc => ?_) (fun hc => ?_)
      · have hF := it_t hF hc
        refine lv_goto (tgt := 3314) hx hb dL_law_1252 (by decide) ?_
        have hF := Option.some.inj hF
        subst hF
        exact W.widen (by show cells + 3 + 0 + 0 ≤ cells + 30; omega) (by show slots + 18 + 0 + 0 ≤ slots + 3000; omega) (kk H locs ls B (lv_sub hl [2, 3, 4, 5, 6, 7] rfl))
      · have hF := it_f hF hc
        cases hF
  · have hF := it_f hF hc
    cases hF
def F_cs_20 (M : fw_M) (xs : Nat → Int32) (i : Int32) : Option fw_M := bd_p (F_L_arrivalBySimulation M (xs (i + 1).toNatClampNeg) (xs (i + 2).toNatClampNeg)) fun k1 M2 => bd_p (F_X9_arrivalBySimulation M2 (xs (i + 1).toNatClampNeg) (xs (i + 2).toNatClampNeg)) fun r5 M6 => bd_x (F_X9_thrown M6 ) fun r8 => if r8 = k1 then (if k1 = 0 then (if (lg_cmp ((M6 386 0).toInt64) ((r5 : Int32).toInt64)) = 0 then (some M6) else (none)) else (some M6)) else (none)
set_option maxHeartbeats 4000000 in
set_option maxRecDepth 100000 in
theorem cs_20 (hlt : l.stackTraces = false) (hC : fl_C X p c s m b L xs) {i : Int32} (h1 : vp_in (i + 1) L) (h2 : vp_in (i + 2) L) (h3 : vp_in (i + 3) L) {M M0 : fw_M} {H : Heap} {locs : List Loc} {ls : Array Slot} {cells slots : Nat} (hF : F_cs_20 M xs i = some M0) (B : fr_H X s M H locs) (hl : lv_has ls 9 (fl_lv X b i)) (hcc : cells + 30 ≤ 603072) (hss : slots + 3000 ≤ 7194730) (kk : ∀ (H1 : Heap) (locs1 : List Loc) (ls1 : Array Slot), fr_H X s M0 H1 locs1 → lv_has ls1 9 (fl_lv X b i) → W p l e room_1 s m #[Value.ref b] below meth c H1 locs1 (cells + 30) (slots + 3000) Q (F0 m 3314 ls1 [])) : W p l e room_1 s m #[Value.ref b] below meth c H locs cells slots Q (F0 m 1255 ls []) := by
  have C := hC.1
  have hx := C.1.1
  have hb := C.1.2.1
  have hl : lv_has ls 9 [(0, .ref b), (1, .ref (fw_ad X 352)), (2, .ref (fw_ad X 378)), (3, .ref (fw_ad X 386)), (4, .ref (fw_ad X 387)), (5, .int i)] := hl
  unfold F_cs_20 at hF
  refine lv_aload_n hx hb dL_law_1255 rfl (lv_at hl 1 rfl) ?_
  refine lv_aload_n hx hb dL_law_1256 rfl (lv_at hl 0 rfl) ?_
  refine lv_iload hx hb dL_law_1257 (lv_at hl 5 rfl) ?_
  refine lv_iconst (v := 1) hx hb dL_law_1259 (by decide) ?_
  refine lv_iadd hx hb dL_law_1260 ?_
  refine fl_sld hC B h1 dL_law_1261 ?_
  refine lv_aload_n hx hb dL_law_1262 rfl (lv_at hl 0 rfl) ?_
  refine lv_iload hx hb dL_law_1263 (lv_at hl 5 rfl) ?_
  refine lv_iconst (v := 2) hx hb dL_law_1265 (by decide) ?_
  refine lv_iadd hx hb dL_law_1266 ?_
  refine fl_sld hC B h2 dL_law_1267 ?_
  refine lv_aload_n hx hb dL_law_1268 rfl (lv_at hl 3 rfl) ?_
  obtain ⟨k1, M2, hf3, hF⟩ := bp_e hF
  refine fr_cHi (As := [.ref (fw_ad X 352), .int (xs (i + 1).toNatClampNeg), .int (xs (i + 2).toNatClampNeg), .ref (fw_ad X 386)]) (rest := []) C B (cm_L_arrivalBySimulation hlt hf3) yh_L_arrivalBySimulation wm_L_252 rfl hl.1 rfl (Nat.le_of_ble_eq_true rfl) ⟨(Nat.le_of_ble_eq_true rfl), (Nat.le_of_ble_eq_true rfl)⟩ ⟨(by show cells + 3 ≤ 603072; omega), (by show slots + 18 ≤ 7194730; omega)⟩ dL_law_1269 (fun H locs B => ?_)
  have B : fr_H X s M2 H locs := B
  refine lv_istore (lv' := [(6, .int k1), (0, .ref b), (1, .ref (fw_ad X 352)), (2, .ref (fw_ad X 378)), (3, .ref (fw_ad X 386)), (4, .ref (fw_ad X 387)), (5, .int i)]) hx hb dL_law_1272 hl (by decide) rfl (fun ls hl => ?_)
  refine lv_aload_n hx hb dL_law_1274 rfl (lv_at hl 3 rfl) ?_
  refine lv_aload_n hx hb dL_law_1275 rfl (lv_at hl 1 rfl) ?_
  refine lv_iload hx hb dL_law_1276 (lv_at hl 6 rfl) ?_
  refine lv_iconst (v := 1) hx hb dL_law_1278 (by decide) ?_
  refine lv_iadd hx hb dL_law_1279 ?_
  refine fl_sld hC B h1 dL_law_1280 ?_
  refine lv_aload_n hx hb dL_law_1281 rfl (lv_at hl 1 rfl) ?_
  refine lv_iload hx hb dL_law_1282 (lv_at hl 6 rfl) ?_
  refine lv_iconst (v := 2) hx hb dL_law_1284 (by decide) ?_
  refine lv_iadd hx hb dL_law_1285 ?_
  refine fl_sld hC B h2 dL_law_1286 ?_
  obtain ⟨r5, M6, hf4, hF⟩ := bp_e hF
  refine fr_cVi (As := [.int (xs (i + 1).toNatClampNeg), .int (xs (i + 2).toNatClampNeg)]) (rest := []) C B (cm_X9_arrivalBySimulation hf4) ob_9 rfl yw_X9_arrivalBySimulation wm_L_254 rfl hl.1 rfl (Nat.le_of_ble_eq_true rfl) ⟨(Nat.le_of_ble_eq_true rfl), (Nat.le_of_ble_eq_true rfl)⟩ ⟨(by show cells + 3 + 0 ≤ 603072; omega), (by show slots + 18 + 0 ≤ 7194730; omega)⟩ dL_law_1287 (fr_nx rfl) (fun r9 M9 H locs ho9 B => ?_)
  obtain ⟨rfl, rfl⟩ := oi_e ho9
  refine lv_istore (lv' := [(7, .int r5), (6, .int k1), (0, .ref b), (1, .ref (fw_ad X 352)), (2, .ref (fw_ad X 378)), (3, .ref (fw_ad X 386)), (4, .ref (fw_ad X 387)), (5, .int i)]) hx hb dL_law_1290 hl (by decide) rfl (fun ls hl => ?_)
  refine lv_aload_n hx hb dL_law_1292 rfl (lv_at hl 4 rfl) ?_
  obtain ⟨r8, hf7, hF⟩ := bx_e hF
  refine fr_cVi (As := []) (rest := []) C B (cm_X9_thrown hf7) ob_9 rfl yw_X9_thrown wm_L_185 rfl hl.1 rfl (Nat.le_of_ble_eq_true rfl) ⟨(Nat.le_of_ble_eq_true rfl), (Nat.le_of_ble_eq_true rfl)⟩ ⟨(by show cells + 3 + 0 + 0 ≤ 603072; omega), (by show slots + 18 + 0 + 0 ≤ 7194730; omega)⟩ dL_law_1293 (fr_nx rfl) (fun r9 M9 H locs ho9 B => ?_)
  obtain ⟨rfl, rfl⟩ := oi_e ho9
  refine lv_iload hx hb dL_law_1296 (lv_at hl 1 rfl) ?_
  refine lv_icmp_eq (tgt := 1303) hx hb dL_law_1298 (by decide) (fun hc => ?_) (fun hc => ?_)
  · have hF := it_t hF hc
    refine lv_iload hx hb dL_law_1303 (lv_at hl 1 rfl) ?_
    refine lv_if_ne (tgt := 1320) hx hb dL_law_1305 (by decide) (fun hc => ?_) (fun hc => ?_)
    · have hF := it_f hF hc
      refine lv_goto (tgt := 3314) hx hb dL_law_1320 (by decide) ?_
      have hF := Option.some.inj hF
      subst hF
      exact W.widen (by show cells + 3 + 0 + 0 ≤ cells + 30; omega) (by show slots + 18 + 0 + 0 ≤ slots + 3000; omega) (kk H locs ls B (lv_sub hl [2, 3, 4, 5, 6, 7] rfl))
    · have hF := it_t hF hc
      refine lv_aload_n hx hb dL_law_1308 rfl (lv_at hl 5 rfl) ?_
      refine lv_iconst (v := 0) hx hb dL_law_1309 (by decide) ?_
      refine fr_ll C B dL_law_1310 ?_
      refine lv_iload hx hb dL_law_1311 (lv_at hl 0 rfl) ?_
      refine lv_i2l hx hb dL_law_1313 rfl ?_
      refine W.lcmp hx hb dL_law_1314 ?_
      refine lv_if_eq (tgt := 1320) hx hb dL_law_1315 (by decide) (fun hc => ?_) (fun hc => ?_)
      · have hF := it_t hF hc
        refine lv_goto (tgt := 3314) hx hb dL_law_1320 (by decide) ?_
        have hF := Option.some.inj hF
        subst hF
        exact W.widen (by show cells + 3 + 0 + 0 ≤ cells + 30; omega) (by show slots + 18 + 0 + 0 ≤ slots + 3000; omega) (kk H locs ls B (lv_sub hl [2, 3, 4, 5, 6, 7] rfl))
      · have hF := it_f hF hc
        cases hF
  · have hF := it_f hF hc
    cases hF
def F_cs_21 (M : fw_M) (xs : Nat → Int32) (i : Int32) : Option fw_M := bd_p (F_L_addPassenger M (xs (i + 1).toNatClampNeg)) fun k1 M2 => bd_p (F_X9_addPassenger M2 (xs (i + 1).toNatClampNeg)) fun r5 M6 => bd_x (F_X9_thrown M6 ) fun r8 => if r8 = k1 then (if k1 = 0 then (if (lg_cmp ((M6 386 0).toInt64) ((r5 : Int32).toInt64)) = 0 then (some M6) else (none)) else (some M6)) else (none)
set_option maxHeartbeats 4000000 in
set_option maxRecDepth 100000 in
theorem cs_21 (hlt : l.stackTraces = false) (hC : fl_C X p c s m b L xs) {i : Int32} (h1 : vp_in (i + 1) L) (h2 : vp_in (i + 2) L) (h3 : vp_in (i + 3) L) {M M0 : fw_M} {H : Heap} {locs : List Loc} {ls : Array Slot} {cells slots : Nat} (hF : F_cs_21 M xs i = some M0) (B : fr_H X s M H locs) (hl : lv_has ls 9 (fl_lv X b i)) (hcc : cells + 30 ≤ 603072) (hss : slots + 3000 ≤ 7194730) (kk : ∀ (H1 : Heap) (locs1 : List Loc) (ls1 : Array Slot), fr_H X s M0 H1 locs1 → lv_has ls1 9 (fl_lv X b i) → W p l e room_1 s m #[Value.ref b] below meth c H1 locs1 (cells + 30) (slots + 3000) Q (F0 m 3314 ls1 [])) : W p l e room_1 s m #[Value.ref b] below meth c H locs cells slots Q (F0 m 1323 ls []) := by
  have C := hC.1
  have hx := C.1.1
  have hb := C.1.2.1
  have hl : lv_has ls 9 [(0, .ref b), (1, .ref (fw_ad X 352)), (2, .ref (fw_ad X 378)), (3, .ref (fw_ad X 386)), (4, .ref (fw_ad X 387)), (5, .int i)] := hl
  unfold F_cs_21 at hF
  refine lv_aload_n hx hb dL_law_1323 rfl (lv_at hl 1 rfl) ?_
  refine lv_aload_n hx hb dL_law_1324 rfl (lv_at hl 0 rfl) ?_
  refine lv_iload hx hb dL_law_1325 (lv_at hl 5 rfl) ?_
  refine lv_iconst (v := 1) hx hb dL_law_1327 (by decide) ?_
  refine lv_iadd hx hb dL_law_1328 ?_
  refine fl_sld hC B h1 dL_law_1329 ?_
  refine lv_aload_n hx hb dL_law_1330 rfl (lv_at hl 3 rfl) ?_
  obtain ⟨k1, M2, hf3, hF⟩ := bp_e hF
  refine fr_cHi (As := [.ref (fw_ad X 352), .int (xs (i + 1).toNatClampNeg), .ref (fw_ad X 386)]) (rest := []) C B (cm_L_addPassenger hlt hf3) yh_L_addPassenger wm_L_255 rfl hl.1 rfl (Nat.le_of_ble_eq_true rfl) ⟨(Nat.le_of_ble_eq_true rfl), (Nat.le_of_ble_eq_true rfl)⟩ ⟨(by show cells + 1 ≤ 603072; omega), (by show slots + 6 ≤ 7194730; omega)⟩ dL_law_1331 (fun H locs B => ?_)
  have B : fr_H X s M2 H locs := B
  refine lv_istore (lv' := [(6, .int k1), (0, .ref b), (1, .ref (fw_ad X 352)), (2, .ref (fw_ad X 378)), (3, .ref (fw_ad X 386)), (4, .ref (fw_ad X 387)), (5, .int i)]) hx hb dL_law_1334 hl (by decide) rfl (fun ls hl => ?_)
  refine lv_aload_n hx hb dL_law_1336 rfl (lv_at hl 3 rfl) ?_
  refine lv_aload_n hx hb dL_law_1337 rfl (lv_at hl 1 rfl) ?_
  refine lv_iload hx hb dL_law_1338 (lv_at hl 6 rfl) ?_
  refine lv_iconst (v := 1) hx hb dL_law_1340 (by decide) ?_
  refine lv_iadd hx hb dL_law_1341 ?_
  refine fl_sld hC B h1 dL_law_1342 ?_
  obtain ⟨r5, M6, hf4, hF⟩ := bp_e hF
  refine fr_cVi (As := [.int (xs (i + 1).toNatClampNeg)]) (rest := []) C B (cm_X9_addPassenger hf4) ob_9 rfl yw_X9_addPassenger wm_L_257 rfl hl.1 rfl (Nat.le_of_ble_eq_true rfl) ⟨(Nat.le_of_ble_eq_true rfl), (Nat.le_of_ble_eq_true rfl)⟩ ⟨(by show cells + 1 + 0 ≤ 603072; omega), (by show slots + 6 + 0 ≤ 7194730; omega)⟩ dL_law_1343 (fr_nx rfl) (fun r9 M9 H locs ho9 B => ?_)
  obtain ⟨rfl, rfl⟩ := oi_e ho9
  refine lv_istore (lv' := [(7, .int r5), (6, .int k1), (0, .ref b), (1, .ref (fw_ad X 352)), (2, .ref (fw_ad X 378)), (3, .ref (fw_ad X 386)), (4, .ref (fw_ad X 387)), (5, .int i)]) hx hb dL_law_1346 hl (by decide) rfl (fun ls hl => ?_)
  refine lv_aload_n hx hb dL_law_1348 rfl (lv_at hl 4 rfl) ?_
  obtain ⟨r8, hf7, hF⟩ := bx_e hF
  refine fr_cVi (As := []) (rest := []) C B (cm_X9_thrown hf7) ob_9 rfl yw_X9_thrown wm_L_185 rfl hl.1 rfl (Nat.le_of_ble_eq_true rfl) ⟨(Nat.le_of_ble_eq_true rfl), (Nat.le_of_ble_eq_true rfl)⟩ ⟨(by show cells + 1 + 0 + 0 ≤ 603072; omega), (by show slots + 6 + 0 + 0 ≤ 7194730; omega)⟩ dL_law_1349 (fr_nx rfl) (fun r9 M9 H locs ho9 B => ?_)
  obtain ⟨rfl, rfl⟩ := oi_e ho9
  refine lv_iload hx hb dL_law_1352 (lv_at hl 1 rfl) ?_
  refine lv_icmp_eq (tgt := 1359) hx hb dL_law_1354 (by decide) (fun hc => ?_) (fun hc => ?_)
  · have hF := it_t hF hc
    refine lv_iload hx hb dL_law_1359 (lv_at hl 1 rfl) ?_
    refine lv_if_ne (tgt := 1376) hx hb dL_law_1361 (by decide) (fun hc => ?_) (fun hc => ?_)
    · have hF := it_f hF hc
      refine lv_goto (tgt := 3314) hx hb dL_law_1376 (by decide) ?_
      have hF := Option.some.inj hF
      subst hF
      exact W.widen (by show cells + 1 + 0 + 0 ≤ cells + 30; omega) (by show slots + 6 + 0 + 0 ≤ slots + 3000; omega) (kk H locs ls B (lv_sub hl [2, 3, 4, 5, 6, 7] rfl))
    · have hF := it_t hF hc
      refine lv_aload_n hx hb dL_law_1364 rfl (lv_at hl 5 rfl) ?_
      refine lv_iconst (v := 0) hx hb dL_law_1365 (by decide) ?_
      refine fr_ll C B dL_law_1366 ?_
      refine lv_iload hx hb dL_law_1367 (lv_at hl 0 rfl) ?_
      refine lv_i2l hx hb dL_law_1369 rfl ?_
      refine W.lcmp hx hb dL_law_1370 ?_
      refine lv_if_eq (tgt := 1376) hx hb dL_law_1371 (by decide) (fun hc => ?_) (fun hc => ?_)
      · have hF := it_t hF hc
        refine lv_goto (tgt := 3314) hx hb dL_law_1376 (by decide) ?_
        have hF := Option.some.inj hF
        subst hF
        exact W.widen (by show cells + 1 + 0 + 0 ≤ cells + 30; omega) (by show slots + 6 + 0 + 0 ≤ slots + 3000; omega) (kk H locs ls B (lv_sub hl [2, 3, 4, 5, 6, 7] rfl))
      · have hF := it_f hF hc
        cases hF
  · have hF := it_f hF hc
    cases hF
def F_cs_22 (M : fw_M) (xs : Nat → Int32) (i : Int32) : Option fw_M := bd_p (F_L_sellTicket M (xs (i + 1).toNatClampNeg) (xs (i + 2).toNatClampNeg) (xs (i + 3).toNatClampNeg)) fun k1 M2 => bd_p (F_X9_sellTicket M2 (xs (i + 1).toNatClampNeg) (xs (i + 2).toNatClampNeg) (xs (i + 3).toNatClampNeg)) fun r5 M6 => bd_x (F_X9_thrown M6 ) fun r8 => if r8 = k1 then (if k1 = 0 then (if (lg_cmp ((M6 386 0).toInt64) ((r5 : Int32).toInt64)) = 0 then (some M6) else (none)) else (some M6)) else (none)
set_option maxHeartbeats 4000000 in
set_option maxRecDepth 100000 in
theorem cs_22 (hlt : l.stackTraces = false) (hC : fl_C X p c s m b L xs) {i : Int32} (h1 : vp_in (i + 1) L) (h2 : vp_in (i + 2) L) (h3 : vp_in (i + 3) L) {M M0 : fw_M} {H : Heap} {locs : List Loc} {ls : Array Slot} {cells slots : Nat} (hF : F_cs_22 M xs i = some M0) (B : fr_H X s M H locs) (hl : lv_has ls 9 (fl_lv X b i)) (hcc : cells + 30 ≤ 603072) (hss : slots + 3000 ≤ 7194730) (kk : ∀ (H1 : Heap) (locs1 : List Loc) (ls1 : Array Slot), fr_H X s M0 H1 locs1 → lv_has ls1 9 (fl_lv X b i) → W p l e room_1 s m #[Value.ref b] below meth c H1 locs1 (cells + 30) (slots + 3000) Q (F0 m 3314 ls1 [])) : W p l e room_1 s m #[Value.ref b] below meth c H locs cells slots Q (F0 m 1379 ls []) := by
  have C := hC.1
  have hx := C.1.1
  have hb := C.1.2.1
  have hl : lv_has ls 9 [(0, .ref b), (1, .ref (fw_ad X 352)), (2, .ref (fw_ad X 378)), (3, .ref (fw_ad X 386)), (4, .ref (fw_ad X 387)), (5, .int i)] := hl
  unfold F_cs_22 at hF
  refine lv_aload_n hx hb dL_law_1379 rfl (lv_at hl 1 rfl) ?_
  refine lv_aload_n hx hb dL_law_1380 rfl (lv_at hl 0 rfl) ?_
  refine lv_iload hx hb dL_law_1381 (lv_at hl 5 rfl) ?_
  refine lv_iconst (v := 1) hx hb dL_law_1383 (by decide) ?_
  refine lv_iadd hx hb dL_law_1384 ?_
  refine fl_sld hC B h1 dL_law_1385 ?_
  refine lv_aload_n hx hb dL_law_1386 rfl (lv_at hl 0 rfl) ?_
  refine lv_iload hx hb dL_law_1387 (lv_at hl 5 rfl) ?_
  refine lv_iconst (v := 2) hx hb dL_law_1389 (by decide) ?_
  refine lv_iadd hx hb dL_law_1390 ?_
  refine fl_sld hC B h2 dL_law_1391 ?_
  refine lv_aload_n hx hb dL_law_1392 rfl (lv_at hl 0 rfl) ?_
  refine lv_iload hx hb dL_law_1393 (lv_at hl 5 rfl) ?_
  refine lv_iconst (v := 3) hx hb dL_law_1395 (by decide) ?_
  refine lv_iadd hx hb dL_law_1396 ?_
  refine fl_sld hC B h3 dL_law_1397 ?_
  refine lv_aload_n hx hb dL_law_1398 rfl (lv_at hl 3 rfl) ?_
  obtain ⟨k1, M2, hf3, hF⟩ := bp_e hF
  refine fr_cHi (As := [.ref (fw_ad X 352), .int (xs (i + 1).toNatClampNeg), .int (xs (i + 2).toNatClampNeg), .int (xs (i + 3).toNatClampNeg), .ref (fw_ad X 386)]) (rest := []) C B (cm_L_sellTicket hlt hf3) yh_L_sellTicket wm_L_258 rfl hl.1 rfl (Nat.le_of_ble_eq_true rfl) ⟨(Nat.le_of_ble_eq_true rfl), (Nat.le_of_ble_eq_true rfl)⟩ ⟨(by show cells + 1 ≤ 603072; omega), (by show slots + 6 ≤ 7194730; omega)⟩ dL_law_1399 (fun H locs B => ?_)
  have B : fr_H X s M2 H locs := B
  refine lv_istore (lv' := [(6, .int k1), (0, .ref b), (1, .ref (fw_ad X 352)), (2, .ref (fw_ad X 378)), (3, .ref (fw_ad X 386)), (4, .ref (fw_ad X 387)), (5, .int i)]) hx hb dL_law_1402 hl (by decide) rfl (fun ls hl => ?_)
  refine lv_aload_n hx hb dL_law_1404 rfl (lv_at hl 3 rfl) ?_
  refine lv_aload_n hx hb dL_law_1405 rfl (lv_at hl 1 rfl) ?_
  refine lv_iload hx hb dL_law_1406 (lv_at hl 6 rfl) ?_
  refine lv_iconst (v := 1) hx hb dL_law_1408 (by decide) ?_
  refine lv_iadd hx hb dL_law_1409 ?_
  refine fl_sld hC B h1 dL_law_1410 ?_
  refine lv_aload_n hx hb dL_law_1411 rfl (lv_at hl 1 rfl) ?_
  refine lv_iload hx hb dL_law_1412 (lv_at hl 6 rfl) ?_
  refine lv_iconst (v := 2) hx hb dL_law_1414 (by decide) ?_
  refine lv_iadd hx hb dL_law_1415 ?_
  refine fl_sld hC B h2 dL_law_1416 ?_
  refine lv_aload_n hx hb dL_law_1417 rfl (lv_at hl 1 rfl) ?_
  refine lv_iload hx hb dL_law_1418 (lv_at hl 6 rfl) ?_
  refine lv_iconst (v := 3) hx hb dL_law_1420 (by decide) ?_
  refine lv_iadd hx hb dL_law_1421 ?_
  refine fl_sld hC B h3 dL_law_1422 ?_
  obtain ⟨r5, M6, hf4, hF⟩ := bp_e hF
  refine fr_cVi (As := [.int (xs (i + 1).toNatClampNeg), .int (xs (i + 2).toNatClampNeg), .int (xs (i + 3).toNatClampNeg)]) (rest := []) C B (cm_X9_sellTicket hf4) ob_9 rfl yw_X9_sellTicket wm_L_261 rfl hl.1 rfl (Nat.le_of_ble_eq_true rfl) ⟨(Nat.le_of_ble_eq_true rfl), (Nat.le_of_ble_eq_true rfl)⟩ ⟨(by show cells + 1 + 0 ≤ 603072; omega), (by show slots + 6 + 0 ≤ 7194730; omega)⟩ dL_law_1423 (fr_nx rfl) (fun r9 M9 H locs ho9 B => ?_)
  obtain ⟨rfl, rfl⟩ := oi_e ho9
  refine lv_istore (lv' := [(7, .int r5), (6, .int k1), (0, .ref b), (1, .ref (fw_ad X 352)), (2, .ref (fw_ad X 378)), (3, .ref (fw_ad X 386)), (4, .ref (fw_ad X 387)), (5, .int i)]) hx hb dL_law_1426 hl (by decide) rfl (fun ls hl => ?_)
  refine lv_aload_n hx hb dL_law_1428 rfl (lv_at hl 4 rfl) ?_
  obtain ⟨r8, hf7, hF⟩ := bx_e hF
  refine fr_cVi (As := []) (rest := []) C B (cm_X9_thrown hf7) ob_9 rfl yw_X9_thrown wm_L_185 rfl hl.1 rfl (Nat.le_of_ble_eq_true rfl) ⟨(Nat.le_of_ble_eq_true rfl), (Nat.le_of_ble_eq_true rfl)⟩ ⟨(by show cells + 1 + 0 + 0 ≤ 603072; omega), (by show slots + 6 + 0 + 0 ≤ 7194730; omega)⟩ dL_law_1429 (fr_nx rfl) (fun r9 M9 H locs ho9 B => ?_)
  obtain ⟨rfl, rfl⟩ := oi_e ho9
  refine lv_iload hx hb dL_law_1432 (lv_at hl 1 rfl) ?_
  refine lv_icmp_eq (tgt := 1439) hx hb dL_law_1434 (by decide) (fun hc => ?_) (fun hc => ?_)
  · have hF := it_t hF hc
    refine lv_iload hx hb dL_law_1439 (lv_at hl 1 rfl) ?_
    refine lv_if_ne (tgt := 1456) hx hb dL_law_1441 (by decide) (fun hc => ?_) (fun hc => ?_)
    · have hF := it_f hF hc
      refine lv_goto (tgt := 3314) hx hb dL_law_1456 (by decide) ?_
      have hF := Option.some.inj hF
      subst hF
      exact W.widen (by show cells + 1 + 0 + 0 ≤ cells + 30; omega) (by show slots + 6 + 0 + 0 ≤ slots + 3000; omega) (kk H locs ls B (lv_sub hl [2, 3, 4, 5, 6, 7] rfl))
    · have hF := it_t hF hc
      refine lv_aload_n hx hb dL_law_1444 rfl (lv_at hl 5 rfl) ?_
      refine lv_iconst (v := 0) hx hb dL_law_1445 (by decide) ?_
      refine fr_ll C B dL_law_1446 ?_
      refine lv_iload hx hb dL_law_1447 (lv_at hl 0 rfl) ?_
      refine lv_i2l hx hb dL_law_1449 rfl ?_
      refine W.lcmp hx hb dL_law_1450 ?_
      refine lv_if_eq (tgt := 1456) hx hb dL_law_1451 (by decide) (fun hc => ?_) (fun hc => ?_)
      · have hF := it_t hF hc
        refine lv_goto (tgt := 3314) hx hb dL_law_1456 (by decide) ?_
        have hF := Option.some.inj hF
        subst hF
        exact W.widen (by show cells + 1 + 0 + 0 ≤ cells + 30; omega) (by show slots + 6 + 0 + 0 ≤ slots + 3000; omega) (kk H locs ls B (lv_sub hl [2, 3, 4, 5, 6, 7] rfl))
      · have hF := it_f hF hc
        cases hF
  · have hF := it_f hF hc
    cases hF
def F_cs_23 (M : fw_M) (xs : Nat → Int32) (i : Int32) : Option fw_M := bd_p (F_L_board M (xs (i + 1).toNatClampNeg) (xs (i + 2).toNatClampNeg)) fun k1 M2 => bd_p (F_X9_board M2 (xs (i + 1).toNatClampNeg) (xs (i + 2).toNatClampNeg)) fun r5 M6 => bd_x (F_X9_thrown M6 ) fun r8 => if r8 = k1 then (if k1 = 0 then (if r5 = 0 then (if (lg_cmp ((M6 386 0).toInt64) ((0 : Int32).toInt64)) = 0 then (some M6) else (none)) else (if (lg_cmp ((M6 386 0).toInt64) ((1 : Int32).toInt64)) = 0 then (some M6) else (none))) else (some M6)) else (none)
set_option maxHeartbeats 4000000 in
set_option maxRecDepth 100000 in
theorem cs_23 (hlt : l.stackTraces = false) (hC : fl_C X p c s m b L xs) {i : Int32} (h1 : vp_in (i + 1) L) (h2 : vp_in (i + 2) L) (h3 : vp_in (i + 3) L) {M M0 : fw_M} {H : Heap} {locs : List Loc} {ls : Array Slot} {cells slots : Nat} (hF : F_cs_23 M xs i = some M0) (B : fr_H X s M H locs) (hl : lv_has ls 9 (fl_lv X b i)) (hcc : cells + 30 ≤ 603072) (hss : slots + 3000 ≤ 7194730) (kk : ∀ (H1 : Heap) (locs1 : List Loc) (ls1 : Array Slot), fr_H X s M0 H1 locs1 → lv_has ls1 9 (fl_lv X b i) → W p l e room_1 s m #[Value.ref b] below meth c H1 locs1 (cells + 30) (slots + 3000) Q (F0 m 3314 ls1 [])) : W p l e room_1 s m #[Value.ref b] below meth c H locs cells slots Q (F0 m 1459 ls []) := by
  have C := hC.1
  have hx := C.1.1
  have hb := C.1.2.1
  have hl : lv_has ls 9 [(0, .ref b), (1, .ref (fw_ad X 352)), (2, .ref (fw_ad X 378)), (3, .ref (fw_ad X 386)), (4, .ref (fw_ad X 387)), (5, .int i)] := hl
  unfold F_cs_23 at hF
  refine lv_aload_n hx hb dL_law_1459 rfl (lv_at hl 1 rfl) ?_
  refine lv_aload_n hx hb dL_law_1460 rfl (lv_at hl 0 rfl) ?_
  refine lv_iload hx hb dL_law_1461 (lv_at hl 5 rfl) ?_
  refine lv_iconst (v := 1) hx hb dL_law_1463 (by decide) ?_
  refine lv_iadd hx hb dL_law_1464 ?_
  refine fl_sld hC B h1 dL_law_1465 ?_
  refine lv_aload_n hx hb dL_law_1466 rfl (lv_at hl 0 rfl) ?_
  refine lv_iload hx hb dL_law_1467 (lv_at hl 5 rfl) ?_
  refine lv_iconst (v := 2) hx hb dL_law_1469 (by decide) ?_
  refine lv_iadd hx hb dL_law_1470 ?_
  refine fl_sld hC B h2 dL_law_1471 ?_
  refine lv_aload_n hx hb dL_law_1472 rfl (lv_at hl 3 rfl) ?_
  obtain ⟨k1, M2, hf3, hF⟩ := bp_e hF
  refine fr_cHi (As := [.ref (fw_ad X 352), .int (xs (i + 1).toNatClampNeg), .int (xs (i + 2).toNatClampNeg), .ref (fw_ad X 386)]) (rest := []) C B (cm_L_board hlt hf3) yh_L_board wm_L_262 rfl hl.1 rfl (Nat.le_of_ble_eq_true rfl) ⟨(Nat.le_of_ble_eq_true rfl), (Nat.le_of_ble_eq_true rfl)⟩ ⟨(by show cells + 1 ≤ 603072; omega), (by show slots + 6 ≤ 7194730; omega)⟩ dL_law_1473 (fun H locs B => ?_)
  have B : fr_H X s M2 H locs := B
  refine lv_istore (lv' := [(6, .int k1), (0, .ref b), (1, .ref (fw_ad X 352)), (2, .ref (fw_ad X 378)), (3, .ref (fw_ad X 386)), (4, .ref (fw_ad X 387)), (5, .int i)]) hx hb dL_law_1476 hl (by decide) rfl (fun ls hl => ?_)
  refine lv_aload_n hx hb dL_law_1478 rfl (lv_at hl 3 rfl) ?_
  refine lv_aload_n hx hb dL_law_1479 rfl (lv_at hl 1 rfl) ?_
  refine lv_iload hx hb dL_law_1480 (lv_at hl 6 rfl) ?_
  refine lv_iconst (v := 1) hx hb dL_law_1482 (by decide) ?_
  refine lv_iadd hx hb dL_law_1483 ?_
  refine fl_sld hC B h1 dL_law_1484 ?_
  refine lv_aload_n hx hb dL_law_1485 rfl (lv_at hl 1 rfl) ?_
  refine lv_iload hx hb dL_law_1486 (lv_at hl 6 rfl) ?_
  refine lv_iconst (v := 2) hx hb dL_law_1488 (by decide) ?_
  refine lv_iadd hx hb dL_law_1489 ?_
  refine fl_sld hC B h2 dL_law_1490 ?_
  obtain ⟨r5, M6, hf4, hF⟩ := bp_e hF
  refine fr_cVi (As := [.int (xs (i + 1).toNatClampNeg), .int (xs (i + 2).toNatClampNeg)]) (rest := []) C B (cm_X9_board hf4) ob_9 rfl yw_X9_board wm_L_264 rfl hl.1 rfl (Nat.le_of_ble_eq_true rfl) ⟨(Nat.le_of_ble_eq_true rfl), (Nat.le_of_ble_eq_true rfl)⟩ ⟨(by show cells + 1 + 0 ≤ 603072; omega), (by show slots + 6 + 0 ≤ 7194730; omega)⟩ dL_law_1491 (fr_nx rfl) (fun r9 M9 H locs ho9 B => ?_)
  obtain ⟨rfl, rfl⟩ := oi_e ho9
  refine lv_istore (lv' := [(7, .int r5), (6, .int k1), (0, .ref b), (1, .ref (fw_ad X 352)), (2, .ref (fw_ad X 378)), (3, .ref (fw_ad X 386)), (4, .ref (fw_ad X 387)), (5, .int i)]) hx hb dL_law_1494 hl (by decide) rfl (fun ls hl => ?_)
  refine lv_aload_n hx hb dL_law_1496 rfl (lv_at hl 4 rfl) ?_
  obtain ⟨r8, hf7, hF⟩ := bx_e hF
  refine fr_cVi (As := []) (rest := []) C B (cm_X9_thrown hf7) ob_9 rfl yw_X9_thrown wm_L_185 rfl hl.1 rfl (Nat.le_of_ble_eq_true rfl) ⟨(Nat.le_of_ble_eq_true rfl), (Nat.le_of_ble_eq_true rfl)⟩ ⟨(by show cells + 1 + 0 + 0 ≤ 603072; omega), (by show slots + 6 + 0 + 0 ≤ 7194730; omega)⟩ dL_law_1497 (fr_nx rfl) (fun r9 M9 H locs ho9 B => ?_)
  obtain ⟨rfl, rfl⟩ := oi_e ho9
  refine lv_iload hx hb dL_law_1500 (lv_at hl 1 rfl) ?_
  refine lv_icmp_eq (tgt := 1507) hx hb dL_law_1502 (by decide) (fun hc => ?_) (fun hc => ?_)
  · have hF := it_t hF hc
    refine lv_iload hx hb dL_law_1507 (lv_at hl 1 rfl) ?_
    refine lv_if_ne (tgt := 1531) hx hb dL_law_1509 (by decide) (fun hc => ?_) (fun hc => ?_)
    · have hF := it_f hF hc
      refine lv_goto (tgt := 3314) hx hb dL_law_1531 (by decide) ?_
      have hF := Option.some.inj hF
      subst hF
      exact W.widen (by show cells + 1 + 0 + 0 ≤ cells + 30; omega) (by show slots + 6 + 0 + 0 ≤ slots + 3000; omega) (kk H locs ls B (lv_sub hl [2, 3, 4, 5, 6, 7] rfl))
    · have hF := it_t hF hc
      refine lv_aload_n hx hb dL_law_1512 rfl (lv_at hl 5 rfl) ?_
      refine lv_iconst (v := 0) hx hb dL_law_1513 (by decide) ?_
      refine fr_ll C B dL_law_1514 ?_
      refine lv_iload hx hb dL_law_1515 (lv_at hl 0 rfl) ?_
      refine lv_if_eq (tgt := 1524) hx hb dL_law_1517 (by decide) (fun hc => ?_) (fun hc => ?_)
      · have hF := it_t hF hc
        refine lv_lconst (v := (0 : Int32).toInt64) hx hb dL_law_1524 (by decide) ?_
        refine W.lcmp hx hb dL_law_1525 ?_
        refine lv_if_eq (tgt := 1531) hx hb dL_law_1526 (by decide) (fun hc => ?_) (fun hc => ?_)
        · have hF := it_t hF hc
          refine lv_goto (tgt := 3314) hx hb dL_law_1531 (by decide) ?_
          have hF := Option.some.inj hF
          subst hF
          exact W.widen (by show cells + 1 + 0 + 0 ≤ cells + 30; omega) (by show slots + 6 + 0 + 0 ≤ slots + 3000; omega) (kk H locs ls B (lv_sub hl [2, 3, 4, 5, 6, 7] rfl))
        · have hF := it_f hF hc
          cases hF
      · have hF := it_f hF hc
        refine lv_lconst (v := (1 : Int32).toInt64) hx hb dL_law_1520 (by decide) ?_
        refine lv_goto (tgt := 1525) hx hb dL_law_1521 (by decide) ?_
        refine W.lcmp hx hb dL_law_1525 ?_
        refine lv_if_eq (tgt := 1531) hx hb dL_law_1526 (by decide) (fun hc => ?_) (fun hc => ?_)
        · have hF := it_t hF hc
          refine lv_goto (tgt := 3314) hx hb dL_law_1531 (by decide) ?_
          have hF := Option.some.inj hF
          subst hF
          exact W.widen (by show cells + 1 + 0 + 0 ≤ cells + 30; omega) (by show slots + 6 + 0 + 0 ≤ slots + 3000; omega) (kk H locs ls B (lv_sub hl [2, 3, 4, 5, 6, 7] rfl))
        · have hF := it_f hF hc
          cases hF
  · have hF := it_f hF hc
    cases hF
end CS
