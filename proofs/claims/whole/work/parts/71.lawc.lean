section CS
variable {p : Program} {l : Launch} {e : Env} {s : State} {m : MethodId} {below : List Frame} {meth : Method} {c : Code} {Q : State → Prop} {X : fw_X} {b L : Nat} {xs : Nat → Int32}
def F_cs_24 (M : fw_M) (xs : Nat → Int32) (i : Int32) : Option fw_M := bd_p (F_L_alight M (xs (i + 1).toNatClampNeg)) fun k1 M2 => bd_p (F_X9_alight M2 (xs (i + 1).toNatClampNeg)) fun r5 M6 => bd_x (F_X9_thrown M6 ) fun r8 => if r8 = k1 then (if k1 = 0 then (if (lg_cmp ((M6 386 0).toInt64) ((r5 : Int32).toInt64)) = 0 then (some M6) else (none)) else (some M6)) else (none)
set_option maxHeartbeats 4000000 in
set_option maxRecDepth 100000 in
theorem cs_24 (hlt : l.stackTraces = false) (hC : fl_C X p c s m b L xs) {i : Int32} (h1 : vp_in (i + 1) L) (h2 : vp_in (i + 2) L) (h3 : vp_in (i + 3) L) {M M0 : fw_M} {H : Heap} {locs : List Loc} {ls : Array Slot} {cells slots : Nat} (hF : F_cs_24 M xs i = some M0) (B : fr_H X s M H locs) (hl : lv_has ls 9 (fl_lv X b i)) (hcc : cells + 30 ≤ 603072) (hss : slots + 3000 ≤ 7194730) (kk : ∀ (H1 : Heap) (locs1 : List Loc) (ls1 : Array Slot), fr_H X s M0 H1 locs1 → lv_has ls1 9 (fl_lv X b i) → W p l e room_1 s m #[Value.ref b] below meth c H1 locs1 (cells + 30) (slots + 3000) Q (F0 m 3314 ls1 [])) : W p l e room_1 s m #[Value.ref b] below meth c H locs cells slots Q (F0 m 1534 ls []) := by
  have C := hC.1
  have hx := C.1.1
  have hb := C.1.2.1
  have hl : lv_has ls 9 [(0, .ref b), (1, .ref (fw_ad X 352)), (2, .ref (fw_ad X 378)), (3, .ref (fw_ad X 386)), (4, .ref (fw_ad X 387)), (5, .int i)] := hl
  unfold F_cs_24 at hF
  refine lv_aload_n hx hb dL_law_1534 rfl (lv_at hl 1 rfl) ?_
  refine lv_aload_n hx hb dL_law_1535 rfl (lv_at hl 0 rfl) ?_
  refine lv_iload hx hb dL_law_1536 (lv_at hl 5 rfl) ?_
  refine lv_iconst (v := 1) hx hb dL_law_1538 (by decide) ?_
  refine lv_iadd hx hb dL_law_1539 ?_
  refine fl_sld hC B h1 dL_law_1540 ?_
  refine lv_aload_n hx hb dL_law_1541 rfl (lv_at hl 3 rfl) ?_
  obtain ⟨k1, M2, hf3, hF⟩ := bp_e hF
  refine fr_cHi (As := [.ref (fw_ad X 352), .int (xs (i + 1).toNatClampNeg), .ref (fw_ad X 386)]) (rest := []) C B (cm_L_alight hlt hf3) yh_L_alight wm_L_265 rfl hl.1 rfl (Nat.le_of_ble_eq_true rfl) ⟨(Nat.le_of_ble_eq_true rfl), (Nat.le_of_ble_eq_true rfl)⟩ ⟨(by show cells + 1 ≤ 603072; omega), (by show slots + 6 ≤ 7194730; omega)⟩ dL_law_1542 (fun H locs B => ?_)
  have B : fr_H X s M2 H locs := B
  refine lv_istore (lv' := [(6, .int k1), (0, .ref b), (1, .ref (fw_ad X 352)), (2, .ref (fw_ad X 378)), (3, .ref (fw_ad X 386)), (4, .ref (fw_ad X 387)), (5, .int i)]) hx hb dL_law_1545 hl (by decide) rfl (fun ls hl => ?_)
  refine lv_aload_n hx hb dL_law_1547 rfl (lv_at hl 3 rfl) ?_
  refine lv_aload_n hx hb dL_law_1548 rfl (lv_at hl 1 rfl) ?_
  refine lv_iload hx hb dL_law_1549 (lv_at hl 6 rfl) ?_
  refine lv_iconst (v := 1) hx hb dL_law_1551 (by decide) ?_
  refine lv_iadd hx hb dL_law_1552 ?_
  refine fl_sld hC B h1 dL_law_1553 ?_
  obtain ⟨r5, M6, hf4, hF⟩ := bp_e hF
  refine fr_cVi (As := [.int (xs (i + 1).toNatClampNeg)]) (rest := []) C B (cm_X9_alight hf4) ob_9 rfl yw_X9_alight wm_L_267 rfl hl.1 rfl (Nat.le_of_ble_eq_true rfl) ⟨(Nat.le_of_ble_eq_true rfl), (Nat.le_of_ble_eq_true rfl)⟩ ⟨(by show cells + 1 + 0 ≤ 603072; omega), (by show slots + 6 + 0 ≤ 7194730; omega)⟩ dL_law_1554 (fr_nx rfl) (fun r9 M9 H locs ho9 B => ?_)
  obtain ⟨rfl, rfl⟩ := oi_e ho9
  refine lv_istore (lv' := [(7, .int r5), (6, .int k1), (0, .ref b), (1, .ref (fw_ad X 352)), (2, .ref (fw_ad X 378)), (3, .ref (fw_ad X 386)), (4, .ref (fw_ad X 387)), (5, .int i)]) hx hb dL_law_1557 hl (by decide) rfl (fun ls hl => ?_)
  refine lv_aload_n hx hb dL_law_1559 rfl (lv_at hl 4 rfl) ?_
  obtain ⟨r8, hf7, hF⟩ := bx_e hF
  refine fr_cVi (As := []) (rest := []) C B (cm_X9_thrown hf7) ob_9 rfl yw_X9_thrown wm_L_185 rfl hl.1 rfl (Nat.le_of_ble_eq_true rfl) ⟨(Nat.le_of_ble_eq_true rfl), (Nat.le_of_ble_eq_true rfl)⟩ ⟨(by show cells + 1 + 0 + 0 ≤ 603072; omega), (by show slots + 6 + 0 + 0 ≤ 7194730; omega)⟩ dL_law_1560 (fr_nx rfl) (fun r9 M9 H locs ho9 B => ?_)
  obtain ⟨rfl, rfl⟩ := oi_e ho9
  refine lv_iload hx hb dL_law_1563 (lv_at hl 1 rfl) ?_
  refine lv_icmp_eq (tgt := 1570) hx hb dL_law_1565 (by decide) (fun hc => ?_) (fun hc => ?_)
  · have hF := it_t hF hc
    refine lv_iload hx hb dL_law_1570 (lv_at hl 1 rfl) ?_
    refine lv_if_ne (tgt := 1587) hx hb dL_law_1572 (by decide) (fun hc => ?_) (fun hc => ?_)
    · have hF := it_f hF hc
      refine lv_goto (tgt := 3314) hx hb dL_law_1587 (by decide) ?_
      have hF := Option.some.inj hF
      subst hF
      exact W.widen (by show cells + 1 + 0 + 0 ≤ cells + 30; omega) (by show slots + 6 + 0 + 0 ≤ slots + 3000; omega) (kk H locs ls B (lv_sub hl [2, 3, 4, 5, 6, 7] rfl))
    · have hF := it_t hF hc
      refine lv_aload_n hx hb dL_law_1575 rfl (lv_at hl 5 rfl) ?_
      refine lv_iconst (v := 0) hx hb dL_law_1576 (by decide) ?_
      refine fr_ll C B dL_law_1577 ?_
      refine lv_iload hx hb dL_law_1578 (lv_at hl 0 rfl) ?_
      refine lv_i2l hx hb dL_law_1580 rfl ?_
      refine W.lcmp hx hb dL_law_1581 ?_
      refine lv_if_eq (tgt := 1587) hx hb dL_law_1582 (by decide) (fun hc => ?_) (fun hc => ?_)
      · have hF := it_t hF hc
        refine lv_goto (tgt := 3314) hx hb dL_law_1587 (by decide) ?_
        have hF := Option.some.inj hF
        subst hF
        exact W.widen (by show cells + 1 + 0 + 0 ≤ cells + 30; omega) (by show slots + 6 + 0 + 0 ≤ slots + 3000; omega) (kk H locs ls B (lv_sub hl [2, 3, 4, 5, 6, 7] rfl))
      · have hF := it_f hF hc
        cases hF
  · have hF := it_f hF hc
    cases hF
def F_cs_25 (M : fw_M) (xs : Nat → Int32) (i : Int32) : Option fw_M := bd_x (F_X8_passengerCount M ) fun r2 => bd_p (F_X9_passengerCount M ) fun r5 M6 => if r2 = r5 then (some M6) else (none)
set_option maxHeartbeats 4000000 in
set_option maxRecDepth 100000 in
theorem cs_25 (hlt : l.stackTraces = false) (hC : fl_C X p c s m b L xs) {i : Int32} (h1 : vp_in (i + 1) L) (h2 : vp_in (i + 2) L) (h3 : vp_in (i + 3) L) {M M0 : fw_M} {H : Heap} {locs : List Loc} {ls : Array Slot} {cells slots : Nat} (hF : F_cs_25 M xs i = some M0) (B : fr_H X s M H locs) (hl : lv_has ls 9 (fl_lv X b i)) (hcc : cells + 30 ≤ 603072) (hss : slots + 3000 ≤ 7194730) (kk : ∀ (H1 : Heap) (locs1 : List Loc) (ls1 : Array Slot), fr_H X s M0 H1 locs1 → lv_has ls1 9 (fl_lv X b i) → W p l e room_1 s m #[Value.ref b] below meth c H1 locs1 (cells + 30) (slots + 3000) Q (F0 m 3314 ls1 [])) : W p l e room_1 s m #[Value.ref b] below meth c H locs cells slots Q (F0 m 1590 ls []) := by
  have C := hC.1
  have hx := C.1.1
  have hb := C.1.2.1
  have hl : lv_has ls 9 [(0, .ref b), (1, .ref (fw_ad X 352)), (2, .ref (fw_ad X 378)), (3, .ref (fw_ad X 386)), (4, .ref (fw_ad X 387)), (5, .int i)] := hl
  unfold F_cs_25 at hF
  refine lv_aload_n hx hb dL_law_1590 rfl (lv_at hl 1 rfl) ?_
  obtain ⟨r2, hf1, hF⟩ := bx_e hF
  refine fr_cVi (As := []) (rest := []) C B (cm_X8_passengerCount hf1) ob_8 rfl yw_X8_passengerCount wm_L_268 rfl hl.1 rfl (Nat.le_of_ble_eq_true rfl) ⟨(Nat.le_of_ble_eq_true rfl), (Nat.le_of_ble_eq_true rfl)⟩ ⟨(by show cells + 0 ≤ 603072; omega), (by show slots + 0 ≤ 7194730; omega)⟩ dL_law_1591 (fr_nx rfl) (fun r9 M9 H locs ho9 B => ?_)
  obtain ⟨rfl, rfl⟩ := oi_e ho9
  refine lv_aload_n hx hb dL_law_1594 rfl (lv_at hl 2 rfl) ?_
  obtain ⟨r5, M6, hf4, hF⟩ := bp_e hF
  refine fr_cVi (As := []) (rest := [.int r2]) C B (cm_X9_passengerCount hf4) ob_9 rfl yw_X9_passengerCount wm_L_271 rfl hl.1 rfl (Nat.le_of_ble_eq_true rfl) ⟨(Nat.le_of_ble_eq_true rfl), (Nat.le_of_ble_eq_true rfl)⟩ ⟨(by show cells + 0 + 0 ≤ 603072; omega), (by show slots + 0 + 0 ≤ 7194730; omega)⟩ dL_law_1595 (fr_nx rfl) (fun r9 M9 H locs ho9 B => ?_)
  obtain ⟨rfl, rfl⟩ := oi_e ho9
  refine lv_icmp_eq (tgt := 3314) hx hb dL_law_1598 (by decide) (fun hc => ?_) (fun hc => ?_)
  · have hF := it_t hF hc
    have hF := Option.some.inj hF
    subst hF
    exact W.widen (by show cells + 0 + 0 ≤ cells + 30; omega) (by show slots + 0 + 0 ≤ slots + 3000; omega) (kk H locs ls B (lv_sub hl [0, 1, 2, 3, 4, 5] rfl))
  · have hF := it_f hF hc
    cases hF
def F_cs_26 (M : fw_M) (xs : Nat → Int32) (i : Int32) : Option fw_M := bd_p (F_L_stopOfPassenger M (xs (i + 1).toNatClampNeg)) fun k1 M2 => bd_p (F_X9_stopOfPassenger M2 (xs (i + 1).toNatClampNeg)) fun r5 M6 => bd_x (F_X9_thrown M6 ) fun r8 => if r8 = k1 then (if k1 = 0 then (if (lg_cmp ((M6 386 0).toInt64) ((r5 : Int32).toInt64)) = 0 then (some M6) else (none)) else (some M6)) else (none)
set_option maxHeartbeats 4000000 in
set_option maxRecDepth 100000 in
theorem cs_26 (hlt : l.stackTraces = false) (hC : fl_C X p c s m b L xs) {i : Int32} (h1 : vp_in (i + 1) L) (h2 : vp_in (i + 2) L) (h3 : vp_in (i + 3) L) {M M0 : fw_M} {H : Heap} {locs : List Loc} {ls : Array Slot} {cells slots : Nat} (hF : F_cs_26 M xs i = some M0) (B : fr_H X s M H locs) (hl : lv_has ls 9 (fl_lv X b i)) (hcc : cells + 30 ≤ 603072) (hss : slots + 3000 ≤ 7194730) (kk : ∀ (H1 : Heap) (locs1 : List Loc) (ls1 : Array Slot), fr_H X s M0 H1 locs1 → lv_has ls1 9 (fl_lv X b i) → W p l e room_1 s m #[Value.ref b] below meth c H1 locs1 (cells + 30) (slots + 3000) Q (F0 m 3314 ls1 [])) : W p l e room_1 s m #[Value.ref b] below meth c H locs cells slots Q (F0 m 1603 ls []) := by
  have C := hC.1
  have hx := C.1.1
  have hb := C.1.2.1
  have hl : lv_has ls 9 [(0, .ref b), (1, .ref (fw_ad X 352)), (2, .ref (fw_ad X 378)), (3, .ref (fw_ad X 386)), (4, .ref (fw_ad X 387)), (5, .int i)] := hl
  unfold F_cs_26 at hF
  refine lv_aload_n hx hb dL_law_1603 rfl (lv_at hl 1 rfl) ?_
  refine lv_aload_n hx hb dL_law_1604 rfl (lv_at hl 0 rfl) ?_
  refine lv_iload hx hb dL_law_1605 (lv_at hl 5 rfl) ?_
  refine lv_iconst (v := 1) hx hb dL_law_1607 (by decide) ?_
  refine lv_iadd hx hb dL_law_1608 ?_
  refine fl_sld hC B h1 dL_law_1609 ?_
  refine lv_aload_n hx hb dL_law_1610 rfl (lv_at hl 3 rfl) ?_
  obtain ⟨k1, M2, hf3, hF⟩ := bp_e hF
  refine fr_cHi (As := [.ref (fw_ad X 352), .int (xs (i + 1).toNatClampNeg), .ref (fw_ad X 386)]) (rest := []) C B (cm_L_stopOfPassenger hlt hf3) yh_L_stopOfPassenger wm_L_272 rfl hl.1 rfl (Nat.le_of_ble_eq_true rfl) ⟨(Nat.le_of_ble_eq_true rfl), (Nat.le_of_ble_eq_true rfl)⟩ ⟨(by show cells + 1 ≤ 603072; omega), (by show slots + 6 ≤ 7194730; omega)⟩ dL_law_1611 (fun H locs B => ?_)
  have B : fr_H X s M2 H locs := B
  refine lv_istore (lv' := [(6, .int k1), (0, .ref b), (1, .ref (fw_ad X 352)), (2, .ref (fw_ad X 378)), (3, .ref (fw_ad X 386)), (4, .ref (fw_ad X 387)), (5, .int i)]) hx hb dL_law_1614 hl (by decide) rfl (fun ls hl => ?_)
  refine lv_aload_n hx hb dL_law_1616 rfl (lv_at hl 3 rfl) ?_
  refine lv_aload_n hx hb dL_law_1617 rfl (lv_at hl 1 rfl) ?_
  refine lv_iload hx hb dL_law_1618 (lv_at hl 6 rfl) ?_
  refine lv_iconst (v := 1) hx hb dL_law_1620 (by decide) ?_
  refine lv_iadd hx hb dL_law_1621 ?_
  refine fl_sld hC B h1 dL_law_1622 ?_
  obtain ⟨r5, M6, hf4, hF⟩ := bp_e hF
  refine fr_cVi (As := [.int (xs (i + 1).toNatClampNeg)]) (rest := []) C B (cm_X9_stopOfPassenger hf4) ob_9 rfl yw_X9_stopOfPassenger wm_L_274 rfl hl.1 rfl (Nat.le_of_ble_eq_true rfl) ⟨(Nat.le_of_ble_eq_true rfl), (Nat.le_of_ble_eq_true rfl)⟩ ⟨(by show cells + 1 + 0 ≤ 603072; omega), (by show slots + 6 + 0 ≤ 7194730; omega)⟩ dL_law_1623 (fr_nx rfl) (fun r9 M9 H locs ho9 B => ?_)
  obtain ⟨rfl, rfl⟩ := oi_e ho9
  refine lv_istore (lv' := [(7, .int r5), (6, .int k1), (0, .ref b), (1, .ref (fw_ad X 352)), (2, .ref (fw_ad X 378)), (3, .ref (fw_ad X 386)), (4, .ref (fw_ad X 387)), (5, .int i)]) hx hb dL_law_1626 hl (by decide) rfl (fun ls hl => ?_)
  refine lv_aload_n hx hb dL_law_1628 rfl (lv_at hl 4 rfl) ?_
  obtain ⟨r8, hf7, hF⟩ := bx_e hF
  refine fr_cVi (As := []) (rest := []) C B (cm_X9_thrown hf7) ob_9 rfl yw_X9_thrown wm_L_185 rfl hl.1 rfl (Nat.le_of_ble_eq_true rfl) ⟨(Nat.le_of_ble_eq_true rfl), (Nat.le_of_ble_eq_true rfl)⟩ ⟨(by show cells + 1 + 0 + 0 ≤ 603072; omega), (by show slots + 6 + 0 + 0 ≤ 7194730; omega)⟩ dL_law_1629 (fr_nx rfl) (fun r9 M9 H locs ho9 B => ?_)
  obtain ⟨rfl, rfl⟩ := oi_e ho9
  refine lv_iload hx hb dL_law_1632 (lv_at hl 1 rfl) ?_
  refine lv_icmp_eq (tgt := 1639) hx hb dL_law_1634 (by decide) (fun hc => ?_) (fun hc => ?_)
  · have hF := it_t hF hc
    refine lv_iload hx hb dL_law_1639 (lv_at hl 1 rfl) ?_
    refine lv_if_ne (tgt := 1656) hx hb dL_law_1641 (by decide) (fun hc => ?_) (fun hc => ?_)
    · have hF := it_f hF hc
      refine lv_goto (tgt := 3314) hx hb dL_law_1656 (by decide) ?_
      have hF := Option.some.inj hF
      subst hF
      exact W.widen (by show cells + 1 + 0 + 0 ≤ cells + 30; omega) (by show slots + 6 + 0 + 0 ≤ slots + 3000; omega) (kk H locs ls B (lv_sub hl [2, 3, 4, 5, 6, 7] rfl))
    · have hF := it_t hF hc
      refine lv_aload_n hx hb dL_law_1644 rfl (lv_at hl 5 rfl) ?_
      refine lv_iconst (v := 0) hx hb dL_law_1645 (by decide) ?_
      refine fr_ll C B dL_law_1646 ?_
      refine lv_iload hx hb dL_law_1647 (lv_at hl 0 rfl) ?_
      refine lv_i2l hx hb dL_law_1649 rfl ?_
      refine W.lcmp hx hb dL_law_1650 ?_
      refine lv_if_eq (tgt := 1656) hx hb dL_law_1651 (by decide) (fun hc => ?_) (fun hc => ?_)
      · have hF := it_t hF hc
        refine lv_goto (tgt := 3314) hx hb dL_law_1656 (by decide) ?_
        have hF := Option.some.inj hF
        subst hF
        exact W.widen (by show cells + 1 + 0 + 0 ≤ cells + 30; omega) (by show slots + 6 + 0 + 0 ≤ slots + 3000; omega) (kk H locs ls B (lv_sub hl [2, 3, 4, 5, 6, 7] rfl))
      · have hF := it_f hF hc
        cases hF
  · have hF := it_f hF hc
    cases hF
def F_cs_27 (M : fw_M) (xs : Nat → Int32) (i : Int32) : Option fw_M := bd_p (F_L_tramOfPassenger M (xs (i + 1).toNatClampNeg)) fun k1 M2 => bd_p (F_X9_tramOfPassenger M2 (xs (i + 1).toNatClampNeg)) fun r5 M6 => bd_x (F_X9_thrown M6 ) fun r8 => if r8 = k1 then (if k1 = 0 then (if (lg_cmp ((M6 386 0).toInt64) ((r5 : Int32).toInt64)) = 0 then (some M6) else (none)) else (some M6)) else (none)
set_option maxHeartbeats 4000000 in
set_option maxRecDepth 100000 in
theorem cs_27 (hlt : l.stackTraces = false) (hC : fl_C X p c s m b L xs) {i : Int32} (h1 : vp_in (i + 1) L) (h2 : vp_in (i + 2) L) (h3 : vp_in (i + 3) L) {M M0 : fw_M} {H : Heap} {locs : List Loc} {ls : Array Slot} {cells slots : Nat} (hF : F_cs_27 M xs i = some M0) (B : fr_H X s M H locs) (hl : lv_has ls 9 (fl_lv X b i)) (hcc : cells + 30 ≤ 603072) (hss : slots + 3000 ≤ 7194730) (kk : ∀ (H1 : Heap) (locs1 : List Loc) (ls1 : Array Slot), fr_H X s M0 H1 locs1 → lv_has ls1 9 (fl_lv X b i) → W p l e room_1 s m #[Value.ref b] below meth c H1 locs1 (cells + 30) (slots + 3000) Q (F0 m 3314 ls1 [])) : W p l e room_1 s m #[Value.ref b] below meth c H locs cells slots Q (F0 m 1659 ls []) := by
  have C := hC.1
  have hx := C.1.1
  have hb := C.1.2.1
  have hl : lv_has ls 9 [(0, .ref b), (1, .ref (fw_ad X 352)), (2, .ref (fw_ad X 378)), (3, .ref (fw_ad X 386)), (4, .ref (fw_ad X 387)), (5, .int i)] := hl
  unfold F_cs_27 at hF
  refine lv_aload_n hx hb dL_law_1659 rfl (lv_at hl 1 rfl) ?_
  refine lv_aload_n hx hb dL_law_1660 rfl (lv_at hl 0 rfl) ?_
  refine lv_iload hx hb dL_law_1661 (lv_at hl 5 rfl) ?_
  refine lv_iconst (v := 1) hx hb dL_law_1663 (by decide) ?_
  refine lv_iadd hx hb dL_law_1664 ?_
  refine fl_sld hC B h1 dL_law_1665 ?_
  refine lv_aload_n hx hb dL_law_1666 rfl (lv_at hl 3 rfl) ?_
  obtain ⟨k1, M2, hf3, hF⟩ := bp_e hF
  refine fr_cHi (As := [.ref (fw_ad X 352), .int (xs (i + 1).toNatClampNeg), .ref (fw_ad X 386)]) (rest := []) C B (cm_L_tramOfPassenger hlt hf3) yh_L_tramOfPassenger wm_L_275 rfl hl.1 rfl (Nat.le_of_ble_eq_true rfl) ⟨(Nat.le_of_ble_eq_true rfl), (Nat.le_of_ble_eq_true rfl)⟩ ⟨(by show cells + 1 ≤ 603072; omega), (by show slots + 6 ≤ 7194730; omega)⟩ dL_law_1667 (fun H locs B => ?_)
  have B : fr_H X s M2 H locs := B
  refine lv_istore (lv' := [(6, .int k1), (0, .ref b), (1, .ref (fw_ad X 352)), (2, .ref (fw_ad X 378)), (3, .ref (fw_ad X 386)), (4, .ref (fw_ad X 387)), (5, .int i)]) hx hb dL_law_1670 hl (by decide) rfl (fun ls hl => ?_)
  refine lv_aload_n hx hb dL_law_1672 rfl (lv_at hl 3 rfl) ?_
  refine lv_aload_n hx hb dL_law_1673 rfl (lv_at hl 1 rfl) ?_
  refine lv_iload hx hb dL_law_1674 (lv_at hl 6 rfl) ?_
  refine lv_iconst (v := 1) hx hb dL_law_1676 (by decide) ?_
  refine lv_iadd hx hb dL_law_1677 ?_
  refine fl_sld hC B h1 dL_law_1678 ?_
  obtain ⟨r5, M6, hf4, hF⟩ := bp_e hF
  refine fr_cVi (As := [.int (xs (i + 1).toNatClampNeg)]) (rest := []) C B (cm_X9_tramOfPassenger hf4) ob_9 rfl yw_X9_tramOfPassenger wm_L_277 rfl hl.1 rfl (Nat.le_of_ble_eq_true rfl) ⟨(Nat.le_of_ble_eq_true rfl), (Nat.le_of_ble_eq_true rfl)⟩ ⟨(by show cells + 1 + 0 ≤ 603072; omega), (by show slots + 6 + 0 ≤ 7194730; omega)⟩ dL_law_1679 (fr_nx rfl) (fun r9 M9 H locs ho9 B => ?_)
  obtain ⟨rfl, rfl⟩ := oi_e ho9
  refine lv_istore (lv' := [(7, .int r5), (6, .int k1), (0, .ref b), (1, .ref (fw_ad X 352)), (2, .ref (fw_ad X 378)), (3, .ref (fw_ad X 386)), (4, .ref (fw_ad X 387)), (5, .int i)]) hx hb dL_law_1682 hl (by decide) rfl (fun ls hl => ?_)
  refine lv_aload_n hx hb dL_law_1684 rfl (lv_at hl 4 rfl) ?_
  obtain ⟨r8, hf7, hF⟩ := bx_e hF
  refine fr_cVi (As := []) (rest := []) C B (cm_X9_thrown hf7) ob_9 rfl yw_X9_thrown wm_L_185 rfl hl.1 rfl (Nat.le_of_ble_eq_true rfl) ⟨(Nat.le_of_ble_eq_true rfl), (Nat.le_of_ble_eq_true rfl)⟩ ⟨(by show cells + 1 + 0 + 0 ≤ 603072; omega), (by show slots + 6 + 0 + 0 ≤ 7194730; omega)⟩ dL_law_1685 (fr_nx rfl) (fun r9 M9 H locs ho9 B => ?_)
  obtain ⟨rfl, rfl⟩ := oi_e ho9
  refine lv_iload hx hb dL_law_1688 (lv_at hl 1 rfl) ?_
  refine lv_icmp_eq (tgt := 1695) hx hb dL_law_1690 (by decide) (fun hc => ?_) (fun hc => ?_)
  · have hF := it_t hF hc
    refine lv_iload hx hb dL_law_1695 (lv_at hl 1 rfl) ?_
    refine lv_if_ne (tgt := 1712) hx hb dL_law_1697 (by decide) (fun hc => ?_) (fun hc => ?_)
    · have hF := it_f hF hc
      refine lv_goto (tgt := 3314) hx hb dL_law_1712 (by decide) ?_
      have hF := Option.some.inj hF
      subst hF
      exact W.widen (by show cells + 1 + 0 + 0 ≤ cells + 30; omega) (by show slots + 6 + 0 + 0 ≤ slots + 3000; omega) (kk H locs ls B (lv_sub hl [2, 3, 4, 5, 6, 7] rfl))
    · have hF := it_t hF hc
      refine lv_aload_n hx hb dL_law_1700 rfl (lv_at hl 5 rfl) ?_
      refine lv_iconst (v := 0) hx hb dL_law_1701 (by decide) ?_
      refine fr_ll C B dL_law_1702 ?_
      refine lv_iload hx hb dL_law_1703 (lv_at hl 0 rfl) ?_
      refine lv_i2l hx hb dL_law_1705 rfl ?_
      refine W.lcmp hx hb dL_law_1706 ?_
      refine lv_if_eq (tgt := 1712) hx hb dL_law_1707 (by decide) (fun hc => ?_) (fun hc => ?_)
      · have hF := it_t hF hc
        refine lv_goto (tgt := 3314) hx hb dL_law_1712 (by decide) ?_
        have hF := Option.some.inj hF
        subst hF
        exact W.widen (by show cells + 1 + 0 + 0 ≤ cells + 30; omega) (by show slots + 6 + 0 + 0 ≤ slots + 3000; omega) (kk H locs ls B (lv_sub hl [2, 3, 4, 5, 6, 7] rfl))
      · have hF := it_f hF hc
        cases hF
  · have hF := it_f hF hc
    cases hF
def F_cs_28 (M : fw_M) (xs : Nat → Int32) (i : Int32) : Option fw_M := bd_p (F_L_ridesOf M (xs (i + 1).toNatClampNeg)) fun k1 M2 => bd_p (F_X9_ridesOf M2 (xs (i + 1).toNatClampNeg)) fun r5 M6 => bd_x (F_X9_thrown M6 ) fun r8 => if r8 = k1 then (if k1 = 0 then (if (lg_cmp ((M6 386 0).toInt64) ((r5 : Int32).toInt64)) = 0 then (some M6) else (none)) else (some M6)) else (none)
set_option maxHeartbeats 4000000 in
set_option maxRecDepth 100000 in
theorem cs_28 (hlt : l.stackTraces = false) (hC : fl_C X p c s m b L xs) {i : Int32} (h1 : vp_in (i + 1) L) (h2 : vp_in (i + 2) L) (h3 : vp_in (i + 3) L) {M M0 : fw_M} {H : Heap} {locs : List Loc} {ls : Array Slot} {cells slots : Nat} (hF : F_cs_28 M xs i = some M0) (B : fr_H X s M H locs) (hl : lv_has ls 9 (fl_lv X b i)) (hcc : cells + 30 ≤ 603072) (hss : slots + 3000 ≤ 7194730) (kk : ∀ (H1 : Heap) (locs1 : List Loc) (ls1 : Array Slot), fr_H X s M0 H1 locs1 → lv_has ls1 9 (fl_lv X b i) → W p l e room_1 s m #[Value.ref b] below meth c H1 locs1 (cells + 30) (slots + 3000) Q (F0 m 3314 ls1 [])) : W p l e room_1 s m #[Value.ref b] below meth c H locs cells slots Q (F0 m 1715 ls []) := by
  have C := hC.1
  have hx := C.1.1
  have hb := C.1.2.1
  have hl : lv_has ls 9 [(0, .ref b), (1, .ref (fw_ad X 352)), (2, .ref (fw_ad X 378)), (3, .ref (fw_ad X 386)), (4, .ref (fw_ad X 387)), (5, .int i)] := hl
  unfold F_cs_28 at hF
  refine lv_aload_n hx hb dL_law_1715 rfl (lv_at hl 1 rfl) ?_
  refine lv_aload_n hx hb dL_law_1716 rfl (lv_at hl 0 rfl) ?_
  refine lv_iload hx hb dL_law_1717 (lv_at hl 5 rfl) ?_
  refine lv_iconst (v := 1) hx hb dL_law_1719 (by decide) ?_
  refine lv_iadd hx hb dL_law_1720 ?_
  refine fl_sld hC B h1 dL_law_1721 ?_
  refine lv_aload_n hx hb dL_law_1722 rfl (lv_at hl 3 rfl) ?_
  obtain ⟨k1, M2, hf3, hF⟩ := bp_e hF
  refine fr_cHi (As := [.ref (fw_ad X 352), .int (xs (i + 1).toNatClampNeg), .ref (fw_ad X 386)]) (rest := []) C B (cm_L_ridesOf hlt hf3) yh_L_ridesOf wm_L_278 rfl hl.1 rfl (Nat.le_of_ble_eq_true rfl) ⟨(Nat.le_of_ble_eq_true rfl), (Nat.le_of_ble_eq_true rfl)⟩ ⟨(by show cells + 1 ≤ 603072; omega), (by show slots + 6 ≤ 7194730; omega)⟩ dL_law_1723 (fun H locs B => ?_)
  have B : fr_H X s M2 H locs := B
  refine lv_istore (lv' := [(6, .int k1), (0, .ref b), (1, .ref (fw_ad X 352)), (2, .ref (fw_ad X 378)), (3, .ref (fw_ad X 386)), (4, .ref (fw_ad X 387)), (5, .int i)]) hx hb dL_law_1726 hl (by decide) rfl (fun ls hl => ?_)
  refine lv_aload_n hx hb dL_law_1728 rfl (lv_at hl 3 rfl) ?_
  refine lv_aload_n hx hb dL_law_1729 rfl (lv_at hl 1 rfl) ?_
  refine lv_iload hx hb dL_law_1730 (lv_at hl 6 rfl) ?_
  refine lv_iconst (v := 1) hx hb dL_law_1732 (by decide) ?_
  refine lv_iadd hx hb dL_law_1733 ?_
  refine fl_sld hC B h1 dL_law_1734 ?_
  obtain ⟨r5, M6, hf4, hF⟩ := bp_e hF
  refine fr_cVi (As := [.int (xs (i + 1).toNatClampNeg)]) (rest := []) C B (cm_X9_ridesOf hf4) ob_9 rfl yw_X9_ridesOf wm_L_280 rfl hl.1 rfl (Nat.le_of_ble_eq_true rfl) ⟨(Nat.le_of_ble_eq_true rfl), (Nat.le_of_ble_eq_true rfl)⟩ ⟨(by show cells + 1 + 0 ≤ 603072; omega), (by show slots + 6 + 0 ≤ 7194730; omega)⟩ dL_law_1735 (fr_nx rfl) (fun r9 M9 H locs ho9 B => ?_)
  obtain ⟨rfl, rfl⟩ := oi_e ho9
  refine lv_istore (lv' := [(7, .int r5), (6, .int k1), (0, .ref b), (1, .ref (fw_ad X 352)), (2, .ref (fw_ad X 378)), (3, .ref (fw_ad X 386)), (4, .ref (fw_ad X 387)), (5, .int i)]) hx hb dL_law_1738 hl (by decide) rfl (fun ls hl => ?_)
  refine lv_aload_n hx hb dL_law_1740 rfl (lv_at hl 4 rfl) ?_
  obtain ⟨r8, hf7, hF⟩ := bx_e hF
  refine fr_cVi (As := []) (rest := []) C B (cm_X9_thrown hf7) ob_9 rfl yw_X9_thrown wm_L_185 rfl hl.1 rfl (Nat.le_of_ble_eq_true rfl) ⟨(Nat.le_of_ble_eq_true rfl), (Nat.le_of_ble_eq_true rfl)⟩ ⟨(by show cells + 1 + 0 + 0 ≤ 603072; omega), (by show slots + 6 + 0 + 0 ≤ 7194730; omega)⟩ dL_law_1741 (fr_nx rfl) (fun r9 M9 H locs ho9 B => ?_)
  obtain ⟨rfl, rfl⟩ := oi_e ho9
  refine lv_iload hx hb dL_law_1744 (lv_at hl 1 rfl) ?_
  refine lv_icmp_eq (tgt := 1751) hx hb dL_law_1746 (by decide) (fun hc => ?_) (fun hc => ?_)
  · have hF := it_t hF hc
    refine lv_iload hx hb dL_law_1751 (lv_at hl 1 rfl) ?_
    refine lv_if_ne (tgt := 1768) hx hb dL_law_1753 (by decide) (fun hc => ?_) (fun hc => ?_)
    · have hF := it_f hF hc
      refine lv_goto (tgt := 3314) hx hb dL_law_1768 (by decide) ?_
      have hF := Option.some.inj hF
      subst hF
      exact W.widen (by show cells + 1 + 0 + 0 ≤ cells + 30; omega) (by show slots + 6 + 0 + 0 ≤ slots + 3000; omega) (kk H locs ls B (lv_sub hl [2, 3, 4, 5, 6, 7] rfl))
    · have hF := it_t hF hc
      refine lv_aload_n hx hb dL_law_1756 rfl (lv_at hl 5 rfl) ?_
      refine lv_iconst (v := 0) hx hb dL_law_1757 (by decide) ?_
      refine fr_ll C B dL_law_1758 ?_
      refine lv_iload hx hb dL_law_1759 (lv_at hl 0 rfl) ?_
      refine lv_i2l hx hb dL_law_1761 rfl ?_
      refine W.lcmp hx hb dL_law_1762 ?_
      refine lv_if_eq (tgt := 1768) hx hb dL_law_1763 (by decide) (fun hc => ?_) (fun hc => ?_)
      · have hF := it_t hF hc
        refine lv_goto (tgt := 3314) hx hb dL_law_1768 (by decide) ?_
        have hF := Option.some.inj hF
        subst hF
        exact W.widen (by show cells + 1 + 0 + 0 ≤ cells + 30; omega) (by show slots + 6 + 0 + 0 ≤ slots + 3000; omega) (kk H locs ls B (lv_sub hl [2, 3, 4, 5, 6, 7] rfl))
      · have hF := it_f hF hc
        cases hF
  · have hF := it_f hF hc
    cases hF
def F_cs_29 (M : fw_M) (xs : Nat → Int32) (i : Int32) : Option fw_M := bd_p (F_L_isValidIn M (xs (i + 1).toNatClampNeg) (xs (i + 2).toNatClampNeg)) fun k1 M2 => bd_p (F_X9_isValidIn M2 (xs (i + 1).toNatClampNeg) (xs (i + 2).toNatClampNeg)) fun r5 M6 => bd_x (F_X9_thrown M6 ) fun r8 => if r8 = k1 then (if k1 = 0 then (if r5 = 0 then (if (lg_cmp ((M6 386 0).toInt64) ((0 : Int32).toInt64)) = 0 then (some M6) else (none)) else (if (lg_cmp ((M6 386 0).toInt64) ((1 : Int32).toInt64)) = 0 then (some M6) else (none))) else (some M6)) else (none)
set_option maxHeartbeats 4000000 in
set_option maxRecDepth 100000 in
theorem cs_29 (hlt : l.stackTraces = false) (hC : fl_C X p c s m b L xs) {i : Int32} (h1 : vp_in (i + 1) L) (h2 : vp_in (i + 2) L) (h3 : vp_in (i + 3) L) {M M0 : fw_M} {H : Heap} {locs : List Loc} {ls : Array Slot} {cells slots : Nat} (hF : F_cs_29 M xs i = some M0) (B : fr_H X s M H locs) (hl : lv_has ls 9 (fl_lv X b i)) (hcc : cells + 30 ≤ 603072) (hss : slots + 3000 ≤ 7194730) (kk : ∀ (H1 : Heap) (locs1 : List Loc) (ls1 : Array Slot), fr_H X s M0 H1 locs1 → lv_has ls1 9 (fl_lv X b i) → W p l e room_1 s m #[Value.ref b] below meth c H1 locs1 (cells + 30) (slots + 3000) Q (F0 m 3314 ls1 [])) : W p l e room_1 s m #[Value.ref b] below meth c H locs cells slots Q (F0 m 1771 ls []) := by
  have C := hC.1
  have hx := C.1.1
  have hb := C.1.2.1
  have hl : lv_has ls 9 [(0, .ref b), (1, .ref (fw_ad X 352)), (2, .ref (fw_ad X 378)), (3, .ref (fw_ad X 386)), (4, .ref (fw_ad X 387)), (5, .int i)] := hl
  unfold F_cs_29 at hF
  refine lv_aload_n hx hb dL_law_1771 rfl (lv_at hl 1 rfl) ?_
  refine lv_aload_n hx hb dL_law_1772 rfl (lv_at hl 0 rfl) ?_
  refine lv_iload hx hb dL_law_1773 (lv_at hl 5 rfl) ?_
  refine lv_iconst (v := 1) hx hb dL_law_1775 (by decide) ?_
  refine lv_iadd hx hb dL_law_1776 ?_
  refine fl_sld hC B h1 dL_law_1777 ?_
  refine lv_aload_n hx hb dL_law_1778 rfl (lv_at hl 0 rfl) ?_
  refine lv_iload hx hb dL_law_1779 (lv_at hl 5 rfl) ?_
  refine lv_iconst (v := 2) hx hb dL_law_1781 (by decide) ?_
  refine lv_iadd hx hb dL_law_1782 ?_
  refine fl_sld hC B h2 dL_law_1783 ?_
  refine lv_aload_n hx hb dL_law_1784 rfl (lv_at hl 3 rfl) ?_
  obtain ⟨k1, M2, hf3, hF⟩ := bp_e hF
  refine fr_cHi (As := [.ref (fw_ad X 352), .int (xs (i + 1).toNatClampNeg), .int (xs (i + 2).toNatClampNeg), .ref (fw_ad X 386)]) (rest := []) C B (cm_L_isValidIn hlt hf3) yh_L_isValidIn wm_L_281 rfl hl.1 rfl (Nat.le_of_ble_eq_true rfl) ⟨(Nat.le_of_ble_eq_true rfl), (Nat.le_of_ble_eq_true rfl)⟩ ⟨(by show cells + 2 ≤ 603072; omega), (by show slots + 12 ≤ 7194730; omega)⟩ dL_law_1785 (fun H locs B => ?_)
  have B : fr_H X s M2 H locs := B
  refine lv_istore (lv' := [(6, .int k1), (0, .ref b), (1, .ref (fw_ad X 352)), (2, .ref (fw_ad X 378)), (3, .ref (fw_ad X 386)), (4, .ref (fw_ad X 387)), (5, .int i)]) hx hb dL_law_1788 hl (by decide) rfl (fun ls hl => ?_)
  refine lv_aload_n hx hb dL_law_1790 rfl (lv_at hl 3 rfl) ?_
  refine lv_aload_n hx hb dL_law_1791 rfl (lv_at hl 1 rfl) ?_
  refine lv_iload hx hb dL_law_1792 (lv_at hl 6 rfl) ?_
  refine lv_iconst (v := 1) hx hb dL_law_1794 (by decide) ?_
  refine lv_iadd hx hb dL_law_1795 ?_
  refine fl_sld hC B h1 dL_law_1796 ?_
  refine lv_aload_n hx hb dL_law_1797 rfl (lv_at hl 1 rfl) ?_
  refine lv_iload hx hb dL_law_1798 (lv_at hl 6 rfl) ?_
  refine lv_iconst (v := 2) hx hb dL_law_1800 (by decide) ?_
  refine lv_iadd hx hb dL_law_1801 ?_
  refine fl_sld hC B h2 dL_law_1802 ?_
  obtain ⟨r5, M6, hf4, hF⟩ := bp_e hF
  refine fr_cVi (As := [.int (xs (i + 1).toNatClampNeg), .int (xs (i + 2).toNatClampNeg)]) (rest := []) C B (cm_X9_isValidIn hf4) ob_9 rfl yw_X9_isValidIn wm_L_283 rfl hl.1 rfl (Nat.le_of_ble_eq_true rfl) ⟨(Nat.le_of_ble_eq_true rfl), (Nat.le_of_ble_eq_true rfl)⟩ ⟨(by show cells + 2 + 0 ≤ 603072; omega), (by show slots + 12 + 0 ≤ 7194730; omega)⟩ dL_law_1803 (fr_nx rfl) (fun r9 M9 H locs ho9 B => ?_)
  obtain ⟨rfl, rfl⟩ := oi_e ho9
  refine lv_istore (lv' := [(7, .int r5), (6, .int k1), (0, .ref b), (1, .ref (fw_ad X 352)), (2, .ref (fw_ad X 378)), (3, .ref (fw_ad X 386)), (4, .ref (fw_ad X 387)), (5, .int i)]) hx hb dL_law_1806 hl (by decide) rfl (fun ls hl => ?_)
  refine lv_aload_n hx hb dL_law_1808 rfl (lv_at hl 4 rfl) ?_
  obtain ⟨r8, hf7, hF⟩ := bx_e hF
  refine fr_cVi (As := []) (rest := []) C B (cm_X9_thrown hf7) ob_9 rfl yw_X9_thrown wm_L_185 rfl hl.1 rfl (Nat.le_of_ble_eq_true rfl) ⟨(Nat.le_of_ble_eq_true rfl), (Nat.le_of_ble_eq_true rfl)⟩ ⟨(by show cells + 2 + 0 + 0 ≤ 603072; omega), (by show slots + 12 + 0 + 0 ≤ 7194730; omega)⟩ dL_law_1809 (fr_nx rfl) (fun r9 M9 H locs ho9 B => ?_)
  obtain ⟨rfl, rfl⟩ := oi_e ho9
  refine lv_iload hx hb dL_law_1812 (lv_at hl 1 rfl) ?_
  refine lv_icmp_eq (tgt := 1819) hx hb dL_law_1814 (by decide) (fun hc => ?_) (fun hc => ?_)
  · have hF := it_t hF hc
    refine lv_iload hx hb dL_law_1819 (lv_at hl 1 rfl) ?_
    refine lv_if_ne (tgt := 1843) hx hb dL_law_1821 (by decide) (fun hc => ?_) (fun hc => ?_)
    · have hF := it_f hF hc
      refine lv_goto (tgt := 3314) hx hb dL_law_1843 (by decide) ?_
      have hF := Option.some.inj hF
      subst hF
      exact W.widen (by show cells + 2 + 0 + 0 ≤ cells + 30; omega) (by show slots + 12 + 0 + 0 ≤ slots + 3000; omega) (kk H locs ls B (lv_sub hl [2, 3, 4, 5, 6, 7] rfl))
    · have hF := it_t hF hc
      refine lv_aload_n hx hb dL_law_1824 rfl (lv_at hl 5 rfl) ?_
      refine lv_iconst (v := 0) hx hb dL_law_1825 (by decide) ?_
      refine fr_ll C B dL_law_1826 ?_
      refine lv_iload hx hb dL_law_1827 (lv_at hl 0 rfl) ?_
      refine lv_if_eq (tgt := 1836) hx hb dL_law_1829 (by decide) (fun hc => ?_) (fun hc => ?_)
      · have hF := it_t hF hc
        refine lv_lconst (v := (0 : Int32).toInt64) hx hb dL_law_1836 (by decide) ?_
        refine W.lcmp hx hb dL_law_1837 ?_
        refine lv_if_eq (tgt := 1843) hx hb dL_law_1838 (by decide) (fun hc => ?_) (fun hc => ?_)
        · have hF := it_t hF hc
          refine lv_goto (tgt := 3314) hx hb dL_law_1843 (by decide) ?_
          have hF := Option.some.inj hF
          subst hF
          exact W.widen (by show cells + 2 + 0 + 0 ≤ cells + 30; omega) (by show slots + 12 + 0 + 0 ≤ slots + 3000; omega) (kk H locs ls B (lv_sub hl [2, 3, 4, 5, 6, 7] rfl))
        · have hF := it_f hF hc
          cases hF
      · have hF := it_f hF hc
        refine lv_lconst (v := (1 : Int32).toInt64) hx hb dL_law_1832 (by decide) ?_
        refine lv_goto (tgt := 1837) hx hb dL_law_1833 (by decide) ?_
        refine W.lcmp hx hb dL_law_1837 ?_
        refine lv_if_eq (tgt := 1843) hx hb dL_law_1838 (by decide) (fun hc => ?_) (fun hc => ?_)
        · have hF := it_t hF hc
          refine lv_goto (tgt := 3314) hx hb dL_law_1843 (by decide) ?_
          have hF := Option.some.inj hF
          subst hF
          exact W.widen (by show cells + 2 + 0 + 0 ≤ cells + 30; omega) (by show slots + 12 + 0 + 0 ≤ slots + 3000; omega) (kk H locs ls B (lv_sub hl [2, 3, 4, 5, 6, 7] rfl))
        · have hF := it_f hF hc
          cases hF
  · have hF := it_f hF hc
    cases hF
def F_cs_30 (M : fw_M) (xs : Nat → Int32) (i : Int32) : Option fw_M := bd_p (F_L_canBoard M (xs (i + 1).toNatClampNeg) (xs (i + 2).toNatClampNeg)) fun k1 M2 => bd_p (F_X9_canBoard M2 (xs (i + 1).toNatClampNeg) (xs (i + 2).toNatClampNeg)) fun r5 M6 => bd_x (F_X9_thrown M6 ) fun r8 => if r8 = k1 then (if k1 = 0 then (if r5 = 0 then (if (lg_cmp ((M6 386 0).toInt64) ((0 : Int32).toInt64)) = 0 then (some M6) else (none)) else (if (lg_cmp ((M6 386 0).toInt64) ((1 : Int32).toInt64)) = 0 then (some M6) else (none))) else (some M6)) else (none)
set_option maxHeartbeats 4000000 in
set_option maxRecDepth 100000 in
theorem cs_30 (hlt : l.stackTraces = false) (hC : fl_C X p c s m b L xs) {i : Int32} (h1 : vp_in (i + 1) L) (h2 : vp_in (i + 2) L) (h3 : vp_in (i + 3) L) {M M0 : fw_M} {H : Heap} {locs : List Loc} {ls : Array Slot} {cells slots : Nat} (hF : F_cs_30 M xs i = some M0) (B : fr_H X s M H locs) (hl : lv_has ls 9 (fl_lv X b i)) (hcc : cells + 30 ≤ 603072) (hss : slots + 3000 ≤ 7194730) (kk : ∀ (H1 : Heap) (locs1 : List Loc) (ls1 : Array Slot), fr_H X s M0 H1 locs1 → lv_has ls1 9 (fl_lv X b i) → W p l e room_1 s m #[Value.ref b] below meth c H1 locs1 (cells + 30) (slots + 3000) Q (F0 m 3314 ls1 [])) : W p l e room_1 s m #[Value.ref b] below meth c H locs cells slots Q (F0 m 1846 ls []) := by
  have C := hC.1
  have hx := C.1.1
  have hb := C.1.2.1
  have hl : lv_has ls 9 [(0, .ref b), (1, .ref (fw_ad X 352)), (2, .ref (fw_ad X 378)), (3, .ref (fw_ad X 386)), (4, .ref (fw_ad X 387)), (5, .int i)] := hl
  unfold F_cs_30 at hF
  refine lv_aload_n hx hb dL_law_1846 rfl (lv_at hl 1 rfl) ?_
  refine lv_aload_n hx hb dL_law_1847 rfl (lv_at hl 0 rfl) ?_
  refine lv_iload hx hb dL_law_1848 (lv_at hl 5 rfl) ?_
  refine lv_iconst (v := 1) hx hb dL_law_1850 (by decide) ?_
  refine lv_iadd hx hb dL_law_1851 ?_
  refine fl_sld hC B h1 dL_law_1852 ?_
  refine lv_aload_n hx hb dL_law_1853 rfl (lv_at hl 0 rfl) ?_
  refine lv_iload hx hb dL_law_1854 (lv_at hl 5 rfl) ?_
  refine lv_iconst (v := 2) hx hb dL_law_1856 (by decide) ?_
  refine lv_iadd hx hb dL_law_1857 ?_
  refine fl_sld hC B h2 dL_law_1858 ?_
  refine lv_aload_n hx hb dL_law_1859 rfl (lv_at hl 3 rfl) ?_
  obtain ⟨k1, M2, hf3, hF⟩ := bp_e hF
  refine fr_cHi (As := [.ref (fw_ad X 352), .int (xs (i + 1).toNatClampNeg), .int (xs (i + 2).toNatClampNeg), .ref (fw_ad X 386)]) (rest := []) C B (cm_L_canBoard hlt hf3) yh_L_canBoard wm_L_284 rfl hl.1 rfl (Nat.le_of_ble_eq_true rfl) ⟨(Nat.le_of_ble_eq_true rfl), (Nat.le_of_ble_eq_true rfl)⟩ ⟨(by show cells + 2 ≤ 603072; omega), (by show slots + 12 ≤ 7194730; omega)⟩ dL_law_1860 (fun H locs B => ?_)
  have B : fr_H X s M2 H locs := B
  refine lv_istore (lv' := [(6, .int k1), (0, .ref b), (1, .ref (fw_ad X 352)), (2, .ref (fw_ad X 378)), (3, .ref (fw_ad X 386)), (4, .ref (fw_ad X 387)), (5, .int i)]) hx hb dL_law_1863 hl (by decide) rfl (fun ls hl => ?_)
  refine lv_aload_n hx hb dL_law_1865 rfl (lv_at hl 3 rfl) ?_
  refine lv_aload_n hx hb dL_law_1866 rfl (lv_at hl 1 rfl) ?_
  refine lv_iload hx hb dL_law_1867 (lv_at hl 6 rfl) ?_
  refine lv_iconst (v := 1) hx hb dL_law_1869 (by decide) ?_
  refine lv_iadd hx hb dL_law_1870 ?_
  refine fl_sld hC B h1 dL_law_1871 ?_
  refine lv_aload_n hx hb dL_law_1872 rfl (lv_at hl 1 rfl) ?_
  refine lv_iload hx hb dL_law_1873 (lv_at hl 6 rfl) ?_
  refine lv_iconst (v := 2) hx hb dL_law_1875 (by decide) ?_
  refine lv_iadd hx hb dL_law_1876 ?_
  refine fl_sld hC B h2 dL_law_1877 ?_
  obtain ⟨r5, M6, hf4, hF⟩ := bp_e hF
  refine fr_cVi (As := [.int (xs (i + 1).toNatClampNeg), .int (xs (i + 2).toNatClampNeg)]) (rest := []) C B (cm_X9_canBoard hf4) ob_9 rfl yw_X9_canBoard wm_L_286 rfl hl.1 rfl (Nat.le_of_ble_eq_true rfl) ⟨(Nat.le_of_ble_eq_true rfl), (Nat.le_of_ble_eq_true rfl)⟩ ⟨(by show cells + 2 + 0 ≤ 603072; omega), (by show slots + 12 + 0 ≤ 7194730; omega)⟩ dL_law_1878 (fr_nx rfl) (fun r9 M9 H locs ho9 B => ?_)
  obtain ⟨rfl, rfl⟩ := oi_e ho9
  refine lv_istore (lv' := [(7, .int r5), (6, .int k1), (0, .ref b), (1, .ref (fw_ad X 352)), (2, .ref (fw_ad X 378)), (3, .ref (fw_ad X 386)), (4, .ref (fw_ad X 387)), (5, .int i)]) hx hb dL_law_1881 hl (by decide) rfl (fun ls hl => ?_)
  refine lv_aload_n hx hb dL_law_1883 rfl (lv_at hl 4 rfl) ?_
  obtain ⟨r8, hf7, hF⟩ := bx_e hF
  refine fr_cVi (As := []) (rest := []) C B (cm_X9_thrown hf7) ob_9 rfl yw_X9_thrown wm_L_185 rfl hl.1 rfl (Nat.le_of_ble_eq_true rfl) ⟨(Nat.le_of_ble_eq_true rfl), (Nat.le_of_ble_eq_true rfl)⟩ ⟨(by show cells + 2 + 0 + 0 ≤ 603072; omega), (by show slots + 12 + 0 + 0 ≤ 7194730; omega)⟩ dL_law_1884 (fr_nx rfl) (fun r9 M9 H locs ho9 B => ?_)
  obtain ⟨rfl, rfl⟩ := oi_e ho9
  refine lv_iload hx hb dL_law_1887 (lv_at hl 1 rfl) ?_
  refine lv_icmp_eq (tgt := 1894) hx hb dL_law_1889 (by decide) (fun hc => ?_) (fun hc => ?_)
  · have hF := it_t hF hc
    refine lv_iload hx hb dL_law_1894 (lv_at hl 1 rfl) ?_
    refine lv_if_ne (tgt := 1918) hx hb dL_law_1896 (by decide) (fun hc => ?_) (fun hc => ?_)
    · have hF := it_f hF hc
      refine lv_goto (tgt := 3314) hx hb dL_law_1918 (by decide) ?_
      have hF := Option.some.inj hF
      subst hF
      exact W.widen (by show cells + 2 + 0 + 0 ≤ cells + 30; omega) (by show slots + 12 + 0 + 0 ≤ slots + 3000; omega) (kk H locs ls B (lv_sub hl [2, 3, 4, 5, 6, 7] rfl))
    · have hF := it_t hF hc
      refine lv_aload_n hx hb dL_law_1899 rfl (lv_at hl 5 rfl) ?_
      refine lv_iconst (v := 0) hx hb dL_law_1900 (by decide) ?_
      refine fr_ll C B dL_law_1901 ?_
      refine lv_iload hx hb dL_law_1902 (lv_at hl 0 rfl) ?_
      refine lv_if_eq (tgt := 1911) hx hb dL_law_1904 (by decide) (fun hc => ?_) (fun hc => ?_)
      · have hF := it_t hF hc
        refine lv_lconst (v := (0 : Int32).toInt64) hx hb dL_law_1911 (by decide) ?_
        refine W.lcmp hx hb dL_law_1912 ?_
        refine lv_if_eq (tgt := 1918) hx hb dL_law_1913 (by decide) (fun hc => ?_) (fun hc => ?_)
        · have hF := it_t hF hc
          refine lv_goto (tgt := 3314) hx hb dL_law_1918 (by decide) ?_
          have hF := Option.some.inj hF
          subst hF
          exact W.widen (by show cells + 2 + 0 + 0 ≤ cells + 30; omega) (by show slots + 12 + 0 + 0 ≤ slots + 3000; omega) (kk H locs ls B (lv_sub hl [2, 3, 4, 5, 6, 7] rfl))
        · have hF := it_f hF hc
          cases hF
      · have hF := it_f hF hc
        refine lv_lconst (v := (1 : Int32).toInt64) hx hb dL_law_1907 (by decide) ?_
        refine lv_goto (tgt := 1912) hx hb dL_law_1908 (by decide) ?_
        refine W.lcmp hx hb dL_law_1912 ?_
        refine lv_if_eq (tgt := 1918) hx hb dL_law_1913 (by decide) (fun hc => ?_) (fun hc => ?_)
        · have hF := it_t hF hc
          refine lv_goto (tgt := 3314) hx hb dL_law_1918 (by decide) ?_
          have hF := Option.some.inj hF
          subst hF
          exact W.widen (by show cells + 2 + 0 + 0 ≤ cells + 30; omega) (by show slots + 12 + 0 + 0 ≤ slots + 3000; omega) (kk H locs ls B (lv_sub hl [2, 3, 4, 5, 6, 7] rfl))
        · have hF := it_f hF hc
          cases hF
  · have hF := it_f hF hc
    cases hF
def F_cs_31 (M : fw_M) (xs : Nat → Int32) (i : Int32) : Option fw_M := bd_p (F_L_isTransfer M (xs (i + 1).toNatClampNeg) (xs (i + 2).toNatClampNeg)) fun k1 M2 => bd_p (F_X9_isTransfer M2 (xs (i + 1).toNatClampNeg) (xs (i + 2).toNatClampNeg)) fun r5 M6 => bd_x (F_X9_thrown M6 ) fun r8 => if r8 = k1 then (if k1 = 0 then (if r5 = 0 then (if (lg_cmp ((M6 386 0).toInt64) ((0 : Int32).toInt64)) = 0 then (some M6) else (none)) else (if (lg_cmp ((M6 386 0).toInt64) ((1 : Int32).toInt64)) = 0 then (some M6) else (none))) else (some M6)) else (none)
set_option maxHeartbeats 4000000 in
set_option maxRecDepth 100000 in
theorem cs_31 (hlt : l.stackTraces = false) (hC : fl_C X p c s m b L xs) {i : Int32} (h1 : vp_in (i + 1) L) (h2 : vp_in (i + 2) L) (h3 : vp_in (i + 3) L) {M M0 : fw_M} {H : Heap} {locs : List Loc} {ls : Array Slot} {cells slots : Nat} (hF : F_cs_31 M xs i = some M0) (B : fr_H X s M H locs) (hl : lv_has ls 9 (fl_lv X b i)) (hcc : cells + 30 ≤ 603072) (hss : slots + 3000 ≤ 7194730) (kk : ∀ (H1 : Heap) (locs1 : List Loc) (ls1 : Array Slot), fr_H X s M0 H1 locs1 → lv_has ls1 9 (fl_lv X b i) → W p l e room_1 s m #[Value.ref b] below meth c H1 locs1 (cells + 30) (slots + 3000) Q (F0 m 3314 ls1 [])) : W p l e room_1 s m #[Value.ref b] below meth c H locs cells slots Q (F0 m 1921 ls []) := by
  have C := hC.1
  have hx := C.1.1
  have hb := C.1.2.1
  have hl : lv_has ls 9 [(0, .ref b), (1, .ref (fw_ad X 352)), (2, .ref (fw_ad X 378)), (3, .ref (fw_ad X 386)), (4, .ref (fw_ad X 387)), (5, .int i)] := hl
  unfold F_cs_31 at hF
  refine lv_aload_n hx hb dL_law_1921 rfl (lv_at hl 1 rfl) ?_
  refine lv_aload_n hx hb dL_law_1922 rfl (lv_at hl 0 rfl) ?_
  refine lv_iload hx hb dL_law_1923 (lv_at hl 5 rfl) ?_
  refine lv_iconst (v := 1) hx hb dL_law_1925 (by decide) ?_
  refine lv_iadd hx hb dL_law_1926 ?_
  refine fl_sld hC B h1 dL_law_1927 ?_
  refine lv_aload_n hx hb dL_law_1928 rfl (lv_at hl 0 rfl) ?_
  refine lv_iload hx hb dL_law_1929 (lv_at hl 5 rfl) ?_
  refine lv_iconst (v := 2) hx hb dL_law_1931 (by decide) ?_
  refine lv_iadd hx hb dL_law_1932 ?_
  refine fl_sld hC B h2 dL_law_1933 ?_
  refine lv_aload_n hx hb dL_law_1934 rfl (lv_at hl 3 rfl) ?_
  obtain ⟨k1, M2, hf3, hF⟩ := bp_e hF
  refine fr_cHi (As := [.ref (fw_ad X 352), .int (xs (i + 1).toNatClampNeg), .int (xs (i + 2).toNatClampNeg), .ref (fw_ad X 386)]) (rest := []) C B (cm_L_isTransfer hlt hf3) yh_L_isTransfer wm_L_287 rfl hl.1 rfl (Nat.le_of_ble_eq_true rfl) ⟨(Nat.le_of_ble_eq_true rfl), (Nat.le_of_ble_eq_true rfl)⟩ ⟨(by show cells + 2 ≤ 603072; omega), (by show slots + 12 ≤ 7194730; omega)⟩ dL_law_1935 (fun H locs B => ?_)
  have B : fr_H X s M2 H locs := B
  refine lv_istore (lv' := [(6, .int k1), (0, .ref b), (1, .ref (fw_ad X 352)), (2, .ref (fw_ad X 378)), (3, .ref (fw_ad X 386)), (4, .ref (fw_ad X 387)), (5, .int i)]) hx hb dL_law_1938 hl (by decide) rfl (fun ls hl => ?_)
  refine lv_aload_n hx hb dL_law_1940 rfl (lv_at hl 3 rfl) ?_
  refine lv_aload_n hx hb dL_law_1941 rfl (lv_at hl 1 rfl) ?_
  refine lv_iload hx hb dL_law_1942 (lv_at hl 6 rfl) ?_
  refine lv_iconst (v := 1) hx hb dL_law_1944 (by decide) ?_
  refine lv_iadd hx hb dL_law_1945 ?_
  refine fl_sld hC B h1 dL_law_1946 ?_
  refine lv_aload_n hx hb dL_law_1947 rfl (lv_at hl 1 rfl) ?_
  refine lv_iload hx hb dL_law_1948 (lv_at hl 6 rfl) ?_
  refine lv_iconst (v := 2) hx hb dL_law_1950 (by decide) ?_
  refine lv_iadd hx hb dL_law_1951 ?_
  refine fl_sld hC B h2 dL_law_1952 ?_
  obtain ⟨r5, M6, hf4, hF⟩ := bp_e hF
  refine fr_cVi (As := [.int (xs (i + 1).toNatClampNeg), .int (xs (i + 2).toNatClampNeg)]) (rest := []) C B (cm_X9_isTransfer hf4) ob_9 rfl yw_X9_isTransfer wm_L_289 rfl hl.1 rfl (Nat.le_of_ble_eq_true rfl) ⟨(Nat.le_of_ble_eq_true rfl), (Nat.le_of_ble_eq_true rfl)⟩ ⟨(by show cells + 2 + 0 ≤ 603072; omega), (by show slots + 12 + 0 ≤ 7194730; omega)⟩ dL_law_1953 (fr_nx rfl) (fun r9 M9 H locs ho9 B => ?_)
  obtain ⟨rfl, rfl⟩ := oi_e ho9
  refine lv_istore (lv' := [(7, .int r5), (6, .int k1), (0, .ref b), (1, .ref (fw_ad X 352)), (2, .ref (fw_ad X 378)), (3, .ref (fw_ad X 386)), (4, .ref (fw_ad X 387)), (5, .int i)]) hx hb dL_law_1956 hl (by decide) rfl (fun ls hl => ?_)
  refine lv_aload_n hx hb dL_law_1958 rfl (lv_at hl 4 rfl) ?_
  obtain ⟨r8, hf7, hF⟩ := bx_e hF
  refine fr_cVi (As := []) (rest := []) C B (cm_X9_thrown hf7) ob_9 rfl yw_X9_thrown wm_L_185 rfl hl.1 rfl (Nat.le_of_ble_eq_true rfl) ⟨(Nat.le_of_ble_eq_true rfl), (Nat.le_of_ble_eq_true rfl)⟩ ⟨(by show cells + 2 + 0 + 0 ≤ 603072; omega), (by show slots + 12 + 0 + 0 ≤ 7194730; omega)⟩ dL_law_1959 (fr_nx rfl) (fun r9 M9 H locs ho9 B => ?_)
  obtain ⟨rfl, rfl⟩ := oi_e ho9
  refine lv_iload hx hb dL_law_1962 (lv_at hl 1 rfl) ?_
  refine lv_icmp_eq (tgt := 1969) hx hb dL_law_1964 (by decide) (fun hc => ?_) (fun hc => ?_)
  · have hF := it_t hF hc
    refine lv_iload hx hb dL_law_1969 (lv_at hl 1 rfl) ?_
    refine lv_if_ne (tgt := 1993) hx hb dL_law_1971 (by decide) (fun hc => ?_) (fun hc => ?_)
    · have hF := it_f hF hc
      refine lv_goto (tgt := 3314) hx hb dL_law_1993 (by decide) ?_
      have hF := Option.some.inj hF
      subst hF
      exact W.widen (by show cells + 2 + 0 + 0 ≤ cells + 30; omega) (by show slots + 12 + 0 + 0 ≤ slots + 3000; omega) (kk H locs ls B (lv_sub hl [2, 3, 4, 5, 6, 7] rfl))
    · have hF := it_t hF hc
      refine lv_aload_n hx hb dL_law_1974 rfl (lv_at hl 5 rfl) ?_
      refine lv_iconst (v := 0) hx hb dL_law_1975 (by decide) ?_
      refine fr_ll C B dL_law_1976 ?_
      refine lv_iload hx hb dL_law_1977 (lv_at hl 0 rfl) ?_
      refine lv_if_eq (tgt := 1986) hx hb dL_law_1979 (by decide) (fun hc => ?_) (fun hc => ?_)
      · have hF := it_t hF hc
        refine lv_lconst (v := (0 : Int32).toInt64) hx hb dL_law_1986 (by decide) ?_
        refine W.lcmp hx hb dL_law_1987 ?_
        refine lv_if_eq (tgt := 1993) hx hb dL_law_1988 (by decide) (fun hc => ?_) (fun hc => ?_)
        · have hF := it_t hF hc
          refine lv_goto (tgt := 3314) hx hb dL_law_1993 (by decide) ?_
          have hF := Option.some.inj hF
          subst hF
          exact W.widen (by show cells + 2 + 0 + 0 ≤ cells + 30; omega) (by show slots + 12 + 0 + 0 ≤ slots + 3000; omega) (kk H locs ls B (lv_sub hl [2, 3, 4, 5, 6, 7] rfl))
        · have hF := it_f hF hc
          cases hF
      · have hF := it_f hF hc
        refine lv_lconst (v := (1 : Int32).toInt64) hx hb dL_law_1982 (by decide) ?_
        refine lv_goto (tgt := 1987) hx hb dL_law_1983 (by decide) ?_
        refine W.lcmp hx hb dL_law_1987 ?_
        refine lv_if_eq (tgt := 1993) hx hb dL_law_1988 (by decide) (fun hc => ?_) (fun hc => ?_)
        · have hF := it_t hF hc
          refine lv_goto (tgt := 3314) hx hb dL_law_1993 (by decide) ?_
          have hF := Option.some.inj hF
          subst hF
          exact W.widen (by show cells + 2 + 0 + 0 ≤ cells + 30; omega) (by show slots + 12 + 0 + 0 ≤ slots + 3000; omega) (kk H locs ls B (lv_sub hl [2, 3, 4, 5, 6, 7] rfl))
        · have hF := it_f hF hc
          cases hF
  · have hF := it_f hF hc
    cases hF
def F_cs_32 (M : fw_M) (xs : Nat → Int32) (i : Int32) : Option fw_M := bd_p (F_L_addSecret M (xs (i + 1).toNatClampNeg)) fun k1 M2 => bd_p (F_X9_addSecret M2 (xs (i + 1).toNatClampNeg)) fun r5 M6 => bd_x (F_X9_thrown M6 ) fun r8 => if r8 = k1 then (if k1 = 0 then (if (lg_cmp ((M6 386 0).toInt64) ((r5 : Int32).toInt64)) = 0 then (some M6) else (none)) else (some M6)) else (none)
set_option maxHeartbeats 4000000 in
set_option maxRecDepth 100000 in
theorem cs_32 (hlt : l.stackTraces = false) (hC : fl_C X p c s m b L xs) {i : Int32} (h1 : vp_in (i + 1) L) (h2 : vp_in (i + 2) L) (h3 : vp_in (i + 3) L) {M M0 : fw_M} {H : Heap} {locs : List Loc} {ls : Array Slot} {cells slots : Nat} (hF : F_cs_32 M xs i = some M0) (B : fr_H X s M H locs) (hl : lv_has ls 9 (fl_lv X b i)) (hcc : cells + 30 ≤ 603072) (hss : slots + 3000 ≤ 7194730) (kk : ∀ (H1 : Heap) (locs1 : List Loc) (ls1 : Array Slot), fr_H X s M0 H1 locs1 → lv_has ls1 9 (fl_lv X b i) → W p l e room_1 s m #[Value.ref b] below meth c H1 locs1 (cells + 30) (slots + 3000) Q (F0 m 3314 ls1 [])) : W p l e room_1 s m #[Value.ref b] below meth c H locs cells slots Q (F0 m 1996 ls []) := by
  have C := hC.1
  have hx := C.1.1
  have hb := C.1.2.1
  have hl : lv_has ls 9 [(0, .ref b), (1, .ref (fw_ad X 352)), (2, .ref (fw_ad X 378)), (3, .ref (fw_ad X 386)), (4, .ref (fw_ad X 387)), (5, .int i)] := hl
  unfold F_cs_32 at hF
  refine lv_aload_n hx hb dL_law_1996 rfl (lv_at hl 1 rfl) ?_
  refine lv_aload_n hx hb dL_law_1997 rfl (lv_at hl 0 rfl) ?_
  refine lv_iload hx hb dL_law_1998 (lv_at hl 5 rfl) ?_
  refine lv_iconst (v := 1) hx hb dL_law_2000 (by decide) ?_
  refine lv_iadd hx hb dL_law_2001 ?_
  refine fl_sld hC B h1 dL_law_2002 ?_
  refine lv_aload_n hx hb dL_law_2003 rfl (lv_at hl 3 rfl) ?_
  obtain ⟨k1, M2, hf3, hF⟩ := bp_e hF
  refine fr_cHi (As := [.ref (fw_ad X 352), .int (xs (i + 1).toNatClampNeg), .ref (fw_ad X 386)]) (rest := []) C B (cm_L_addSecret hlt hf3) yh_L_addSecret wm_L_290 rfl hl.1 rfl (Nat.le_of_ble_eq_true rfl) ⟨(Nat.le_of_ble_eq_true rfl), (Nat.le_of_ble_eq_true rfl)⟩ ⟨(by show cells + 1 ≤ 603072; omega), (by show slots + 6 ≤ 7194730; omega)⟩ dL_law_2004 (fun H locs B => ?_)
  have B : fr_H X s M2 H locs := B
  refine lv_istore (lv' := [(6, .int k1), (0, .ref b), (1, .ref (fw_ad X 352)), (2, .ref (fw_ad X 378)), (3, .ref (fw_ad X 386)), (4, .ref (fw_ad X 387)), (5, .int i)]) hx hb dL_law_2007 hl (by decide) rfl (fun ls hl => ?_)
  refine lv_aload_n hx hb dL_law_2009 rfl (lv_at hl 3 rfl) ?_
  refine lv_aload_n hx hb dL_law_2010 rfl (lv_at hl 1 rfl) ?_
  refine lv_iload hx hb dL_law_2011 (lv_at hl 6 rfl) ?_
  refine lv_iconst (v := 1) hx hb dL_law_2013 (by decide) ?_
  refine lv_iadd hx hb dL_law_2014 ?_
  refine fl_sld hC B h1 dL_law_2015 ?_
  obtain ⟨r5, M6, hf4, hF⟩ := bp_e hF
  refine fr_cVi (As := [.int (xs (i + 1).toNatClampNeg)]) (rest := []) C B (cm_X9_addSecret hf4) ob_9 rfl yw_X9_addSecret wm_L_292 rfl hl.1 rfl (Nat.le_of_ble_eq_true rfl) ⟨(Nat.le_of_ble_eq_true rfl), (Nat.le_of_ble_eq_true rfl)⟩ ⟨(by show cells + 1 + 0 ≤ 603072; omega), (by show slots + 6 + 0 ≤ 7194730; omega)⟩ dL_law_2016 (fr_nx rfl) (fun r9 M9 H locs ho9 B => ?_)
  obtain ⟨rfl, rfl⟩ := oi_e ho9
  refine lv_istore (lv' := [(7, .int r5), (6, .int k1), (0, .ref b), (1, .ref (fw_ad X 352)), (2, .ref (fw_ad X 378)), (3, .ref (fw_ad X 386)), (4, .ref (fw_ad X 387)), (5, .int i)]) hx hb dL_law_2019 hl (by decide) rfl (fun ls hl => ?_)
  refine lv_aload_n hx hb dL_law_2021 rfl (lv_at hl 4 rfl) ?_
  obtain ⟨r8, hf7, hF⟩ := bx_e hF
  refine fr_cVi (As := []) (rest := []) C B (cm_X9_thrown hf7) ob_9 rfl yw_X9_thrown wm_L_185 rfl hl.1 rfl (Nat.le_of_ble_eq_true rfl) ⟨(Nat.le_of_ble_eq_true rfl), (Nat.le_of_ble_eq_true rfl)⟩ ⟨(by show cells + 1 + 0 + 0 ≤ 603072; omega), (by show slots + 6 + 0 + 0 ≤ 7194730; omega)⟩ dL_law_2022 (fr_nx rfl) (fun r9 M9 H locs ho9 B => ?_)
  obtain ⟨rfl, rfl⟩ := oi_e ho9
  refine lv_iload hx hb dL_law_2025 (lv_at hl 1 rfl) ?_
  refine lv_icmp_eq (tgt := 2032) hx hb dL_law_2027 (by decide) (fun hc => ?_) (fun hc => ?_)
  · have hF := it_t hF hc
    refine lv_iload hx hb dL_law_2032 (lv_at hl 1 rfl) ?_
    refine lv_if_ne (tgt := 2049) hx hb dL_law_2034 (by decide) (fun hc => ?_) (fun hc => ?_)
    · have hF := it_f hF hc
      refine lv_goto (tgt := 3314) hx hb dL_law_2049 (by decide) ?_
      have hF := Option.some.inj hF
      subst hF
      exact W.widen (by show cells + 1 + 0 + 0 ≤ cells + 30; omega) (by show slots + 6 + 0 + 0 ≤ slots + 3000; omega) (kk H locs ls B (lv_sub hl [2, 3, 4, 5, 6, 7] rfl))
    · have hF := it_t hF hc
      refine lv_aload_n hx hb dL_law_2037 rfl (lv_at hl 5 rfl) ?_
      refine lv_iconst (v := 0) hx hb dL_law_2038 (by decide) ?_
      refine fr_ll C B dL_law_2039 ?_
      refine lv_iload hx hb dL_law_2040 (lv_at hl 0 rfl) ?_
      refine lv_i2l hx hb dL_law_2042 rfl ?_
      refine W.lcmp hx hb dL_law_2043 ?_
      refine lv_if_eq (tgt := 2049) hx hb dL_law_2044 (by decide) (fun hc => ?_) (fun hc => ?_)
      · have hF := it_t hF hc
        refine lv_goto (tgt := 3314) hx hb dL_law_2049 (by decide) ?_
        have hF := Option.some.inj hF
        subst hF
        exact W.widen (by show cells + 1 + 0 + 0 ≤ cells + 30; omega) (by show slots + 6 + 0 + 0 ≤ slots + 3000; omega) (kk H locs ls B (lv_sub hl [2, 3, 4, 5, 6, 7] rfl))
      · have hF := it_f hF hc
        cases hF
  · have hF := it_f hF hc
    cases hF
def F_cs_33 (M : fw_M) (xs : Nat → Int32) (i : Int32) : Option fw_M := bd_p (F_L_whisper M (xs (i + 1).toNatClampNeg) (xs (i + 2).toNatClampNeg)) fun k1 M2 => bd_p (F_X9_whisper M2 (xs (i + 1).toNatClampNeg) (xs (i + 2).toNatClampNeg)) fun r5 M6 => bd_x (F_X9_thrown M6 ) fun r8 => if r8 = k1 then (if k1 = 0 then (if (lg_cmp ((M6 386 0).toInt64) ((r5 : Int32).toInt64)) = 0 then (some M6) else (none)) else (some M6)) else (none)
set_option maxHeartbeats 4000000 in
set_option maxRecDepth 100000 in
theorem cs_33 (hlt : l.stackTraces = false) (hC : fl_C X p c s m b L xs) {i : Int32} (h1 : vp_in (i + 1) L) (h2 : vp_in (i + 2) L) (h3 : vp_in (i + 3) L) {M M0 : fw_M} {H : Heap} {locs : List Loc} {ls : Array Slot} {cells slots : Nat} (hF : F_cs_33 M xs i = some M0) (B : fr_H X s M H locs) (hl : lv_has ls 9 (fl_lv X b i)) (hcc : cells + 30 ≤ 603072) (hss : slots + 3000 ≤ 7194730) (kk : ∀ (H1 : Heap) (locs1 : List Loc) (ls1 : Array Slot), fr_H X s M0 H1 locs1 → lv_has ls1 9 (fl_lv X b i) → W p l e room_1 s m #[Value.ref b] below meth c H1 locs1 (cells + 30) (slots + 3000) Q (F0 m 3314 ls1 [])) : W p l e room_1 s m #[Value.ref b] below meth c H locs cells slots Q (F0 m 2052 ls []) := by
  have C := hC.1
  have hx := C.1.1
  have hb := C.1.2.1
  have hl : lv_has ls 9 [(0, .ref b), (1, .ref (fw_ad X 352)), (2, .ref (fw_ad X 378)), (3, .ref (fw_ad X 386)), (4, .ref (fw_ad X 387)), (5, .int i)] := hl
  unfold F_cs_33 at hF
  refine lv_aload_n hx hb dL_law_2052 rfl (lv_at hl 1 rfl) ?_
  refine lv_aload_n hx hb dL_law_2053 rfl (lv_at hl 0 rfl) ?_
  refine lv_iload hx hb dL_law_2054 (lv_at hl 5 rfl) ?_
  refine lv_iconst (v := 1) hx hb dL_law_2056 (by decide) ?_
  refine lv_iadd hx hb dL_law_2057 ?_
  refine fl_sld hC B h1 dL_law_2058 ?_
  refine lv_aload_n hx hb dL_law_2059 rfl (lv_at hl 0 rfl) ?_
  refine lv_iload hx hb dL_law_2060 (lv_at hl 5 rfl) ?_
  refine lv_iconst (v := 2) hx hb dL_law_2062 (by decide) ?_
  refine lv_iadd hx hb dL_law_2063 ?_
  refine fl_sld hC B h2 dL_law_2064 ?_
  refine lv_aload_n hx hb dL_law_2065 rfl (lv_at hl 3 rfl) ?_
  obtain ⟨k1, M2, hf3, hF⟩ := bp_e hF
  refine fr_cHi (As := [.ref (fw_ad X 352), .int (xs (i + 1).toNatClampNeg), .int (xs (i + 2).toNatClampNeg), .ref (fw_ad X 386)]) (rest := []) C B (cm_L_whisper hlt hf3) yh_L_whisper wm_L_293 rfl hl.1 rfl (Nat.le_of_ble_eq_true rfl) ⟨(Nat.le_of_ble_eq_true rfl), (Nat.le_of_ble_eq_true rfl)⟩ ⟨(by show cells + 1 ≤ 603072; omega), (by show slots + 6 ≤ 7194730; omega)⟩ dL_law_2066 (fun H locs B => ?_)
  have B : fr_H X s M2 H locs := B
  refine lv_istore (lv' := [(6, .int k1), (0, .ref b), (1, .ref (fw_ad X 352)), (2, .ref (fw_ad X 378)), (3, .ref (fw_ad X 386)), (4, .ref (fw_ad X 387)), (5, .int i)]) hx hb dL_law_2069 hl (by decide) rfl (fun ls hl => ?_)
  refine lv_aload_n hx hb dL_law_2071 rfl (lv_at hl 3 rfl) ?_
  refine lv_aload_n hx hb dL_law_2072 rfl (lv_at hl 1 rfl) ?_
  refine lv_iload hx hb dL_law_2073 (lv_at hl 6 rfl) ?_
  refine lv_iconst (v := 1) hx hb dL_law_2075 (by decide) ?_
  refine lv_iadd hx hb dL_law_2076 ?_
  refine fl_sld hC B h1 dL_law_2077 ?_
  refine lv_aload_n hx hb dL_law_2078 rfl (lv_at hl 1 rfl) ?_
  refine lv_iload hx hb dL_law_2079 (lv_at hl 6 rfl) ?_
  refine lv_iconst (v := 2) hx hb dL_law_2081 (by decide) ?_
  refine lv_iadd hx hb dL_law_2082 ?_
  refine fl_sld hC B h2 dL_law_2083 ?_
  obtain ⟨r5, M6, hf4, hF⟩ := bp_e hF
  refine fr_cVi (As := [.int (xs (i + 1).toNatClampNeg), .int (xs (i + 2).toNatClampNeg)]) (rest := []) C B (cm_X9_whisper hf4) ob_9 rfl yw_X9_whisper wm_L_295 rfl hl.1 rfl (Nat.le_of_ble_eq_true rfl) ⟨(Nat.le_of_ble_eq_true rfl), (Nat.le_of_ble_eq_true rfl)⟩ ⟨(by show cells + 1 + 0 ≤ 603072; omega), (by show slots + 6 + 0 ≤ 7194730; omega)⟩ dL_law_2084 (fr_nx rfl) (fun r9 M9 H locs ho9 B => ?_)
  obtain ⟨rfl, rfl⟩ := oi_e ho9
  refine lv_istore (lv' := [(7, .int r5), (6, .int k1), (0, .ref b), (1, .ref (fw_ad X 352)), (2, .ref (fw_ad X 378)), (3, .ref (fw_ad X 386)), (4, .ref (fw_ad X 387)), (5, .int i)]) hx hb dL_law_2087 hl (by decide) rfl (fun ls hl => ?_)
  refine lv_aload_n hx hb dL_law_2089 rfl (lv_at hl 4 rfl) ?_
  obtain ⟨r8, hf7, hF⟩ := bx_e hF
  refine fr_cVi (As := []) (rest := []) C B (cm_X9_thrown hf7) ob_9 rfl yw_X9_thrown wm_L_185 rfl hl.1 rfl (Nat.le_of_ble_eq_true rfl) ⟨(Nat.le_of_ble_eq_true rfl), (Nat.le_of_ble_eq_true rfl)⟩ ⟨(by show cells + 1 + 0 + 0 ≤ 603072; omega), (by show slots + 6 + 0 + 0 ≤ 7194730; omega)⟩ dL_law_2090 (fr_nx rfl) (fun r9 M9 H locs ho9 B => ?_)
  obtain ⟨rfl, rfl⟩ := oi_e ho9
  refine lv_iload hx hb dL_law_2093 (lv_at hl 1 rfl) ?_
  refine lv_icmp_eq (tgt := 2100) hx hb dL_law_2095 (by decide) (fun hc => ?_) (fun hc => ?_)
  · have hF := it_t hF hc
    refine lv_iload hx hb dL_law_2100 (lv_at hl 1 rfl) ?_
    refine lv_if_ne (tgt := 2117) hx hb dL_law_2102 (by decide) (fun hc => ?_) (fun hc => ?_)
    · have hF := it_f hF hc
      refine lv_goto (tgt := 3314) hx hb dL_law_2117 (by decide) ?_
      have hF := Option.some.inj hF
      subst hF
      exact W.widen (by show cells + 1 + 0 + 0 ≤ cells + 30; omega) (by show slots + 6 + 0 + 0 ≤ slots + 3000; omega) (kk H locs ls B (lv_sub hl [2, 3, 4, 5, 6, 7] rfl))
    · have hF := it_t hF hc
      refine lv_aload_n hx hb dL_law_2105 rfl (lv_at hl 5 rfl) ?_
      refine lv_iconst (v := 0) hx hb dL_law_2106 (by decide) ?_
      refine fr_ll C B dL_law_2107 ?_
      refine lv_iload hx hb dL_law_2108 (lv_at hl 0 rfl) ?_
      refine lv_i2l hx hb dL_law_2110 rfl ?_
      refine W.lcmp hx hb dL_law_2111 ?_
      refine lv_if_eq (tgt := 2117) hx hb dL_law_2112 (by decide) (fun hc => ?_) (fun hc => ?_)
      · have hF := it_t hF hc
        refine lv_goto (tgt := 3314) hx hb dL_law_2117 (by decide) ?_
        have hF := Option.some.inj hF
        subst hF
        exact W.widen (by show cells + 1 + 0 + 0 ≤ cells + 30; omega) (by show slots + 6 + 0 + 0 ≤ slots + 3000; omega) (kk H locs ls B (lv_sub hl [2, 3, 4, 5, 6, 7] rfl))
      · have hF := it_f hF hc
        cases hF
  · have hF := it_f hF hc
    cases hF
def F_cs_34 (M : fw_M) (xs : Nat → Int32) (i : Int32) : Option fw_M := bd_x (F_X8_secretCount M ) fun r2 => bd_p (F_X9_secretCount M ) fun r5 M6 => if r2 = r5 then (some M6) else (none)
set_option maxHeartbeats 4000000 in
set_option maxRecDepth 100000 in
theorem cs_34 (hlt : l.stackTraces = false) (hC : fl_C X p c s m b L xs) {i : Int32} (h1 : vp_in (i + 1) L) (h2 : vp_in (i + 2) L) (h3 : vp_in (i + 3) L) {M M0 : fw_M} {H : Heap} {locs : List Loc} {ls : Array Slot} {cells slots : Nat} (hF : F_cs_34 M xs i = some M0) (B : fr_H X s M H locs) (hl : lv_has ls 9 (fl_lv X b i)) (hcc : cells + 30 ≤ 603072) (hss : slots + 3000 ≤ 7194730) (kk : ∀ (H1 : Heap) (locs1 : List Loc) (ls1 : Array Slot), fr_H X s M0 H1 locs1 → lv_has ls1 9 (fl_lv X b i) → W p l e room_1 s m #[Value.ref b] below meth c H1 locs1 (cells + 30) (slots + 3000) Q (F0 m 3314 ls1 [])) : W p l e room_1 s m #[Value.ref b] below meth c H locs cells slots Q (F0 m 2120 ls []) := by
  have C := hC.1
  have hx := C.1.1
  have hb := C.1.2.1
  have hl : lv_has ls 9 [(0, .ref b), (1, .ref (fw_ad X 352)), (2, .ref (fw_ad X 378)), (3, .ref (fw_ad X 386)), (4, .ref (fw_ad X 387)), (5, .int i)] := hl
  unfold F_cs_34 at hF
  refine lv_aload_n hx hb dL_law_2120 rfl (lv_at hl 1 rfl) ?_
  obtain ⟨r2, hf1, hF⟩ := bx_e hF
  refine fr_cVi (As := []) (rest := []) C B (cm_X8_secretCount hf1) ob_8 rfl yw_X8_secretCount wm_L_296 rfl hl.1 rfl (Nat.le_of_ble_eq_true rfl) ⟨(Nat.le_of_ble_eq_true rfl), (Nat.le_of_ble_eq_true rfl)⟩ ⟨(by show cells + 0 ≤ 603072; omega), (by show slots + 0 ≤ 7194730; omega)⟩ dL_law_2121 (fr_nx rfl) (fun r9 M9 H locs ho9 B => ?_)
  obtain ⟨rfl, rfl⟩ := oi_e ho9
  refine lv_aload_n hx hb dL_law_2124 rfl (lv_at hl 2 rfl) ?_
  obtain ⟨r5, M6, hf4, hF⟩ := bp_e hF
  refine fr_cVi (As := []) (rest := [.int r2]) C B (cm_X9_secretCount hf4) ob_9 rfl yw_X9_secretCount wm_L_299 rfl hl.1 rfl (Nat.le_of_ble_eq_true rfl) ⟨(Nat.le_of_ble_eq_true rfl), (Nat.le_of_ble_eq_true rfl)⟩ ⟨(by show cells + 0 + 0 ≤ 603072; omega), (by show slots + 0 + 0 ≤ 7194730; omega)⟩ dL_law_2125 (fr_nx rfl) (fun r9 M9 H locs ho9 B => ?_)
  obtain ⟨rfl, rfl⟩ := oi_e ho9
  refine lv_icmp_eq (tgt := 3314) hx hb dL_law_2128 (by decide) (fun hc => ?_) (fun hc => ?_)
  · have hF := it_t hF hc
    have hF := Option.some.inj hF
    subst hF
    exact W.widen (by show cells + 0 + 0 ≤ cells + 30; omega) (by show slots + 0 + 0 ≤ slots + 3000; omega) (kk H locs ls B (lv_sub hl [0, 1, 2, 3, 4, 5] rfl))
  · have hF := it_f hF hc
    cases hF
def F_cs_35 (M : fw_M) (xs : Nat → Int32) (i : Int32) : Option fw_M := bd_p (F_L_carrierOf M (xs (i + 1).toNatClampNeg)) fun k1 M2 => bd_p (F_X9_carrierOf M2 (xs (i + 1).toNatClampNeg)) fun r5 M6 => bd_x (F_X9_thrown M6 ) fun r8 => if r8 = k1 then (if k1 = 0 then (if (lg_cmp ((M6 386 0).toInt64) ((r5 : Int32).toInt64)) = 0 then (some M6) else (none)) else (some M6)) else (none)
set_option maxHeartbeats 4000000 in
set_option maxRecDepth 100000 in
theorem cs_35 (hlt : l.stackTraces = false) (hC : fl_C X p c s m b L xs) {i : Int32} (h1 : vp_in (i + 1) L) (h2 : vp_in (i + 2) L) (h3 : vp_in (i + 3) L) {M M0 : fw_M} {H : Heap} {locs : List Loc} {ls : Array Slot} {cells slots : Nat} (hF : F_cs_35 M xs i = some M0) (B : fr_H X s M H locs) (hl : lv_has ls 9 (fl_lv X b i)) (hcc : cells + 30 ≤ 603072) (hss : slots + 3000 ≤ 7194730) (kk : ∀ (H1 : Heap) (locs1 : List Loc) (ls1 : Array Slot), fr_H X s M0 H1 locs1 → lv_has ls1 9 (fl_lv X b i) → W p l e room_1 s m #[Value.ref b] below meth c H1 locs1 (cells + 30) (slots + 3000) Q (F0 m 3314 ls1 [])) : W p l e room_1 s m #[Value.ref b] below meth c H locs cells slots Q (F0 m 2133 ls []) := by
  have C := hC.1
  have hx := C.1.1
  have hb := C.1.2.1
  have hl : lv_has ls 9 [(0, .ref b), (1, .ref (fw_ad X 352)), (2, .ref (fw_ad X 378)), (3, .ref (fw_ad X 386)), (4, .ref (fw_ad X 387)), (5, .int i)] := hl
  unfold F_cs_35 at hF
  refine lv_aload_n hx hb dL_law_2133 rfl (lv_at hl 1 rfl) ?_
  refine lv_aload_n hx hb dL_law_2134 rfl (lv_at hl 0 rfl) ?_
  refine lv_iload hx hb dL_law_2135 (lv_at hl 5 rfl) ?_
  refine lv_iconst (v := 1) hx hb dL_law_2137 (by decide) ?_
  refine lv_iadd hx hb dL_law_2138 ?_
  refine fl_sld hC B h1 dL_law_2139 ?_
  refine lv_aload_n hx hb dL_law_2140 rfl (lv_at hl 3 rfl) ?_
  obtain ⟨k1, M2, hf3, hF⟩ := bp_e hF
  refine fr_cHi (As := [.ref (fw_ad X 352), .int (xs (i + 1).toNatClampNeg), .ref (fw_ad X 386)]) (rest := []) C B (cm_L_carrierOf hlt hf3) yh_L_carrierOf wm_L_300 rfl hl.1 rfl (Nat.le_of_ble_eq_true rfl) ⟨(Nat.le_of_ble_eq_true rfl), (Nat.le_of_ble_eq_true rfl)⟩ ⟨(by show cells + 1 ≤ 603072; omega), (by show slots + 6 ≤ 7194730; omega)⟩ dL_law_2141 (fun H locs B => ?_)
  have B : fr_H X s M2 H locs := B
  refine lv_istore (lv' := [(6, .int k1), (0, .ref b), (1, .ref (fw_ad X 352)), (2, .ref (fw_ad X 378)), (3, .ref (fw_ad X 386)), (4, .ref (fw_ad X 387)), (5, .int i)]) hx hb dL_law_2144 hl (by decide) rfl (fun ls hl => ?_)
  refine lv_aload_n hx hb dL_law_2146 rfl (lv_at hl 3 rfl) ?_
  refine lv_aload_n hx hb dL_law_2147 rfl (lv_at hl 1 rfl) ?_
  refine lv_iload hx hb dL_law_2148 (lv_at hl 6 rfl) ?_
  refine lv_iconst (v := 1) hx hb dL_law_2150 (by decide) ?_
  refine lv_iadd hx hb dL_law_2151 ?_
  refine fl_sld hC B h1 dL_law_2152 ?_
  obtain ⟨r5, M6, hf4, hF⟩ := bp_e hF
  refine fr_cVi (As := [.int (xs (i + 1).toNatClampNeg)]) (rest := []) C B (cm_X9_carrierOf hf4) ob_9 rfl yw_X9_carrierOf wm_L_302 rfl hl.1 rfl (Nat.le_of_ble_eq_true rfl) ⟨(Nat.le_of_ble_eq_true rfl), (Nat.le_of_ble_eq_true rfl)⟩ ⟨(by show cells + 1 + 0 ≤ 603072; omega), (by show slots + 6 + 0 ≤ 7194730; omega)⟩ dL_law_2153 (fr_nx rfl) (fun r9 M9 H locs ho9 B => ?_)
  obtain ⟨rfl, rfl⟩ := oi_e ho9
  refine lv_istore (lv' := [(7, .int r5), (6, .int k1), (0, .ref b), (1, .ref (fw_ad X 352)), (2, .ref (fw_ad X 378)), (3, .ref (fw_ad X 386)), (4, .ref (fw_ad X 387)), (5, .int i)]) hx hb dL_law_2156 hl (by decide) rfl (fun ls hl => ?_)
  refine lv_aload_n hx hb dL_law_2158 rfl (lv_at hl 4 rfl) ?_
  obtain ⟨r8, hf7, hF⟩ := bx_e hF
  refine fr_cVi (As := []) (rest := []) C B (cm_X9_thrown hf7) ob_9 rfl yw_X9_thrown wm_L_185 rfl hl.1 rfl (Nat.le_of_ble_eq_true rfl) ⟨(Nat.le_of_ble_eq_true rfl), (Nat.le_of_ble_eq_true rfl)⟩ ⟨(by show cells + 1 + 0 + 0 ≤ 603072; omega), (by show slots + 6 + 0 + 0 ≤ 7194730; omega)⟩ dL_law_2159 (fr_nx rfl) (fun r9 M9 H locs ho9 B => ?_)
  obtain ⟨rfl, rfl⟩ := oi_e ho9
  refine lv_iload hx hb dL_law_2162 (lv_at hl 1 rfl) ?_
  refine lv_icmp_eq (tgt := 2169) hx hb dL_law_2164 (by decide) (fun hc => ?_) (fun hc => ?_)
  · have hF := it_t hF hc
    refine lv_iload hx hb dL_law_2169 (lv_at hl 1 rfl) ?_
    refine lv_if_ne (tgt := 2186) hx hb dL_law_2171 (by decide) (fun hc => ?_) (fun hc => ?_)
    · have hF := it_f hF hc
      refine lv_goto (tgt := 3314) hx hb dL_law_2186 (by decide) ?_
      have hF := Option.some.inj hF
      subst hF
      exact W.widen (by show cells + 1 + 0 + 0 ≤ cells + 30; omega) (by show slots + 6 + 0 + 0 ≤ slots + 3000; omega) (kk H locs ls B (lv_sub hl [2, 3, 4, 5, 6, 7] rfl))
    · have hF := it_t hF hc
      refine lv_aload_n hx hb dL_law_2174 rfl (lv_at hl 5 rfl) ?_
      refine lv_iconst (v := 0) hx hb dL_law_2175 (by decide) ?_
      refine fr_ll C B dL_law_2176 ?_
      refine lv_iload hx hb dL_law_2177 (lv_at hl 0 rfl) ?_
      refine lv_i2l hx hb dL_law_2179 rfl ?_
      refine W.lcmp hx hb dL_law_2180 ?_
      refine lv_if_eq (tgt := 2186) hx hb dL_law_2181 (by decide) (fun hc => ?_) (fun hc => ?_)
      · have hF := it_t hF hc
        refine lv_goto (tgt := 3314) hx hb dL_law_2186 (by decide) ?_
        have hF := Option.some.inj hF
        subst hF
        exact W.widen (by show cells + 1 + 0 + 0 ≤ cells + 30; omega) (by show slots + 6 + 0 + 0 ≤ slots + 3000; omega) (kk H locs ls B (lv_sub hl [2, 3, 4, 5, 6, 7] rfl))
      · have hF := it_f hF hc
        cases hF
  · have hF := it_f hF hc
    cases hF
end CS
