def F_X8_isTerminus (M : fw_M) (a1 : Int32) : Option (fw_O) :=
  bd_t (F_X8_requireStop M a1) fun _ M3 =>
  bd_x (F_X3_isEnd M3 1 a1) fun r5 =>
  if (r5 = 0 ∨ r5 = 1) then
  some (.inl r5, M3)
  else none
set_option maxHeartbeats 4000000 in
set_option maxRecDepth 100000 in
theorem cm_X8_isTerminus {l : Launch} {X : fw_X} {M : fw_M} {a1 : Int32} (hlt : l.stackTraces = false)  {o : fw_O} (hF : F_X8_isTerminus M a1 = some o) : ct_i l X yX8_isTerminus cX8_isTerminus 2 (some .boolean) ({ frames := 8, cells := 1, slots := 6, locals := 151 } : Room) M [.ref (fw_ad X 352), .int a1] o := by
  refine fw_open rfl (Nat.le_of_ble_eq_true rfl) (fun p e s m below meth c ls C hr hlk hnm hex hl B => ?_)
  have C : fr_C X p c cX8_isTerminus 2 RX8 s m ([.ref (fw_ad X 352), .int a1] : List Value).toArray := C
  have hx := C.1.1
  have hb := C.1.2.1
  have hl : lv_has ls 2 [(0, .ref (fw_ad X 352)), (1, .int a1)] := hl
  unfold F_X8_isTerminus at hF
  refine lv_aload_n hx hb dX8_isTerminus_0 rfl (lv_at hl 0 rfl) ?_
  refine lv_iload_n hx hb dX8_isTerminus_1 rfl (lv_at hl 1 rfl) ?_
  obtain ⟨oc, hf1, hF⟩ := bt_e hF
  refine fr_cVv (As := [.int a1]) (rest := []) C B (cm_X8_requireStop hlt hf1) ob_8 rfl yw_X8_requireStop wm_X8_98 rfl hl.1 rfl (Nat.le_of_ble_eq_true rfl) ⟨Nat.le_of_ble_eq_true rfl, Nat.le_of_ble_eq_true rfl⟩ ⟨Nat.le_of_ble_eq_true rfl, Nat.le_of_ble_eq_true rfl⟩ dX8_isTerminus_2 (fr_thru C hex hlk (fun e9 M1 h => by subst h; exact (Option.some.inj hF).symm) (Nat.le_of_ble_eq_true rfl) (Nat.le_of_ble_eq_true rfl)) (fun M3 H locs ho9 B => ?_)
  subst ho9
  rw [bt_i] at hF
  refine lv_aload_n hx hb dX8_isTerminus_5 rfl (lv_at hl 0 rfl) ?_
  refine gf_X8_12 C B dX8_isTerminus_6 ?_
  refine gf_X8_73 C B is7_0 dX8_isTerminus_9 ?_
  refine lv_iload_n hx hb dX8_isTerminus_12 rfl (lv_at hl 1 rfl) ?_
  obtain ⟨r5, hf4, hF⟩ := bx_e hF
  refine fr_cVi (As := [.int a1]) (rest := []) C B (cm_X3_isEnd (is3_of is7_0) hf4) (ob_3 (is3_of is7_0)) rfl yw_X3_isEnd wm_X8_105 rfl hl.1 rfl (Nat.le_of_ble_eq_true rfl) ⟨Nat.le_of_ble_eq_true rfl, Nat.le_of_ble_eq_true rfl⟩ ⟨Nat.le_of_ble_eq_true rfl, Nat.le_of_ble_eq_true rfl⟩ dX8_isTerminus_13 (fr_nx rfl) (fun r9 M9 H locs ho9 B => ?_)
  obtain ⟨rfl, rfl⟩ := oi_e ho9
  obtain ⟨c7, hF⟩ := of_g hF
  exact fr_iret C B hr (nz_b c7) hlk (by rw [← Option.some.inj hF]) (Nat.le_of_ble_eq_true rfl) (Nat.le_of_ble_eq_true rfl) dX8_isTerminus_16
def F_X8_lineLength (M : fw_M) (a1 : Int32) : Option (fw_O) :=
  bd_t (F_X8_requireLine M a1) fun _ M3 =>
  if ix_i a1 5 then
  some (.inl (fw_ri M3 3 a1), M3)
  else none
set_option maxHeartbeats 4000000 in
set_option maxRecDepth 100000 in
theorem cm_X8_lineLength {l : Launch} {X : fw_X} {M : fw_M} {a1 : Int32} (hlt : l.stackTraces = false)  {o : fw_O} (hF : F_X8_lineLength M a1 = some o) : ct_i l X yX8_lineLength cX8_lineLength 2 (some .int) ({ frames := 8, cells := 1, slots := 6, locals := 151 } : Room) M [.ref (fw_ad X 352), .int a1] o := by
  refine fw_open rfl (Nat.le_of_ble_eq_true rfl) (fun p e s m below meth c ls C hr hlk hnm hex hl B => ?_)
  have C : fr_C X p c cX8_lineLength 2 RX8 s m ([.ref (fw_ad X 352), .int a1] : List Value).toArray := C
  have hx := C.1.1
  have hb := C.1.2.1
  have hl : lv_has ls 2 [(0, .ref (fw_ad X 352)), (1, .int a1)] := hl
  unfold F_X8_lineLength at hF
  refine lv_aload_n hx hb dX8_lineLength_0 rfl (lv_at hl 0 rfl) ?_
  refine lv_iload_n hx hb dX8_lineLength_1 rfl (lv_at hl 1 rfl) ?_
  obtain ⟨oc, hf1, hF⟩ := bt_e hF
  refine fr_cVv (As := [.int a1]) (rest := []) C B (cm_X8_requireLine hlt hf1) ob_8 rfl yw_X8_requireLine wm_X8_112 rfl hl.1 rfl (Nat.le_of_ble_eq_true rfl) ⟨Nat.le_of_ble_eq_true rfl, Nat.le_of_ble_eq_true rfl⟩ ⟨Nat.le_of_ble_eq_true rfl, Nat.le_of_ble_eq_true rfl⟩ dX8_lineLength_2 (fr_thru C hex hlk (fun e9 M1 h => by subst h; exact (Option.some.inj hF).symm) (Nat.le_of_ble_eq_true rfl) (Nat.le_of_ble_eq_true rfl)) (fun M3 H locs ho9 B => ?_)
  subst ho9
  rw [bt_i] at hF
  refine lv_aload_n hx hb dX8_lineLength_5 rfl (lv_at hl 0 rfl) ?_
  refine gf_X8_12 C B dX8_lineLength_6 ?_
  refine gf_X8_73 C B is7_0 dX8_lineLength_9 ?_
  refine gf_X8_115 C B (is3_of is7_0) dX8_lineLength_12 ?_
  refine lv_iload_n hx hb dX8_lineLength_15 rfl (lv_at hl 1 rfl) ?_
  obtain ⟨c4, hF⟩ := of_g hF
  refine fr_ia C B (ar_3_2 (is3_of is7_0)) c4 dX8_lineLength_16 ?_
  exact fr_iret C B hr rfl hlk (by rw [← Option.some.inj hF]) (Nat.le_of_ble_eq_true rfl) (Nat.le_of_ble_eq_true rfl) dX8_lineLength_17
def F_X8_stopAt (M : fw_M) (a1 : Int32) (a2 : Int32) : Option (fw_O) :=
  bd_t (F_X8_requireLine M a1) fun _ M3 =>
  if a2 < 0 then
    some (.inr 3, M3)
  else
    if ix_i a1 5 then
    if a2 < (fw_ri M3 3 a1) then
      if ix_i a2 6 then
      some (.inl (fw_ri M3 (1 + 4 + a1.toNatClampNeg) a2), M3)
      else none
    else
      some (.inr 3, M3)
    else none
set_option maxHeartbeats 4000000 in
set_option maxRecDepth 100000 in
theorem cm_X8_stopAt {l : Launch} {X : fw_X} {M : fw_M} {a1 : Int32} {a2 : Int32} (hlt : l.stackTraces = false)  {o : fw_O} (hF : F_X8_stopAt M a1 a2 = some o) : ct_i l X yX8_stopAt cX8_stopAt 3 (some .int) ({ frames := 8, cells := 2, slots := 12, locals := 151 } : Room) M [.ref (fw_ad X 352), .int a1, .int a2] o := by
  refine fw_open rfl (Nat.le_of_ble_eq_true rfl) (fun p e s m below meth c ls C hr hlk hnm hex hl B => ?_)
  have C : fr_C X p c cX8_stopAt 3 RX8 s m ([.ref (fw_ad X 352), .int a1, .int a2] : List Value).toArray := C
  have hx := C.1.1
  have hb := C.1.2.1
  have hl : lv_has ls 3 [(0, .ref (fw_ad X 352)), (1, .int a1), (2, .int a2)] := hl
  unfold F_X8_stopAt at hF
  refine lv_aload_n hx hb dX8_stopAt_0 rfl (lv_at hl 0 rfl) ?_
  refine lv_iload_n hx hb dX8_stopAt_1 rfl (lv_at hl 1 rfl) ?_
  obtain ⟨oc, hf1, hF⟩ := bt_e hF
  refine fr_cVv (As := [.int a1]) (rest := []) C B (cm_X8_requireLine hlt hf1) ob_8 rfl yw_X8_requireLine wm_X8_112 rfl hl.1 rfl (Nat.le_of_ble_eq_true rfl) ⟨Nat.le_of_ble_eq_true rfl, Nat.le_of_ble_eq_true rfl⟩ ⟨Nat.le_of_ble_eq_true rfl, Nat.le_of_ble_eq_true rfl⟩ dX8_stopAt_2 (fr_thru C hex hlk (fun e9 M1 h => by subst h; exact (Option.some.inj hF).symm) (Nat.le_of_ble_eq_true rfl) (Nat.le_of_ble_eq_true rfl)) (fun M3 H locs ho9 B => ?_)
  subst ho9
  rw [bt_i] at hF
  refine lv_iload_n hx hb dX8_stopAt_5 rfl (lv_at hl 2 rfl) ?_
  refine lv_if_lt (tgt := 25) hx hb dX8_stopAt_6 (by decide) (fun c4 => ?_) (fun c4 => ?_)
  · have hF := it_t hF c4
    exact fr_throwN C B hlt hex hlk (pk := 31) (id := 57) (text := "no such position") xt_X8_3 (by decide +kernel) (by rw [← Option.some.inj hF]) hl.1 (Nat.le_of_ble_eq_true rfl) (Nat.le_of_ble_eq_true rfl) (Nat.le_of_ble_eq_true rfl) (Nat.le_of_ble_eq_true rfl) (Nat.le_of_ble_eq_true rfl) (Nat.le_of_ble_eq_true rfl) dX8_stopAt_25 dX8_stopAt_28 (.inl ⟨dX8_stopAt_29, rfl⟩) dX8_stopAt_31 dX8_stopAt_34
  · have hF := it_f hF c4
    refine lv_iload_n hx hb dX8_stopAt_9 rfl (lv_at hl 2 rfl) ?_
    refine lv_aload_n hx hb dX8_stopAt_10 rfl (lv_at hl 0 rfl) ?_
    refine gf_X8_12 C B dX8_stopAt_11 ?_
    refine gf_X8_73 C B is7_0 dX8_stopAt_14 ?_
    refine gf_X8_115 C B (is3_of is7_0) dX8_stopAt_17 ?_
    refine lv_iload_n hx hb dX8_stopAt_20 rfl (lv_at hl 1 rfl) ?_
    obtain ⟨c5, hF⟩ := of_g hF
    refine fr_ia C B (ar_3_2 (is3_of is7_0)) c5 dX8_stopAt_21 ?_
    refine lv_icmp_lt (tgt := 35) hx hb dX8_stopAt_22 (by decide) (fun c6 => ?_) (fun c6 => ?_)
    · have hF := it_t hF c6
      refine lv_aload_n hx hb dX8_stopAt_35 rfl (lv_at hl 0 rfl) ?_
      refine gf_X8_12 C B dX8_stopAt_36 ?_
      refine gf_X8_73 C B is7_0 dX8_stopAt_39 ?_
      refine gf_X8_125 C B (is3_of is7_0) dX8_stopAt_42 ?_
      refine lv_iload_n hx hb dX8_stopAt_45 rfl (lv_at hl 1 rfl) ?_
      refine fr_aa C B (aq_3 (is3_of is7_0)) c5 dX8_stopAt_46 ?_
      refine lv_iload_n hx hb dX8_stopAt_47 rfl (lv_at hl 2 rfl) ?_
      obtain ⟨c7, hF⟩ := of_g hF
      refine fr_ia C B (ar_3_row (is3_of is7_0) (ix_lt c5)) c7 dX8_stopAt_48 ?_
      exact fr_iret C B hr rfl hlk (by rw [← Option.some.inj hF]) (Nat.le_of_ble_eq_true rfl) (Nat.le_of_ble_eq_true rfl) dX8_stopAt_49
    · have hF := it_f hF c6
      exact fr_throwN C B hlt hex hlk (pk := 31) (id := 57) (text := "no such position") xt_X8_3 (by decide +kernel) (by rw [← Option.some.inj hF]) hl.1 (Nat.le_of_ble_eq_true rfl) (Nat.le_of_ble_eq_true rfl) (Nat.le_of_ble_eq_true rfl) (Nat.le_of_ble_eq_true rfl) (Nat.le_of_ble_eq_true rfl) (Nat.le_of_ble_eq_true rfl) dX8_stopAt_25 dX8_stopAt_28 (.inl ⟨dX8_stopAt_29, rfl⟩) dX8_stopAt_31 dX8_stopAt_34
def F_X8_commonStops (M : fw_M) (a1 : Int32) (a2 : Int32) : Option (fw_O) :=
  bd_t (F_X8_requireLine M a1) fun _ M3 =>
  bd_t (F_X8_requireLine M3 a2) fun _ M6 =>
  if ix_i a1 5 then
  if ix_i a2 5 then
  bd_x (F_J6_bitCount_0f7a4 M6 ((fw_ri M6 10 a1) &&& (fw_ri M6 10 a2))) fun r10 =>
  some (.inl r10, M6)
  else none
  else none
set_option maxHeartbeats 4000000 in
set_option maxRecDepth 100000 in
theorem cm_X8_commonStops {l : Launch} {X : fw_X} {M : fw_M} {a1 : Int32} {a2 : Int32} (hlt : l.stackTraces = false)  {o : fw_O} (hF : F_X8_commonStops M a1 a2 = some o) : ct_i l X yX8_commonStops cX8_commonStops 3 (some .int) ({ frames := 8, cells := 2, slots := 12, locals := 151 } : Room) M [.ref (fw_ad X 352), .int a1, .int a2] o := by
  refine fw_open rfl (Nat.le_of_ble_eq_true rfl) (fun p e s m below meth c ls C hr hlk hnm hex hl B => ?_)
  have C : fr_C X p c cX8_commonStops 3 RX8 s m ([.ref (fw_ad X 352), .int a1, .int a2] : List Value).toArray := C
  have hx := C.1.1
  have hb := C.1.2.1
  have hl : lv_has ls 3 [(0, .ref (fw_ad X 352)), (1, .int a1), (2, .int a2)] := hl
  unfold F_X8_commonStops at hF
  refine lv_aload_n hx hb dX8_commonStops_0 rfl (lv_at hl 0 rfl) ?_
  refine lv_iload_n hx hb dX8_commonStops_1 rfl (lv_at hl 1 rfl) ?_
  obtain ⟨oc, hf1, hF⟩ := bt_e hF
  refine fr_cVv (As := [.int a1]) (rest := []) C B (cm_X8_requireLine hlt hf1) ob_8 rfl yw_X8_requireLine wm_X8_112 rfl hl.1 rfl (Nat.le_of_ble_eq_true rfl) ⟨Nat.le_of_ble_eq_true rfl, Nat.le_of_ble_eq_true rfl⟩ ⟨Nat.le_of_ble_eq_true rfl, Nat.le_of_ble_eq_true rfl⟩ dX8_commonStops_2 (fr_thru C hex hlk (fun e9 M1 h => by subst h; exact (Option.some.inj hF).symm) (Nat.le_of_ble_eq_true rfl) (Nat.le_of_ble_eq_true rfl)) (fun M3 H locs ho9 B => ?_)
  subst ho9
  rw [bt_i] at hF
  refine lv_aload_n hx hb dX8_commonStops_5 rfl (lv_at hl 0 rfl) ?_
  refine lv_iload_n hx hb dX8_commonStops_6 rfl (lv_at hl 2 rfl) ?_
  obtain ⟨oc, hf4, hF⟩ := bt_e hF
  refine fr_cVv (As := [.int a2]) (rest := []) C B (cm_X8_requireLine hlt hf4) ob_8 rfl yw_X8_requireLine wm_X8_112 rfl hl.1 rfl (Nat.le_of_ble_eq_true rfl) ⟨Nat.le_of_ble_eq_true rfl, Nat.le_of_ble_eq_true rfl⟩ ⟨Nat.le_of_ble_eq_true rfl, Nat.le_of_ble_eq_true rfl⟩ dX8_commonStops_7 (fr_thru C hex hlk (fun e9 M1 h => by subst h; exact (Option.some.inj hF).symm) (Nat.le_of_ble_eq_true rfl) (Nat.le_of_ble_eq_true rfl)) (fun M6 H locs ho9 B => ?_)
  subst ho9
  rw [bt_i] at hF
  refine lv_aload_n hx hb dX8_commonStops_10 rfl (lv_at hl 0 rfl) ?_
  refine gf_X8_12 C B dX8_commonStops_11 ?_
  refine gf_X8_73 C B is7_0 dX8_commonStops_14 ?_
  refine gf_X8_129 C B (is3_of is7_0) dX8_commonStops_17 ?_
  refine lv_iload_n hx hb dX8_commonStops_20 rfl (lv_at hl 1 rfl) ?_
  obtain ⟨c7, hF⟩ := of_g hF
  refine fr_ia C B (ar_3_9 (is3_of is7_0)) c7 dX8_commonStops_21 ?_
  refine lv_aload_n hx hb dX8_commonStops_22 rfl (lv_at hl 0 rfl) ?_
  refine gf_X8_12 C B dX8_commonStops_23 ?_
  refine gf_X8_73 C B is7_0 dX8_commonStops_26 ?_
  refine gf_X8_129 C B (is3_of is7_0) dX8_commonStops_29 ?_
  refine lv_iload_n hx hb dX8_commonStops_32 rfl (lv_at hl 2 rfl) ?_
  obtain ⟨c8, hF⟩ := of_g hF
  refine fr_ia C B (ar_3_9 (is3_of is7_0)) c8 dX8_commonStops_33 ?_
  refine lv_iand hx hb dX8_commonStops_34 ?_
  obtain ⟨r10, hf9, hF⟩ := bx_e hF
  refine fr_cSi (As := [.int ((fw_ri M6 10 a1) &&& (fw_ri M6 10 a2))]) (rest := []) C B (cm_J6_bitCount_0f7a4 hf9) yw_J6_bitCount_0f7a4 wm_X8_132 rfl hl.1 rfl (Nat.le_of_ble_eq_true rfl) ⟨Nat.le_of_ble_eq_true rfl, Nat.le_of_ble_eq_true rfl⟩ ⟨Nat.le_of_ble_eq_true rfl, Nat.le_of_ble_eq_true rfl⟩ dX8_commonStops_35 (fr_nx rfl) (fun r9 M9 H locs ho9 B => ?_)
  obtain ⟨rfl, rfl⟩ := oi_e ho9
  exact fr_iret C B hr rfl hlk (by rw [← Option.some.inj hF]) (Nat.le_of_ble_eq_true rfl) (Nat.le_of_ble_eq_true rfl) dX8_commonStops_38
def F_X8_addTram (M : fw_M) (a1 : Int32) : Option (fw_O) :=
  bd_x (F_X7_faultOfTram M 0 a1) fun r2 =>
  bd_t (F_X8_refuse M r2) fun _ M6 =>
  bd_x (F_X4_remember M6 0) fun M9 =>
  bd_p (F_X1_putTram M9 11 a1) fun r11 M12 =>
  some (.inl r11, M12)
set_option maxHeartbeats 4000000 in
set_option maxRecDepth 100000 in
theorem cm_X8_addTram {l : Launch} {X : fw_X} {M : fw_M} {a1 : Int32} (hlt : l.stackTraces = false)  {o : fw_O} (hF : F_X8_addTram M a1 = some o) : ct_i l X yX8_addTram cX8_addTram 2 (some .int) ({ frames := 8, cells := 1, slots := 6, locals := 150 } : Room) M [.ref (fw_ad X 352), .int a1] o := by
  refine fw_open rfl (Nat.le_of_ble_eq_true rfl) (fun p e s m below meth c ls C hr hlk hnm hex hl B => ?_)
  have C : fr_C X p c cX8_addTram 2 RX8 s m ([.ref (fw_ad X 352), .int a1] : List Value).toArray := C
  have hx := C.1.1
  have hb := C.1.2.1
  have hl : lv_has ls 2 [(0, .ref (fw_ad X 352)), (1, .int a1)] := hl
  unfold F_X8_addTram at hF
  refine lv_aload_n hx hb dX8_addTram_0 rfl (lv_at hl 0 rfl) ?_
  refine gf_X8_12 C B dX8_addTram_1 ?_
  refine lv_iload_n hx hb dX8_addTram_4 rfl (lv_at hl 1 rfl) ?_
  obtain ⟨r2, hf1, hF⟩ := bx_e hF
  refine fr_cVi (As := [.int a1]) (rest := []) C B (cm_X7_faultOfTram is7_0 hf1) (ob_7 is7_0) rfl yw_X7_faultOfTram wm_X8_137 rfl hl.1 rfl (Nat.le_of_ble_eq_true rfl) ⟨Nat.le_of_ble_eq_true rfl, Nat.le_of_ble_eq_true rfl⟩ ⟨Nat.le_of_ble_eq_true rfl, Nat.le_of_ble_eq_true rfl⟩ dX8_addTram_5 (fr_nx rfl) (fun r9 M9 H locs ho9 B => ?_)
  obtain ⟨rfl, rfl⟩ := oi_e ho9
  obtain ⟨oc, hf4, hF⟩ := bt_e hF
  refine fr_cSv (As := [.int r2]) (rest := []) C B (cm_X8_refuse hlt hf4) yw_X8_refuse wm_X8_65 rfl hl.1 rfl (Nat.le_of_ble_eq_true rfl) ⟨Nat.le_of_ble_eq_true rfl, Nat.le_of_ble_eq_true rfl⟩ ⟨Nat.le_of_ble_eq_true rfl, Nat.le_of_ble_eq_true rfl⟩ dX8_addTram_8 (fr_thru C hex hlk (fun e9 M1 h => by subst h; exact (Option.some.inj hF).symm) (Nat.le_of_ble_eq_true rfl) (Nat.le_of_ble_eq_true rfl)) (fun M6 H locs ho9 B => ?_)
  subst ho9
  rw [bt_i] at hF
  refine lv_aload_n hx hb dX8_addTram_11 rfl (lv_at hl 0 rfl) ?_
  refine gf_X8_25 C B dX8_addTram_12 ?_
  refine lv_aload_n hx hb dX8_addTram_15 rfl (lv_at hl 0 rfl) ?_
  refine gf_X8_12 C B dX8_addTram_16 ?_
  obtain ⟨M9, hf7, hF⟩ := bx_e hF
  refine fr_cVv (As := [.ref (fw_ad X 0)]) (rest := []) C B (cm_X4_remember is7_0 hf7) ob_4 rfl yw_X4_remember wm_X8_69 rfl hl.1 rfl (Nat.le_of_ble_eq_true rfl) ⟨Nat.le_of_ble_eq_true rfl, Nat.le_of_ble_eq_true rfl⟩ ⟨Nat.le_of_ble_eq_true rfl, Nat.le_of_ble_eq_true rfl⟩ dX8_addTram_19 (fr_nx rfl) (fun M9 H locs ho9 B => ?_)
  obtain ⟨-, rfl⟩ := oi_e ho9
  refine lv_aload_n hx hb dX8_addTram_22 rfl (lv_at hl 0 rfl) ?_
  refine gf_X8_12 C B dX8_addTram_23 ?_
  refine gf_X8_140 C B is7_0 dX8_addTram_26 ?_
  refine lv_iload_n hx hb dX8_addTram_29 rfl (lv_at hl 1 rfl) ?_
  obtain ⟨r11, M12, hf10, hF⟩ := bp_e hF
  refine fr_cVi (As := [.int a1]) (rest := []) C B (cm_X1_putTram (is1_of is7_0) hf10) (ob_1 (is1_of is7_0)) rfl yw_X1_putTram wm_X8_144 rfl hl.1 rfl (Nat.le_of_ble_eq_true rfl) ⟨Nat.le_of_ble_eq_true rfl, Nat.le_of_ble_eq_true rfl⟩ ⟨Nat.le_of_ble_eq_true rfl, Nat.le_of_ble_eq_true rfl⟩ dX8_addTram_30 (fr_nx rfl) (fun r9 M9 H locs ho9 B => ?_)
  obtain ⟨rfl, rfl⟩ := oi_e ho9
  exact fr_iret C B hr rfl hlk (by rw [← Option.some.inj hF]) (Nat.le_of_ble_eq_true rfl) (Nat.le_of_ble_eq_true rfl) dX8_addTram_33
def F_X8_tick (M : fw_M) : Option (Int32 × fw_M) :=
  bd_x (F_X4_remember M 0) fun M3 =>
  bd_p (F_X7_passTick M3 0) fun r5 M6 =>
  some (r5, M6)
set_option maxHeartbeats 4000000 in
set_option maxRecDepth 100000 in
theorem cm_X8_tick {l : Launch} {X : fw_X} {M : fw_M}  {o : Int32 × fw_M} (hF : F_X8_tick M = some o) : ct_i l X yX8_tick cX8_tick 1 (some .int) ({ frames := 4, cells := 0, slots := 0, locals := 124 } : Room) M [.ref (fw_ad X 352)] (.inl o.1, o.2) := by
  refine fw_open rfl (Nat.le_of_ble_eq_true rfl) (fun p e s m below meth c ls C hr hlk hnm hex hl B => ?_)
  have C : fr_C X p c cX8_tick 1 RX8 s m ([.ref (fw_ad X 352)] : List Value).toArray := C
  have hx := C.1.1
  have hb := C.1.2.1
  have hl : lv_has ls 1 [(0, .ref (fw_ad X 352))] := hl
  unfold F_X8_tick at hF
  refine lv_aload_n hx hb dX8_tick_0 rfl (lv_at hl 0 rfl) ?_
  refine gf_X8_25 C B dX8_tick_1 ?_
  refine lv_aload_n hx hb dX8_tick_4 rfl (lv_at hl 0 rfl) ?_
  refine gf_X8_12 C B dX8_tick_5 ?_
  obtain ⟨M3, hf1, hF⟩ := bx_e hF
  refine fr_cVv (As := [.ref (fw_ad X 0)]) (rest := []) C B (cm_X4_remember is7_0 hf1) ob_4 rfl yw_X4_remember wm_X8_69 rfl hl.1 rfl (Nat.le_of_ble_eq_true rfl) ⟨Nat.le_of_ble_eq_true rfl, Nat.le_of_ble_eq_true rfl⟩ ⟨Nat.le_of_ble_eq_true rfl, Nat.le_of_ble_eq_true rfl⟩ dX8_tick_8 (fr_nx rfl) (fun M9 H locs ho9 B => ?_)
  obtain ⟨-, rfl⟩ := oi_e ho9
  refine lv_aload_n hx hb dX8_tick_11 rfl (lv_at hl 0 rfl) ?_
  refine gf_X8_12 C B dX8_tick_12 ?_
  obtain ⟨r5, M6, hf4, hF⟩ := bp_e hF
  refine fr_cVi (As := []) (rest := []) C B (cm_X7_passTick is7_0 hf4) (ob_7 is7_0) rfl yw_X7_passTick wm_X8_149 rfl hl.1 rfl (Nat.le_of_ble_eq_true rfl) ⟨Nat.le_of_ble_eq_true rfl, Nat.le_of_ble_eq_true rfl⟩ ⟨Nat.le_of_ble_eq_true rfl, Nat.le_of_ble_eq_true rfl⟩ dX8_tick_15 (fr_nx rfl) (fun r9 M9 H locs ho9 B => ?_)
  obtain ⟨rfl, rfl⟩ := oi_e ho9
  exact fr_iret C B hr rfl hlk (by rw [← Option.some.inj hF]) (Nat.le_of_ble_eq_true rfl) (Nat.le_of_ble_eq_true rfl) dX8_tick_18
def F_X8_lineOfTram (M : fw_M) (a1 : Int32) : Option (fw_O) :=
  bd_t (F_X8_requireTram M a1) fun _ M3 =>
  if ix_i a1 6 then
  some (.inl (fw_ri M3 12 a1), M3)
  else none
set_option maxHeartbeats 4000000 in
set_option maxRecDepth 100000 in
theorem cm_X8_lineOfTram {l : Launch} {X : fw_X} {M : fw_M} {a1 : Int32} (hlt : l.stackTraces = false)  {o : fw_O} (hF : F_X8_lineOfTram M a1 = some o) : ct_i l X yX8_lineOfTram cX8_lineOfTram 2 (some .int) ({ frames := 8, cells := 1, slots := 6, locals := 151 } : Room) M [.ref (fw_ad X 352), .int a1] o := by
  refine fw_open rfl (Nat.le_of_ble_eq_true rfl) (fun p e s m below meth c ls C hr hlk hnm hex hl B => ?_)
  have C : fr_C X p c cX8_lineOfTram 2 RX8 s m ([.ref (fw_ad X 352), .int a1] : List Value).toArray := C
  have hx := C.1.1
  have hb := C.1.2.1
  have hl : lv_has ls 2 [(0, .ref (fw_ad X 352)), (1, .int a1)] := hl
  unfold F_X8_lineOfTram at hF
  refine lv_aload_n hx hb dX8_lineOfTram_0 rfl (lv_at hl 0 rfl) ?_
  refine lv_iload_n hx hb dX8_lineOfTram_1 rfl (lv_at hl 1 rfl) ?_
  obtain ⟨oc, hf1, hF⟩ := bt_e hF
  refine fr_cVv (As := [.int a1]) (rest := []) C B (cm_X8_requireTram hlt hf1) ob_8 rfl yw_X8_requireTram wm_X8_159 rfl hl.1 rfl (Nat.le_of_ble_eq_true rfl) ⟨Nat.le_of_ble_eq_true rfl, Nat.le_of_ble_eq_true rfl⟩ ⟨Nat.le_of_ble_eq_true rfl, Nat.le_of_ble_eq_true rfl⟩ dX8_lineOfTram_2 (fr_thru C hex hlk (fun e9 M1 h => by subst h; exact (Option.some.inj hF).symm) (Nat.le_of_ble_eq_true rfl) (Nat.le_of_ble_eq_true rfl)) (fun M3 H locs ho9 B => ?_)
  subst ho9
  rw [bt_i] at hF
  refine lv_aload_n hx hb dX8_lineOfTram_5 rfl (lv_at hl 0 rfl) ?_
  refine gf_X8_12 C B dX8_lineOfTram_6 ?_
  refine gf_X8_140 C B is7_0 dX8_lineOfTram_9 ?_
  refine gf_X8_162 C B (is1_of is7_0) dX8_lineOfTram_12 ?_
  refine lv_iload_n hx hb dX8_lineOfTram_15 rfl (lv_at hl 1 rfl) ?_
  obtain ⟨c4, hF⟩ := of_g hF
  refine fr_ia C B (ar_1_1 (is1_of is7_0)) c4 dX8_lineOfTram_16 ?_
  exact fr_iret C B hr rfl hlk (by rw [← Option.some.inj hF]) (Nat.le_of_ble_eq_true rfl) (Nat.le_of_ble_eq_true rfl) dX8_lineOfTram_17
def F_X8_stopOfTram (M : fw_M) (a1 : Int32) : Option (fw_O) :=
  bd_t (F_X8_requireTram M a1) fun _ M3 =>
  bd_x (F_X7_stopUnder M3 0 a1) fun r5 =>
  some (.inl r5, M3)
set_option maxHeartbeats 4000000 in
set_option maxRecDepth 100000 in
theorem cm_X8_stopOfTram {l : Launch} {X : fw_X} {M : fw_M} {a1 : Int32} (hlt : l.stackTraces = false)  {o : fw_O} (hF : F_X8_stopOfTram M a1 = some o) : ct_i l X yX8_stopOfTram cX8_stopOfTram 2 (some .int) ({ frames := 8, cells := 1, slots := 6, locals := 151 } : Room) M [.ref (fw_ad X 352), .int a1] o := by
  refine fw_open rfl (Nat.le_of_ble_eq_true rfl) (fun p e s m below meth c ls C hr hlk hnm hex hl B => ?_)
  have C : fr_C X p c cX8_stopOfTram 2 RX8 s m ([.ref (fw_ad X 352), .int a1] : List Value).toArray := C
  have hx := C.1.1
  have hb := C.1.2.1
  have hl : lv_has ls 2 [(0, .ref (fw_ad X 352)), (1, .int a1)] := hl
  unfold F_X8_stopOfTram at hF
  refine lv_aload_n hx hb dX8_stopOfTram_0 rfl (lv_at hl 0 rfl) ?_
  refine lv_iload_n hx hb dX8_stopOfTram_1 rfl (lv_at hl 1 rfl) ?_
  obtain ⟨oc, hf1, hF⟩ := bt_e hF
  refine fr_cVv (As := [.int a1]) (rest := []) C B (cm_X8_requireTram hlt hf1) ob_8 rfl yw_X8_requireTram wm_X8_159 rfl hl.1 rfl (Nat.le_of_ble_eq_true rfl) ⟨Nat.le_of_ble_eq_true rfl, Nat.le_of_ble_eq_true rfl⟩ ⟨Nat.le_of_ble_eq_true rfl, Nat.le_of_ble_eq_true rfl⟩ dX8_stopOfTram_2 (fr_thru C hex hlk (fun e9 M1 h => by subst h; exact (Option.some.inj hF).symm) (Nat.le_of_ble_eq_true rfl) (Nat.le_of_ble_eq_true rfl)) (fun M3 H locs ho9 B => ?_)
  subst ho9
  rw [bt_i] at hF
  refine lv_aload_n hx hb dX8_stopOfTram_5 rfl (lv_at hl 0 rfl) ?_
  refine gf_X8_12 C B dX8_stopOfTram_6 ?_
  refine lv_iload_n hx hb dX8_stopOfTram_9 rfl (lv_at hl 1 rfl) ?_
  obtain ⟨r5, hf4, hF⟩ := bx_e hF
  refine fr_cVi (As := [.int a1]) (rest := []) C B (cm_X7_stopUnder is7_0 hf4) (ob_7 is7_0) rfl yw_X7_stopUnder wm_X8_165 rfl hl.1 rfl (Nat.le_of_ble_eq_true rfl) ⟨Nat.le_of_ble_eq_true rfl, Nat.le_of_ble_eq_true rfl⟩ ⟨Nat.le_of_ble_eq_true rfl, Nat.le_of_ble_eq_true rfl⟩ dX8_stopOfTram_10 (fr_nx rfl) (fun r9 M9 H locs ho9 B => ?_)
  obtain ⟨rfl, rfl⟩ := oi_e ho9
  exact fr_iret C B hr rfl hlk (by rw [← Option.some.inj hF]) (Nat.le_of_ble_eq_true rfl) (Nat.le_of_ble_eq_true rfl) dX8_stopOfTram_13
def F_X8_isForward (M : fw_M) (a1 : Int32) : Option (fw_O) :=
  bd_t (F_X8_requireTram M a1) fun _ M3 =>
  if ix_i a1 6 then
  if (fw_ri M3 14 a1) ≤ 0 then
    some (.inl 0, M3)
  else
    some (.inl 1, M3)
  else none
set_option maxHeartbeats 4000000 in
set_option maxRecDepth 100000 in
theorem cm_X8_isForward {l : Launch} {X : fw_X} {M : fw_M} {a1 : Int32} (hlt : l.stackTraces = false)  {o : fw_O} (hF : F_X8_isForward M a1 = some o) : ct_i l X yX8_isForward cX8_isForward 2 (some .boolean) ({ frames := 8, cells := 1, slots := 6, locals := 151 } : Room) M [.ref (fw_ad X 352), .int a1] o := by
  refine fw_open rfl (Nat.le_of_ble_eq_true rfl) (fun p e s m below meth c ls C hr hlk hnm hex hl B => ?_)
  have C : fr_C X p c cX8_isForward 2 RX8 s m ([.ref (fw_ad X 352), .int a1] : List Value).toArray := C
  have hx := C.1.1
  have hb := C.1.2.1
  have hl : lv_has ls 2 [(0, .ref (fw_ad X 352)), (1, .int a1)] := hl
  unfold F_X8_isForward at hF
  refine lv_aload_n hx hb dX8_isForward_0 rfl (lv_at hl 0 rfl) ?_
  refine lv_iload_n hx hb dX8_isForward_1 rfl (lv_at hl 1 rfl) ?_
  obtain ⟨oc, hf1, hF⟩ := bt_e hF
  refine fr_cVv (As := [.int a1]) (rest := []) C B (cm_X8_requireTram hlt hf1) ob_8 rfl yw_X8_requireTram wm_X8_159 rfl hl.1 rfl (Nat.le_of_ble_eq_true rfl) ⟨Nat.le_of_ble_eq_true rfl, Nat.le_of_ble_eq_true rfl⟩ ⟨Nat.le_of_ble_eq_true rfl, Nat.le_of_ble_eq_true rfl⟩ dX8_isForward_2 (fr_thru C hex hlk (fun e9 M1 h => by subst h; exact (Option.some.inj hF).symm) (Nat.le_of_ble_eq_true rfl) (Nat.le_of_ble_eq_true rfl)) (fun M3 H locs ho9 B => ?_)
  subst ho9
  rw [bt_i] at hF
  refine lv_aload_n hx hb dX8_isForward_5 rfl (lv_at hl 0 rfl) ?_
  refine gf_X8_12 C B dX8_isForward_6 ?_
  refine gf_X8_140 C B is7_0 dX8_isForward_9 ?_
  refine gf_X8_168 C B (is1_of is7_0) dX8_isForward_12 ?_
  refine lv_iload_n hx hb dX8_isForward_15 rfl (lv_at hl 1 rfl) ?_
  obtain ⟨c4, hF⟩ := of_g hF
  refine fr_ia C B (ar_1_3 (is1_of is7_0)) c4 dX8_isForward_16 ?_
  refine lv_if_le (tgt := 24) hx hb dX8_isForward_17 (by decide) (fun c5 => ?_) (fun c5 => ?_)
  · have hF := it_t hF c5
    refine lv_iconst (v := 0) hx hb dX8_isForward_24 (by decide) ?_
    exact fr_iret C B hr rfl hlk (by rw [← Option.some.inj hF]) (Nat.le_of_ble_eq_true rfl) (Nat.le_of_ble_eq_true rfl) dX8_isForward_25
  · have hF := it_f hF c5
    refine lv_iconst (v := 1) hx hb dX8_isForward_20 (by decide) ?_
    refine lv_goto (tgt := 25) hx hb dX8_isForward_21 (by decide) ?_
    exact fr_iret C B hr rfl hlk (by rw [← Option.some.inj hF]) (Nat.le_of_ble_eq_true rfl) (Nat.le_of_ble_eq_true rfl) dX8_isForward_25
def F_X8_crowdOf (M : fw_M) (a1 : Int32) : Option (fw_O) :=
  bd_t (F_X8_requireTram M a1) fun _ M3 =>
  bd_x (F_X6_countOn M3 15 a1) fun r5 =>
  some (.inl r5, M3)
set_option maxHeartbeats 4000000 in
set_option maxRecDepth 100000 in
theorem cm_X8_crowdOf {l : Launch} {X : fw_X} {M : fw_M} {a1 : Int32} (hlt : l.stackTraces = false)  {o : fw_O} (hF : F_X8_crowdOf M a1 = some o) : ct_i l X yX8_crowdOf cX8_crowdOf 2 (some .int) ({ frames := 8, cells := 1, slots := 6, locals := 151 } : Room) M [.ref (fw_ad X 352), .int a1] o := by
  refine fw_open rfl (Nat.le_of_ble_eq_true rfl) (fun p e s m below meth c ls C hr hlk hnm hex hl B => ?_)
  have C : fr_C X p c cX8_crowdOf 2 RX8 s m ([.ref (fw_ad X 352), .int a1] : List Value).toArray := C
  have hx := C.1.1
  have hb := C.1.2.1
  have hl : lv_has ls 2 [(0, .ref (fw_ad X 352)), (1, .int a1)] := hl
  unfold F_X8_crowdOf at hF
  refine lv_aload_n hx hb dX8_crowdOf_0 rfl (lv_at hl 0 rfl) ?_
  refine lv_iload_n hx hb dX8_crowdOf_1 rfl (lv_at hl 1 rfl) ?_
  obtain ⟨oc, hf1, hF⟩ := bt_e hF
  refine fr_cVv (As := [.int a1]) (rest := []) C B (cm_X8_requireTram hlt hf1) ob_8 rfl yw_X8_requireTram wm_X8_159 rfl hl.1 rfl (Nat.le_of_ble_eq_true rfl) ⟨Nat.le_of_ble_eq_true rfl, Nat.le_of_ble_eq_true rfl⟩ ⟨Nat.le_of_ble_eq_true rfl, Nat.le_of_ble_eq_true rfl⟩ dX8_crowdOf_2 (fr_thru C hex hlk (fun e9 M1 h => by subst h; exact (Option.some.inj hF).symm) (Nat.le_of_ble_eq_true rfl) (Nat.le_of_ble_eq_true rfl)) (fun M3 H locs ho9 B => ?_)
  subst ho9
  rw [bt_i] at hF
  refine lv_aload_n hx hb dX8_crowdOf_5 rfl (lv_at hl 0 rfl) ?_
  refine gf_X8_12 C B dX8_crowdOf_6 ?_
  refine gf_X8_171 C B is7_0 dX8_crowdOf_9 ?_
  refine lv_iload_n hx hb dX8_crowdOf_12 rfl (lv_at hl 1 rfl) ?_
  obtain ⟨r5, hf4, hF⟩ := bx_e hF
  refine fr_cVi (As := [.int a1]) (rest := []) C B (cm_X6_countOn (is6_of is7_0) hf4) (ob_6 (is6_of is7_0)) rfl yw_X6_countOn wm_X8_175 rfl hl.1 rfl (Nat.le_of_ble_eq_true rfl) ⟨Nat.le_of_ble_eq_true rfl, Nat.le_of_ble_eq_true rfl⟩ ⟨Nat.le_of_ble_eq_true rfl, Nat.le_of_ble_eq_true rfl⟩ dX8_crowdOf_13 (fr_nx rfl) (fun r9 M9 H locs ho9 B => ?_)
  obtain ⟨rfl, rfl⟩ := oi_e ho9
  exact fr_iret C B hr rfl hlk (by rw [← Option.some.inj hF]) (Nat.le_of_ble_eq_true rfl) (Nat.le_of_ble_eq_true rfl) dX8_crowdOf_16
def F_X8_arrivalOf (M : fw_M) (a1 : Int32) (a2 : Int32) : Option (fw_O) :=
  bd_t (F_X8_requireTram M a1) fun _ M3 =>
  bd_t (F_X8_requireStop M3 a2) fun _ M6 =>
  bd_x (F_X7_ticksByFormula M6 0 a1 a2) fun r8 =>
  bd_t (F_X8_found M6 r8) fun r11 M12 =>
  some (.inl r11, M12)
set_option maxHeartbeats 4000000 in
set_option maxRecDepth 100000 in
theorem cm_X8_arrivalOf {l : Launch} {X : fw_X} {M : fw_M} {a1 : Int32} {a2 : Int32} (hlt : l.stackTraces = false)  {o : fw_O} (hF : F_X8_arrivalOf M a1 a2 = some o) : ct_i l X yX8_arrivalOf cX8_arrivalOf 3 (some .int) ({ frames := 8, cells := 3, slots := 18, locals := 151 } : Room) M [.ref (fw_ad X 352), .int a1, .int a2] o := by
  refine fw_open rfl (Nat.le_of_ble_eq_true rfl) (fun p e s m below meth c ls C hr hlk hnm hex hl B => ?_)
  have C : fr_C X p c cX8_arrivalOf 3 RX8 s m ([.ref (fw_ad X 352), .int a1, .int a2] : List Value).toArray := C
  have hx := C.1.1
  have hb := C.1.2.1
  have hl : lv_has ls 3 [(0, .ref (fw_ad X 352)), (1, .int a1), (2, .int a2)] := hl
  unfold F_X8_arrivalOf at hF
  refine lv_aload_n hx hb dX8_arrivalOf_0 rfl (lv_at hl 0 rfl) ?_
  refine lv_iload_n hx hb dX8_arrivalOf_1 rfl (lv_at hl 1 rfl) ?_
  obtain ⟨oc, hf1, hF⟩ := bt_e hF
  refine fr_cVv (As := [.int a1]) (rest := []) C B (cm_X8_requireTram hlt hf1) ob_8 rfl yw_X8_requireTram wm_X8_159 rfl hl.1 rfl (Nat.le_of_ble_eq_true rfl) ⟨Nat.le_of_ble_eq_true rfl, Nat.le_of_ble_eq_true rfl⟩ ⟨Nat.le_of_ble_eq_true rfl, Nat.le_of_ble_eq_true rfl⟩ dX8_arrivalOf_2 (fr_thru C hex hlk (fun e9 M1 h => by subst h; exact (Option.some.inj hF).symm) (Nat.le_of_ble_eq_true rfl) (Nat.le_of_ble_eq_true rfl)) (fun M3 H locs ho9 B => ?_)
  subst ho9
  rw [bt_i] at hF
  refine lv_aload_n hx hb dX8_arrivalOf_5 rfl (lv_at hl 0 rfl) ?_
  refine lv_iload_n hx hb dX8_arrivalOf_6 rfl (lv_at hl 2 rfl) ?_
  obtain ⟨oc, hf4, hF⟩ := bt_e hF
  refine fr_cVv (As := [.int a2]) (rest := []) C B (cm_X8_requireStop hlt hf4) ob_8 rfl yw_X8_requireStop wm_X8_98 rfl hl.1 rfl (Nat.le_of_ble_eq_true rfl) ⟨Nat.le_of_ble_eq_true rfl, Nat.le_of_ble_eq_true rfl⟩ ⟨Nat.le_of_ble_eq_true rfl, Nat.le_of_ble_eq_true rfl⟩ dX8_arrivalOf_7 (fr_thru C hex hlk (fun e9 M1 h => by subst h; exact (Option.some.inj hF).symm) (Nat.le_of_ble_eq_true rfl) (Nat.le_of_ble_eq_true rfl)) (fun M6 H locs ho9 B => ?_)
  subst ho9
  rw [bt_i] at hF
  refine lv_aload_n hx hb dX8_arrivalOf_10 rfl (lv_at hl 0 rfl) ?_
  refine gf_X8_12 C B dX8_arrivalOf_11 ?_
  refine lv_iload_n hx hb dX8_arrivalOf_14 rfl (lv_at hl 1 rfl) ?_
  refine lv_iload_n hx hb dX8_arrivalOf_15 rfl (lv_at hl 2 rfl) ?_
  obtain ⟨r8, hf7, hF⟩ := bx_e hF
  refine fr_cVi (As := [.int a1, .int a2]) (rest := []) C B (cm_X7_ticksByFormula is7_0 hf7) (ob_7 is7_0) rfl yw_X7_ticksByFormula wm_X8_182 rfl hl.1 rfl (Nat.le_of_ble_eq_true rfl) ⟨Nat.le_of_ble_eq_true rfl, Nat.le_of_ble_eq_true rfl⟩ ⟨Nat.le_of_ble_eq_true rfl, Nat.le_of_ble_eq_true rfl⟩ dX8_arrivalOf_16 (fr_nx rfl) (fun r9 M9 H locs ho9 B => ?_)
  obtain ⟨rfl, rfl⟩ := oi_e ho9
  obtain ⟨oc, hf10, hF⟩ := bt_e hF
  refine fr_cSi (As := [.int r8]) (rest := []) C B (cm_X8_found hlt hf10) yw_X8_found wm_X8_185 rfl hl.1 rfl (Nat.le_of_ble_eq_true rfl) ⟨Nat.le_of_ble_eq_true rfl, Nat.le_of_ble_eq_true rfl⟩ ⟨Nat.le_of_ble_eq_true rfl, Nat.le_of_ble_eq_true rfl⟩ dX8_arrivalOf_19 (fr_thru C hex hlk (fun e9 M1 h => by subst h; exact (Option.some.inj hF).symm) (Nat.le_of_ble_eq_true rfl) (Nat.le_of_ble_eq_true rfl)) (fun r11 M12 H locs ho9 B => ?_)
  subst ho9
  rw [bt_i] at hF
  exact fr_iret C B hr rfl hlk (by rw [← Option.some.inj hF]) (Nat.le_of_ble_eq_true rfl) (Nat.le_of_ble_eq_true rfl) dX8_arrivalOf_22
def F_X8_arrivalBySimulation (M : fw_M) (a1 : Int32) (a2 : Int32) : Option (fw_O) :=
  bd_t (F_X8_requireTram M a1) fun _ M3 =>
  bd_t (F_X8_requireStop M3 a2) fun _ M6 =>
  bd_x (F_X7_ticksBySimulation M6 0 a1 a2) fun r8 =>
  bd_t (F_X8_found M6 r8) fun r11 M12 =>
  some (.inl r11, M12)
set_option maxHeartbeats 4000000 in
set_option maxRecDepth 100000 in
theorem cm_X8_arrivalBySimulation {l : Launch} {X : fw_X} {M : fw_M} {a1 : Int32} {a2 : Int32} (hlt : l.stackTraces = false)  {o : fw_O} (hF : F_X8_arrivalBySimulation M a1 a2 = some o) : ct_i l X yX8_arrivalBySimulation cX8_arrivalBySimulation 3 (some .int) ({ frames := 8, cells := 3, slots := 18, locals := 151 } : Room) M [.ref (fw_ad X 352), .int a1, .int a2] o := by
  refine fw_open rfl (Nat.le_of_ble_eq_true rfl) (fun p e s m below meth c ls C hr hlk hnm hex hl B => ?_)
  have C : fr_C X p c cX8_arrivalBySimulation 3 RX8 s m ([.ref (fw_ad X 352), .int a1, .int a2] : List Value).toArray := C
  have hx := C.1.1
  have hb := C.1.2.1
  have hl : lv_has ls 3 [(0, .ref (fw_ad X 352)), (1, .int a1), (2, .int a2)] := hl
  unfold F_X8_arrivalBySimulation at hF
  refine lv_aload_n hx hb dX8_arrivalBySimulation_0 rfl (lv_at hl 0 rfl) ?_
  refine lv_iload_n hx hb dX8_arrivalBySimulation_1 rfl (lv_at hl 1 rfl) ?_
  obtain ⟨oc, hf1, hF⟩ := bt_e hF
  refine fr_cVv (As := [.int a1]) (rest := []) C B (cm_X8_requireTram hlt hf1) ob_8 rfl yw_X8_requireTram wm_X8_159 rfl hl.1 rfl (Nat.le_of_ble_eq_true rfl) ⟨Nat.le_of_ble_eq_true rfl, Nat.le_of_ble_eq_true rfl⟩ ⟨Nat.le_of_ble_eq_true rfl, Nat.le_of_ble_eq_true rfl⟩ dX8_arrivalBySimulation_2 (fr_thru C hex hlk (fun e9 M1 h => by subst h; exact (Option.some.inj hF).symm) (Nat.le_of_ble_eq_true rfl) (Nat.le_of_ble_eq_true rfl)) (fun M3 H locs ho9 B => ?_)
  subst ho9
  rw [bt_i] at hF
  refine lv_aload_n hx hb dX8_arrivalBySimulation_5 rfl (lv_at hl 0 rfl) ?_
  refine lv_iload_n hx hb dX8_arrivalBySimulation_6 rfl (lv_at hl 2 rfl) ?_
  obtain ⟨oc, hf4, hF⟩ := bt_e hF
  refine fr_cVv (As := [.int a2]) (rest := []) C B (cm_X8_requireStop hlt hf4) ob_8 rfl yw_X8_requireStop wm_X8_98 rfl hl.1 rfl (Nat.le_of_ble_eq_true rfl) ⟨Nat.le_of_ble_eq_true rfl, Nat.le_of_ble_eq_true rfl⟩ ⟨Nat.le_of_ble_eq_true rfl, Nat.le_of_ble_eq_true rfl⟩ dX8_arrivalBySimulation_7 (fr_thru C hex hlk (fun e9 M1 h => by subst h; exact (Option.some.inj hF).symm) (Nat.le_of_ble_eq_true rfl) (Nat.le_of_ble_eq_true rfl)) (fun M6 H locs ho9 B => ?_)
  subst ho9
  rw [bt_i] at hF
  refine lv_aload_n hx hb dX8_arrivalBySimulation_10 rfl (lv_at hl 0 rfl) ?_
  refine gf_X8_12 C B dX8_arrivalBySimulation_11 ?_
  refine lv_iload_n hx hb dX8_arrivalBySimulation_14 rfl (lv_at hl 1 rfl) ?_
  refine lv_iload_n hx hb dX8_arrivalBySimulation_15 rfl (lv_at hl 2 rfl) ?_
  obtain ⟨r8, hf7, hF⟩ := bx_e hF
  refine fr_cVi (As := [.int a1, .int a2]) (rest := []) C B (cm_X7_ticksBySimulation is7_0 hf7) (ob_7 is7_0) rfl yw_X7_ticksBySimulation wm_X8_188 rfl hl.1 rfl (Nat.le_of_ble_eq_true rfl) ⟨Nat.le_of_ble_eq_true rfl, Nat.le_of_ble_eq_true rfl⟩ ⟨Nat.le_of_ble_eq_true rfl, Nat.le_of_ble_eq_true rfl⟩ dX8_arrivalBySimulation_16 (fr_nx rfl) (fun r9 M9 H locs ho9 B => ?_)
  obtain ⟨rfl, rfl⟩ := oi_e ho9
  obtain ⟨oc, hf10, hF⟩ := bt_e hF
  refine fr_cSi (As := [.int r8]) (rest := []) C B (cm_X8_found hlt hf10) yw_X8_found wm_X8_185 rfl hl.1 rfl (Nat.le_of_ble_eq_true rfl) ⟨Nat.le_of_ble_eq_true rfl, Nat.le_of_ble_eq_true rfl⟩ ⟨Nat.le_of_ble_eq_true rfl, Nat.le_of_ble_eq_true rfl⟩ dX8_arrivalBySimulation_19 (fr_thru C hex hlk (fun e9 M1 h => by subst h; exact (Option.some.inj hF).symm) (Nat.le_of_ble_eq_true rfl) (Nat.le_of_ble_eq_true rfl)) (fun r11 M12 H locs ho9 B => ?_)
  subst ho9
  rw [bt_i] at hF
  exact fr_iret C B hr rfl hlk (by rw [← Option.some.inj hF]) (Nat.le_of_ble_eq_true rfl) (Nat.le_of_ble_eq_true rfl) dX8_arrivalBySimulation_22
def F_X8_addPassenger (M : fw_M) (a1 : Int32) : Option (fw_O) :=
  bd_x (F_X7_faultOfPassenger M 0 a1) fun r2 =>
  bd_t (F_X8_refuse M r2) fun _ M6 =>
  bd_x (F_X4_remember M6 0) fun M9 =>
  bd_p (F_X6_putPassenger M9 15 a1) fun r11 M12 =>
  some (.inl r11, M12)
set_option maxHeartbeats 4000000 in
set_option maxRecDepth 100000 in
theorem cm_X8_addPassenger {l : Launch} {X : fw_X} {M : fw_M} {a1 : Int32} (hlt : l.stackTraces = false)  {o : fw_O} (hF : F_X8_addPassenger M a1 = some o) : ct_i l X yX8_addPassenger cX8_addPassenger 2 (some .int) ({ frames := 8, cells := 1, slots := 6, locals := 150 } : Room) M [.ref (fw_ad X 352), .int a1] o := by
  refine fw_open rfl (Nat.le_of_ble_eq_true rfl) (fun p e s m below meth c ls C hr hlk hnm hex hl B => ?_)
  have C : fr_C X p c cX8_addPassenger 2 RX8 s m ([.ref (fw_ad X 352), .int a1] : List Value).toArray := C
  have hx := C.1.1
  have hb := C.1.2.1
  have hl : lv_has ls 2 [(0, .ref (fw_ad X 352)), (1, .int a1)] := hl
  unfold F_X8_addPassenger at hF
  refine lv_aload_n hx hb dX8_addPassenger_0 rfl (lv_at hl 0 rfl) ?_
  refine gf_X8_12 C B dX8_addPassenger_1 ?_
  refine lv_iload_n hx hb dX8_addPassenger_4 rfl (lv_at hl 1 rfl) ?_
  obtain ⟨r2, hf1, hF⟩ := bx_e hF
  refine fr_cVi (As := [.int a1]) (rest := []) C B (cm_X7_faultOfPassenger is7_0 hf1) (ob_7 is7_0) rfl yw_X7_faultOfPassenger wm_X8_191 rfl hl.1 rfl (Nat.le_of_ble_eq_true rfl) ⟨Nat.le_of_ble_eq_true rfl, Nat.le_of_ble_eq_true rfl⟩ ⟨Nat.le_of_ble_eq_true rfl, Nat.le_of_ble_eq_true rfl⟩ dX8_addPassenger_5 (fr_nx rfl) (fun r9 M9 H locs ho9 B => ?_)
  obtain ⟨rfl, rfl⟩ := oi_e ho9
  obtain ⟨oc, hf4, hF⟩ := bt_e hF
  refine fr_cSv (As := [.int r2]) (rest := []) C B (cm_X8_refuse hlt hf4) yw_X8_refuse wm_X8_65 rfl hl.1 rfl (Nat.le_of_ble_eq_true rfl) ⟨Nat.le_of_ble_eq_true rfl, Nat.le_of_ble_eq_true rfl⟩ ⟨Nat.le_of_ble_eq_true rfl, Nat.le_of_ble_eq_true rfl⟩ dX8_addPassenger_8 (fr_thru C hex hlk (fun e9 M1 h => by subst h; exact (Option.some.inj hF).symm) (Nat.le_of_ble_eq_true rfl) (Nat.le_of_ble_eq_true rfl)) (fun M6 H locs ho9 B => ?_)
  subst ho9
  rw [bt_i] at hF
  refine lv_aload_n hx hb dX8_addPassenger_11 rfl (lv_at hl 0 rfl) ?_
  refine gf_X8_25 C B dX8_addPassenger_12 ?_
  refine lv_aload_n hx hb dX8_addPassenger_15 rfl (lv_at hl 0 rfl) ?_
  refine gf_X8_12 C B dX8_addPassenger_16 ?_
  obtain ⟨M9, hf7, hF⟩ := bx_e hF
  refine fr_cVv (As := [.ref (fw_ad X 0)]) (rest := []) C B (cm_X4_remember is7_0 hf7) ob_4 rfl yw_X4_remember wm_X8_69 rfl hl.1 rfl (Nat.le_of_ble_eq_true rfl) ⟨Nat.le_of_ble_eq_true rfl, Nat.le_of_ble_eq_true rfl⟩ ⟨Nat.le_of_ble_eq_true rfl, Nat.le_of_ble_eq_true rfl⟩ dX8_addPassenger_19 (fr_nx rfl) (fun M9 H locs ho9 B => ?_)
  obtain ⟨-, rfl⟩ := oi_e ho9
  refine lv_aload_n hx hb dX8_addPassenger_22 rfl (lv_at hl 0 rfl) ?_
  refine gf_X8_12 C B dX8_addPassenger_23 ?_
  refine gf_X8_171 C B is7_0 dX8_addPassenger_26 ?_
  refine lv_iload_n hx hb dX8_addPassenger_29 rfl (lv_at hl 1 rfl) ?_
  obtain ⟨r11, M12, hf10, hF⟩ := bp_e hF
  refine fr_cVi (As := [.int a1]) (rest := []) C B (cm_X6_putPassenger (is6_of is7_0) hf10) (ob_6 (is6_of is7_0)) rfl yw_X6_putPassenger wm_X8_194 rfl hl.1 rfl (Nat.le_of_ble_eq_true rfl) ⟨Nat.le_of_ble_eq_true rfl, Nat.le_of_ble_eq_true rfl⟩ ⟨Nat.le_of_ble_eq_true rfl, Nat.le_of_ble_eq_true rfl⟩ dX8_addPassenger_30 (fr_nx rfl) (fun r9 M9 H locs ho9 B => ?_)
  obtain ⟨rfl, rfl⟩ := oi_e ho9
  exact fr_iret C B hr rfl hlk (by rw [← Option.some.inj hF]) (Nat.le_of_ble_eq_true rfl) (Nat.le_of_ble_eq_true rfl) dX8_addPassenger_33
def F_X8_sellTicket (M : fw_M) (a1 : Int32) (a2 : Int32) (a3 : Int32) : Option (fw_O) :=
  bd_x (F_X7_faultOfTicket M 0 a1 a2 a3) fun r2 =>
  bd_t (F_X8_refuse M r2) fun _ M6 =>
  bd_x (F_X4_remember M6 0) fun M9 =>
  bd_p (F_X6_addToTicket M9 15 a1 a2 a3) fun r11 M12 =>
  some (.inl r11, M12)
set_option maxHeartbeats 4000000 in
set_option maxRecDepth 100000 in
theorem cm_X8_sellTicket {l : Launch} {X : fw_X} {M : fw_M} {a1 : Int32} {a2 : Int32} {a3 : Int32} (hlt : l.stackTraces = false)  {o : fw_O} (hF : F_X8_sellTicket M a1 a2 a3 = some o) : ct_i l X yX8_sellTicket cX8_sellTicket 4 (some .int) ({ frames := 8, cells := 1, slots := 6, locals := 150 } : Room) M [.ref (fw_ad X 352), .int a1, .int a2, .int a3] o := by
  refine fw_open rfl (Nat.le_of_ble_eq_true rfl) (fun p e s m below meth c ls C hr hlk hnm hex hl B => ?_)
  have C : fr_C X p c cX8_sellTicket 4 RX8 s m ([.ref (fw_ad X 352), .int a1, .int a2, .int a3] : List Value).toArray := C
  have hx := C.1.1
  have hb := C.1.2.1
  have hl : lv_has ls 4 [(0, .ref (fw_ad X 352)), (1, .int a1), (2, .int a2), (3, .int a3)] := hl
  unfold F_X8_sellTicket at hF
  refine lv_aload_n hx hb dX8_sellTicket_0 rfl (lv_at hl 0 rfl) ?_
  refine gf_X8_12 C B dX8_sellTicket_1 ?_
  refine lv_iload_n hx hb dX8_sellTicket_4 rfl (lv_at hl 1 rfl) ?_
  refine lv_iload_n hx hb dX8_sellTicket_5 rfl (lv_at hl 2 rfl) ?_
  refine lv_iload_n hx hb dX8_sellTicket_6 rfl (lv_at hl 3 rfl) ?_
  obtain ⟨r2, hf1, hF⟩ := bx_e hF
  refine fr_cVi (As := [.int a1, .int a2, .int a3]) (rest := []) C B (cm_X7_faultOfTicket is7_0 hf1) (ob_7 is7_0) rfl yw_X7_faultOfTicket wm_X8_197 rfl hl.1 rfl (Nat.le_of_ble_eq_true rfl) ⟨Nat.le_of_ble_eq_true rfl, Nat.le_of_ble_eq_true rfl⟩ ⟨Nat.le_of_ble_eq_true rfl, Nat.le_of_ble_eq_true rfl⟩ dX8_sellTicket_7 (fr_nx rfl) (fun r9 M9 H locs ho9 B => ?_)
  obtain ⟨rfl, rfl⟩ := oi_e ho9
  obtain ⟨oc, hf4, hF⟩ := bt_e hF
  refine fr_cSv (As := [.int r2]) (rest := []) C B (cm_X8_refuse hlt hf4) yw_X8_refuse wm_X8_65 rfl hl.1 rfl (Nat.le_of_ble_eq_true rfl) ⟨Nat.le_of_ble_eq_true rfl, Nat.le_of_ble_eq_true rfl⟩ ⟨Nat.le_of_ble_eq_true rfl, Nat.le_of_ble_eq_true rfl⟩ dX8_sellTicket_10 (fr_thru C hex hlk (fun e9 M1 h => by subst h; exact (Option.some.inj hF).symm) (Nat.le_of_ble_eq_true rfl) (Nat.le_of_ble_eq_true rfl)) (fun M6 H locs ho9 B => ?_)
  subst ho9
  rw [bt_i] at hF
  refine lv_aload_n hx hb dX8_sellTicket_13 rfl (lv_at hl 0 rfl) ?_
  refine gf_X8_25 C B dX8_sellTicket_14 ?_
  refine lv_aload_n hx hb dX8_sellTicket_17 rfl (lv_at hl 0 rfl) ?_
  refine gf_X8_12 C B dX8_sellTicket_18 ?_
  obtain ⟨M9, hf7, hF⟩ := bx_e hF
  refine fr_cVv (As := [.ref (fw_ad X 0)]) (rest := []) C B (cm_X4_remember is7_0 hf7) ob_4 rfl yw_X4_remember wm_X8_69 rfl hl.1 rfl (Nat.le_of_ble_eq_true rfl) ⟨Nat.le_of_ble_eq_true rfl, Nat.le_of_ble_eq_true rfl⟩ ⟨Nat.le_of_ble_eq_true rfl, Nat.le_of_ble_eq_true rfl⟩ dX8_sellTicket_21 (fr_nx rfl) (fun M9 H locs ho9 B => ?_)
  obtain ⟨-, rfl⟩ := oi_e ho9
  refine lv_aload_n hx hb dX8_sellTicket_24 rfl (lv_at hl 0 rfl) ?_
  refine gf_X8_12 C B dX8_sellTicket_25 ?_
  refine gf_X8_171 C B is7_0 dX8_sellTicket_28 ?_
  refine lv_iload_n hx hb dX8_sellTicket_31 rfl (lv_at hl 1 rfl) ?_
  refine lv_iload_n hx hb dX8_sellTicket_32 rfl (lv_at hl 2 rfl) ?_
  refine lv_iload_n hx hb dX8_sellTicket_33 rfl (lv_at hl 3 rfl) ?_
  obtain ⟨r11, M12, hf10, hF⟩ := bp_e hF
  refine fr_cVi (As := [.int a1, .int a2, .int a3]) (rest := []) C B (cm_X6_addToTicket (is6_of is7_0) hf10) (ob_6 (is6_of is7_0)) rfl yw_X6_addToTicket wm_X8_201 rfl hl.1 rfl (Nat.le_of_ble_eq_true rfl) ⟨Nat.le_of_ble_eq_true rfl, Nat.le_of_ble_eq_true rfl⟩ ⟨Nat.le_of_ble_eq_true rfl, Nat.le_of_ble_eq_true rfl⟩ dX8_sellTicket_34 (fr_nx rfl) (fun r9 M9 H locs ho9 B => ?_)
  obtain ⟨rfl, rfl⟩ := oi_e ho9
  exact fr_iret C B hr rfl hlk (by rw [← Option.some.inj hF]) (Nat.le_of_ble_eq_true rfl) (Nat.le_of_ble_eq_true rfl) dX8_sellTicket_37
def F_X8_board (M : fw_M) (a1 : Int32) (a2 : Int32) : Option (fw_O) :=
  bd_x (F_X7_faultOfBoarding M 0 a1 a2) fun r2 =>
  bd_t (F_X8_refuse M r2) fun _ M6 =>
  bd_x (F_X4_remember M6 0) fun M9 =>
  bd_p (F_X7_letBoard M9 0 a1 a2) fun r11 M12 =>
  if (r11 = 0 ∨ r11 = 1) then
  some (.inl r11, M12)
  else none
set_option maxHeartbeats 4000000 in
set_option maxRecDepth 100000 in
theorem cm_X8_board {l : Launch} {X : fw_X} {M : fw_M} {a1 : Int32} {a2 : Int32} (hlt : l.stackTraces = false)  {o : fw_O} (hF : F_X8_board M a1 a2 = some o) : ct_i l X yX8_board cX8_board 3 (some .boolean) ({ frames := 8, cells := 1, slots := 6, locals := 150 } : Room) M [.ref (fw_ad X 352), .int a1, .int a2] o := by
  refine fw_open rfl (Nat.le_of_ble_eq_true rfl) (fun p e s m below meth c ls C hr hlk hnm hex hl B => ?_)
  have C : fr_C X p c cX8_board 3 RX8 s m ([.ref (fw_ad X 352), .int a1, .int a2] : List Value).toArray := C
  have hx := C.1.1
  have hb := C.1.2.1
  have hl : lv_has ls 3 [(0, .ref (fw_ad X 352)), (1, .int a1), (2, .int a2)] := hl
  unfold F_X8_board at hF
  refine lv_aload_n hx hb dX8_board_0 rfl (lv_at hl 0 rfl) ?_
  refine gf_X8_12 C B dX8_board_1 ?_
  refine lv_iload_n hx hb dX8_board_4 rfl (lv_at hl 1 rfl) ?_
  refine lv_iload_n hx hb dX8_board_5 rfl (lv_at hl 2 rfl) ?_
  obtain ⟨r2, hf1, hF⟩ := bx_e hF
  refine fr_cVi (As := [.int a1, .int a2]) (rest := []) C B (cm_X7_faultOfBoarding is7_0 hf1) (ob_7 is7_0) rfl yw_X7_faultOfBoarding wm_X8_204 rfl hl.1 rfl (Nat.le_of_ble_eq_true rfl) ⟨Nat.le_of_ble_eq_true rfl, Nat.le_of_ble_eq_true rfl⟩ ⟨Nat.le_of_ble_eq_true rfl, Nat.le_of_ble_eq_true rfl⟩ dX8_board_6 (fr_nx rfl) (fun r9 M9 H locs ho9 B => ?_)
  obtain ⟨rfl, rfl⟩ := oi_e ho9
  obtain ⟨oc, hf4, hF⟩ := bt_e hF
  refine fr_cSv (As := [.int r2]) (rest := []) C B (cm_X8_refuse hlt hf4) yw_X8_refuse wm_X8_65 rfl hl.1 rfl (Nat.le_of_ble_eq_true rfl) ⟨Nat.le_of_ble_eq_true rfl, Nat.le_of_ble_eq_true rfl⟩ ⟨Nat.le_of_ble_eq_true rfl, Nat.le_of_ble_eq_true rfl⟩ dX8_board_9 (fr_thru C hex hlk (fun e9 M1 h => by subst h; exact (Option.some.inj hF).symm) (Nat.le_of_ble_eq_true rfl) (Nat.le_of_ble_eq_true rfl)) (fun M6 H locs ho9 B => ?_)
  subst ho9
  rw [bt_i] at hF
  refine lv_aload_n hx hb dX8_board_12 rfl (lv_at hl 0 rfl) ?_
  refine gf_X8_25 C B dX8_board_13 ?_
  refine lv_aload_n hx hb dX8_board_16 rfl (lv_at hl 0 rfl) ?_
  refine gf_X8_12 C B dX8_board_17 ?_
  obtain ⟨M9, hf7, hF⟩ := bx_e hF
  refine fr_cVv (As := [.ref (fw_ad X 0)]) (rest := []) C B (cm_X4_remember is7_0 hf7) ob_4 rfl yw_X4_remember wm_X8_69 rfl hl.1 rfl (Nat.le_of_ble_eq_true rfl) ⟨Nat.le_of_ble_eq_true rfl, Nat.le_of_ble_eq_true rfl⟩ ⟨Nat.le_of_ble_eq_true rfl, Nat.le_of_ble_eq_true rfl⟩ dX8_board_20 (fr_nx rfl) (fun M9 H locs ho9 B => ?_)
  obtain ⟨-, rfl⟩ := oi_e ho9
  refine lv_aload_n hx hb dX8_board_23 rfl (lv_at hl 0 rfl) ?_
  refine gf_X8_12 C B dX8_board_24 ?_
  refine lv_iload_n hx hb dX8_board_27 rfl (lv_at hl 1 rfl) ?_
  refine lv_iload_n hx hb dX8_board_28 rfl (lv_at hl 2 rfl) ?_
  obtain ⟨r11, M12, hf10, hF⟩ := bp_e hF
  refine fr_cVi (As := [.int a1, .int a2]) (rest := []) C B (cm_X7_letBoard is7_0 hf10) (ob_7 is7_0) rfl yw_X7_letBoard wm_X8_207 rfl hl.1 rfl (Nat.le_of_ble_eq_true rfl) ⟨Nat.le_of_ble_eq_true rfl, Nat.le_of_ble_eq_true rfl⟩ ⟨Nat.le_of_ble_eq_true rfl, Nat.le_of_ble_eq_true rfl⟩ dX8_board_29 (fr_nx rfl) (fun r9 M9 H locs ho9 B => ?_)
  obtain ⟨rfl, rfl⟩ := oi_e ho9
  obtain ⟨c13, hF⟩ := of_g hF
  exact fr_iret C B hr (nz_b c13) hlk (by rw [← Option.some.inj hF]) (Nat.le_of_ble_eq_true rfl) (Nat.le_of_ble_eq_true rfl) dX8_board_32
def F_X8_alight (M : fw_M) (a1 : Int32) : Option (fw_O) :=
  bd_x (F_X7_faultOfAlighting M 0 a1) fun r2 =>
  bd_t (F_X8_refuse M r2) fun _ M6 =>
  bd_x (F_X4_remember M6 0) fun M9 =>
  bd_p (F_X7_letAlight M9 0 a1) fun r11 M12 =>
  some (.inl r11, M12)
set_option maxHeartbeats 4000000 in
set_option maxRecDepth 100000 in
theorem cm_X8_alight {l : Launch} {X : fw_X} {M : fw_M} {a1 : Int32} (hlt : l.stackTraces = false)  {o : fw_O} (hF : F_X8_alight M a1 = some o) : ct_i l X yX8_alight cX8_alight 2 (some .int) ({ frames := 8, cells := 1, slots := 6, locals := 150 } : Room) M [.ref (fw_ad X 352), .int a1] o := by
  refine fw_open rfl (Nat.le_of_ble_eq_true rfl) (fun p e s m below meth c ls C hr hlk hnm hex hl B => ?_)
  have C : fr_C X p c cX8_alight 2 RX8 s m ([.ref (fw_ad X 352), .int a1] : List Value).toArray := C
  have hx := C.1.1
  have hb := C.1.2.1
  have hl : lv_has ls 2 [(0, .ref (fw_ad X 352)), (1, .int a1)] := hl
  unfold F_X8_alight at hF
  refine lv_aload_n hx hb dX8_alight_0 rfl (lv_at hl 0 rfl) ?_
  refine gf_X8_12 C B dX8_alight_1 ?_
  refine lv_iload_n hx hb dX8_alight_4 rfl (lv_at hl 1 rfl) ?_
  obtain ⟨r2, hf1, hF⟩ := bx_e hF
  refine fr_cVi (As := [.int a1]) (rest := []) C B (cm_X7_faultOfAlighting is7_0 hf1) (ob_7 is7_0) rfl yw_X7_faultOfAlighting wm_X8_211 rfl hl.1 rfl (Nat.le_of_ble_eq_true rfl) ⟨Nat.le_of_ble_eq_true rfl, Nat.le_of_ble_eq_true rfl⟩ ⟨Nat.le_of_ble_eq_true rfl, Nat.le_of_ble_eq_true rfl⟩ dX8_alight_5 (fr_nx rfl) (fun r9 M9 H locs ho9 B => ?_)
  obtain ⟨rfl, rfl⟩ := oi_e ho9
  obtain ⟨oc, hf4, hF⟩ := bt_e hF
  refine fr_cSv (As := [.int r2]) (rest := []) C B (cm_X8_refuse hlt hf4) yw_X8_refuse wm_X8_65 rfl hl.1 rfl (Nat.le_of_ble_eq_true rfl) ⟨Nat.le_of_ble_eq_true rfl, Nat.le_of_ble_eq_true rfl⟩ ⟨Nat.le_of_ble_eq_true rfl, Nat.le_of_ble_eq_true rfl⟩ dX8_alight_8 (fr_thru C hex hlk (fun e9 M1 h => by subst h; exact (Option.some.inj hF).symm) (Nat.le_of_ble_eq_true rfl) (Nat.le_of_ble_eq_true rfl)) (fun M6 H locs ho9 B => ?_)
  subst ho9
  rw [bt_i] at hF
  refine lv_aload_n hx hb dX8_alight_11 rfl (lv_at hl 0 rfl) ?_
  refine gf_X8_25 C B dX8_alight_12 ?_
  refine lv_aload_n hx hb dX8_alight_15 rfl (lv_at hl 0 rfl) ?_
  refine gf_X8_12 C B dX8_alight_16 ?_
  obtain ⟨M9, hf7, hF⟩ := bx_e hF
  refine fr_cVv (As := [.ref (fw_ad X 0)]) (rest := []) C B (cm_X4_remember is7_0 hf7) ob_4 rfl yw_X4_remember wm_X8_69 rfl hl.1 rfl (Nat.le_of_ble_eq_true rfl) ⟨Nat.le_of_ble_eq_true rfl, Nat.le_of_ble_eq_true rfl⟩ ⟨Nat.le_of_ble_eq_true rfl, Nat.le_of_ble_eq_true rfl⟩ dX8_alight_19 (fr_nx rfl) (fun M9 H locs ho9 B => ?_)
  obtain ⟨-, rfl⟩ := oi_e ho9
  refine lv_aload_n hx hb dX8_alight_22 rfl (lv_at hl 0 rfl) ?_
  refine gf_X8_12 C B dX8_alight_23 ?_
  refine lv_iload_n hx hb dX8_alight_26 rfl (lv_at hl 1 rfl) ?_
  obtain ⟨r11, M12, hf10, hF⟩ := bp_e hF
  refine fr_cVi (As := [.int a1]) (rest := []) C B (cm_X7_letAlight is7_0 hf10) (ob_7 is7_0) rfl yw_X7_letAlight wm_X8_214 rfl hl.1 rfl (Nat.le_of_ble_eq_true rfl) ⟨Nat.le_of_ble_eq_true rfl, Nat.le_of_ble_eq_true rfl⟩ ⟨Nat.le_of_ble_eq_true rfl, Nat.le_of_ble_eq_true rfl⟩ dX8_alight_27 (fr_nx rfl) (fun r9 M9 H locs ho9 B => ?_)
  obtain ⟨rfl, rfl⟩ := oi_e ho9
  exact fr_iret C B hr rfl hlk (by rw [← Option.some.inj hF]) (Nat.le_of_ble_eq_true rfl) (Nat.le_of_ble_eq_true rfl) dX8_alight_30
def F_X8_stopOfPassenger (M : fw_M) (a1 : Int32) : Option (fw_O) :=
  bd_t (F_X8_requirePassenger M a1) fun _ M3 =>
  if ix_i a1 8 then
  some (.inl (fw_ri M3 16 a1), M3)
  else none
set_option maxHeartbeats 4000000 in
set_option maxRecDepth 100000 in
theorem cm_X8_stopOfPassenger {l : Launch} {X : fw_X} {M : fw_M} {a1 : Int32} (hlt : l.stackTraces = false)  {o : fw_O} (hF : F_X8_stopOfPassenger M a1 = some o) : ct_i l X yX8_stopOfPassenger cX8_stopOfPassenger 2 (some .int) ({ frames := 8, cells := 1, slots := 6, locals := 151 } : Room) M [.ref (fw_ad X 352), .int a1] o := by
  refine fw_open rfl (Nat.le_of_ble_eq_true rfl) (fun p e s m below meth c ls C hr hlk hnm hex hl B => ?_)
  have C : fr_C X p c cX8_stopOfPassenger 2 RX8 s m ([.ref (fw_ad X 352), .int a1] : List Value).toArray := C
  have hx := C.1.1
  have hb := C.1.2.1
  have hl : lv_has ls 2 [(0, .ref (fw_ad X 352)), (1, .int a1)] := hl
  unfold F_X8_stopOfPassenger at hF
  refine lv_aload_n hx hb dX8_stopOfPassenger_0 rfl (lv_at hl 0 rfl) ?_
  refine lv_iload_n hx hb dX8_stopOfPassenger_1 rfl (lv_at hl 1 rfl) ?_
  obtain ⟨oc, hf1, hF⟩ := bt_e hF
  refine fr_cVv (As := [.int a1]) (rest := []) C B (cm_X8_requirePassenger hlt hf1) ob_8 rfl yw_X8_requirePassenger wm_X8_218 rfl hl.1 rfl (Nat.le_of_ble_eq_true rfl) ⟨Nat.le_of_ble_eq_true rfl, Nat.le_of_ble_eq_true rfl⟩ ⟨Nat.le_of_ble_eq_true rfl, Nat.le_of_ble_eq_true rfl⟩ dX8_stopOfPassenger_2 (fr_thru C hex hlk (fun e9 M1 h => by subst h; exact (Option.some.inj hF).symm) (Nat.le_of_ble_eq_true rfl) (Nat.le_of_ble_eq_true rfl)) (fun M3 H locs ho9 B => ?_)
  subst ho9
  rw [bt_i] at hF
  refine lv_aload_n hx hb dX8_stopOfPassenger_5 rfl (lv_at hl 0 rfl) ?_
  refine gf_X8_12 C B dX8_stopOfPassenger_6 ?_
  refine gf_X8_171 C B is7_0 dX8_stopOfPassenger_9 ?_
  refine gf_X8_221 C B (is6_of is7_0) dX8_stopOfPassenger_12 ?_
  refine lv_iload_n hx hb dX8_stopOfPassenger_15 rfl (lv_at hl 1 rfl) ?_
  obtain ⟨c4, hF⟩ := of_g hF
  refine fr_ia C B (ar_6_1 (is6_of is7_0)) c4 dX8_stopOfPassenger_16 ?_
  exact fr_iret C B hr rfl hlk (by rw [← Option.some.inj hF]) (Nat.le_of_ble_eq_true rfl) (Nat.le_of_ble_eq_true rfl) dX8_stopOfPassenger_17
def F_X8_tramOfPassenger (M : fw_M) (a1 : Int32) : Option (fw_O) :=
  bd_t (F_X8_requirePassenger M a1) fun _ M3 =>
  if ix_i a1 8 then
  some (.inl (fw_ri M3 17 a1), M3)
  else none
set_option maxHeartbeats 4000000 in
set_option maxRecDepth 100000 in
theorem cm_X8_tramOfPassenger {l : Launch} {X : fw_X} {M : fw_M} {a1 : Int32} (hlt : l.stackTraces = false)  {o : fw_O} (hF : F_X8_tramOfPassenger M a1 = some o) : ct_i l X yX8_tramOfPassenger cX8_tramOfPassenger 2 (some .int) ({ frames := 8, cells := 1, slots := 6, locals := 151 } : Room) M [.ref (fw_ad X 352), .int a1] o := by
  refine fw_open rfl (Nat.le_of_ble_eq_true rfl) (fun p e s m below meth c ls C hr hlk hnm hex hl B => ?_)
  have C : fr_C X p c cX8_tramOfPassenger 2 RX8 s m ([.ref (fw_ad X 352), .int a1] : List Value).toArray := C
  have hx := C.1.1
  have hb := C.1.2.1
  have hl : lv_has ls 2 [(0, .ref (fw_ad X 352)), (1, .int a1)] := hl
  unfold F_X8_tramOfPassenger at hF
  refine lv_aload_n hx hb dX8_tramOfPassenger_0 rfl (lv_at hl 0 rfl) ?_
  refine lv_iload_n hx hb dX8_tramOfPassenger_1 rfl (lv_at hl 1 rfl) ?_
  obtain ⟨oc, hf1, hF⟩ := bt_e hF
  refine fr_cVv (As := [.int a1]) (rest := []) C B (cm_X8_requirePassenger hlt hf1) ob_8 rfl yw_X8_requirePassenger wm_X8_218 rfl hl.1 rfl (Nat.le_of_ble_eq_true rfl) ⟨Nat.le_of_ble_eq_true rfl, Nat.le_of_ble_eq_true rfl⟩ ⟨Nat.le_of_ble_eq_true rfl, Nat.le_of_ble_eq_true rfl⟩ dX8_tramOfPassenger_2 (fr_thru C hex hlk (fun e9 M1 h => by subst h; exact (Option.some.inj hF).symm) (Nat.le_of_ble_eq_true rfl) (Nat.le_of_ble_eq_true rfl)) (fun M3 H locs ho9 B => ?_)
  subst ho9
  rw [bt_i] at hF
  refine lv_aload_n hx hb dX8_tramOfPassenger_5 rfl (lv_at hl 0 rfl) ?_
  refine gf_X8_12 C B dX8_tramOfPassenger_6 ?_
  refine gf_X8_171 C B is7_0 dX8_tramOfPassenger_9 ?_
  refine gf_X8_224 C B (is6_of is7_0) dX8_tramOfPassenger_12 ?_
  refine lv_iload_n hx hb dX8_tramOfPassenger_15 rfl (lv_at hl 1 rfl) ?_
  obtain ⟨c4, hF⟩ := of_g hF
  refine fr_ia C B (ar_6_2 (is6_of is7_0)) c4 dX8_tramOfPassenger_16 ?_
  exact fr_iret C B hr rfl hlk (by rw [← Option.some.inj hF]) (Nat.le_of_ble_eq_true rfl) (Nat.le_of_ble_eq_true rfl) dX8_tramOfPassenger_17
def F_X8_ridesOf (M : fw_M) (a1 : Int32) : Option (fw_O) :=
  bd_t (F_X8_requirePassenger M a1) fun _ M3 =>
  if ix_i a1 8 then
  some (.inl (fw_ri M3 18 a1), M3)
  else none
set_option maxHeartbeats 4000000 in
set_option maxRecDepth 100000 in
theorem cm_X8_ridesOf {l : Launch} {X : fw_X} {M : fw_M} {a1 : Int32} (hlt : l.stackTraces = false)  {o : fw_O} (hF : F_X8_ridesOf M a1 = some o) : ct_i l X yX8_ridesOf cX8_ridesOf 2 (some .int) ({ frames := 8, cells := 1, slots := 6, locals := 151 } : Room) M [.ref (fw_ad X 352), .int a1] o := by
  refine fw_open rfl (Nat.le_of_ble_eq_true rfl) (fun p e s m below meth c ls C hr hlk hnm hex hl B => ?_)
  have C : fr_C X p c cX8_ridesOf 2 RX8 s m ([.ref (fw_ad X 352), .int a1] : List Value).toArray := C
  have hx := C.1.1
  have hb := C.1.2.1
  have hl : lv_has ls 2 [(0, .ref (fw_ad X 352)), (1, .int a1)] := hl
  unfold F_X8_ridesOf at hF
  refine lv_aload_n hx hb dX8_ridesOf_0 rfl (lv_at hl 0 rfl) ?_
  refine lv_iload_n hx hb dX8_ridesOf_1 rfl (lv_at hl 1 rfl) ?_
  obtain ⟨oc, hf1, hF⟩ := bt_e hF
  refine fr_cVv (As := [.int a1]) (rest := []) C B (cm_X8_requirePassenger hlt hf1) ob_8 rfl yw_X8_requirePassenger wm_X8_218 rfl hl.1 rfl (Nat.le_of_ble_eq_true rfl) ⟨Nat.le_of_ble_eq_true rfl, Nat.le_of_ble_eq_true rfl⟩ ⟨Nat.le_of_ble_eq_true rfl, Nat.le_of_ble_eq_true rfl⟩ dX8_ridesOf_2 (fr_thru C hex hlk (fun e9 M1 h => by subst h; exact (Option.some.inj hF).symm) (Nat.le_of_ble_eq_true rfl) (Nat.le_of_ble_eq_true rfl)) (fun M3 H locs ho9 B => ?_)
  subst ho9
  rw [bt_i] at hF
  refine lv_aload_n hx hb dX8_ridesOf_5 rfl (lv_at hl 0 rfl) ?_
  refine gf_X8_12 C B dX8_ridesOf_6 ?_
  refine gf_X8_171 C B is7_0 dX8_ridesOf_9 ?_
  refine gf_X8_227 C B (is6_of is7_0) dX8_ridesOf_12 ?_
  refine lv_iload_n hx hb dX8_ridesOf_15 rfl (lv_at hl 1 rfl) ?_
  obtain ⟨c4, hF⟩ := of_g hF
  refine fr_ia C B (ar_6_3 (is6_of is7_0)) c4 dX8_ridesOf_16 ?_
  exact fr_iret C B hr rfl hlk (by rw [← Option.some.inj hF]) (Nat.le_of_ble_eq_true rfl) (Nat.le_of_ble_eq_true rfl) dX8_ridesOf_17
def F_X8_isValidIn (M : fw_M) (a1 : Int32) (a2 : Int32) : Option (fw_O) :=
  bd_t (F_X8_requirePassenger M a1) fun _ M3 =>
  bd_x (F_X8_isZone M3 a2) fun r5 =>
  if ¬ r5 = 0 then
    bd_x (F_X6_hasZone M3 15 a1 a2) fun r9 =>
    if (r9 = 0 ∨ r9 = 1) then
    some (.inl r9, M3)
    else none
  else
    some (.inr 1, M3)
set_option maxHeartbeats 4000000 in
set_option maxRecDepth 100000 in
theorem cm_X8_isValidIn {l : Launch} {X : fw_X} {M : fw_M} {a1 : Int32} {a2 : Int32} (hlt : l.stackTraces = false)  {o : fw_O} (hF : F_X8_isValidIn M a1 a2 = some o) : ct_i l X yX8_isValidIn cX8_isValidIn 3 (some .boolean) ({ frames := 8, cells := 2, slots := 12, locals := 151 } : Room) M [.ref (fw_ad X 352), .int a1, .int a2] o := by
  refine fw_open rfl (Nat.le_of_ble_eq_true rfl) (fun p e s m below meth c ls C hr hlk hnm hex hl B => ?_)
  have C : fr_C X p c cX8_isValidIn 3 RX8 s m ([.ref (fw_ad X 352), .int a1, .int a2] : List Value).toArray := C
  have hx := C.1.1
  have hb := C.1.2.1
  have hl : lv_has ls 3 [(0, .ref (fw_ad X 352)), (1, .int a1), (2, .int a2)] := hl
  unfold F_X8_isValidIn at hF
  refine lv_aload_n hx hb dX8_isValidIn_0 rfl (lv_at hl 0 rfl) ?_
  refine lv_iload_n hx hb dX8_isValidIn_1 rfl (lv_at hl 1 rfl) ?_
  obtain ⟨oc, hf1, hF⟩ := bt_e hF
  refine fr_cVv (As := [.int a1]) (rest := []) C B (cm_X8_requirePassenger hlt hf1) ob_8 rfl yw_X8_requirePassenger wm_X8_218 rfl hl.1 rfl (Nat.le_of_ble_eq_true rfl) ⟨Nat.le_of_ble_eq_true rfl, Nat.le_of_ble_eq_true rfl⟩ ⟨Nat.le_of_ble_eq_true rfl, Nat.le_of_ble_eq_true rfl⟩ dX8_isValidIn_2 (fr_thru C hex hlk (fun e9 M1 h => by subst h; exact (Option.some.inj hF).symm) (Nat.le_of_ble_eq_true rfl) (Nat.le_of_ble_eq_true rfl)) (fun M3 H locs ho9 B => ?_)
  subst ho9
  rw [bt_i] at hF
  refine lv_iload_n hx hb dX8_isValidIn_5 rfl (lv_at hl 2 rfl) ?_
  obtain ⟨r5, hf4, hF⟩ := bx_e hF
  refine fr_cSi (As := [.int a2]) (rest := []) C B (cm_X8_isZone hf4) yw_X8_isZone wm_X8_230 rfl hl.1 rfl (Nat.le_of_ble_eq_true rfl) ⟨Nat.le_of_ble_eq_true rfl, Nat.le_of_ble_eq_true rfl⟩ ⟨Nat.le_of_ble_eq_true rfl, Nat.le_of_ble_eq_true rfl⟩ dX8_isValidIn_6 (fr_nx rfl) (fun r9 M9 H locs ho9 B => ?_)
  obtain ⟨rfl, rfl⟩ := oi_e ho9
  refine lv_if_ne (tgt := 22) hx hb dX8_isValidIn_9 (by decide) (fun c7 => ?_) (fun c7 => ?_)
  · have hF := it_t hF c7
    refine lv_aload_n hx hb dX8_isValidIn_22 rfl (lv_at hl 0 rfl) ?_
    refine gf_X8_12 C B dX8_isValidIn_23 ?_
    refine gf_X8_171 C B is7_0 dX8_isValidIn_26 ?_
    refine lv_iload_n hx hb dX8_isValidIn_29 rfl (lv_at hl 1 rfl) ?_
    refine lv_iload_n hx hb dX8_isValidIn_30 rfl (lv_at hl 2 rfl) ?_
    obtain ⟨r9, hf8, hF⟩ := bx_e hF
    refine fr_cVi (As := [.int a1, .int a2]) (rest := []) C B (cm_X6_hasZone (is6_of is7_0) hf8) (ob_6 (is6_of is7_0)) rfl yw_X6_hasZone wm_X8_238 rfl hl.1 rfl (Nat.le_of_ble_eq_true rfl) ⟨Nat.le_of_ble_eq_true rfl, Nat.le_of_ble_eq_true rfl⟩ ⟨Nat.le_of_ble_eq_true rfl, Nat.le_of_ble_eq_true rfl⟩ dX8_isValidIn_31 (fr_nx rfl) (fun r9 M9 H locs ho9 B => ?_)
    obtain ⟨rfl, rfl⟩ := oi_e ho9
    obtain ⟨c11, hF⟩ := of_g hF
    exact fr_iret C B hr (nz_b c11) hlk (by rw [← Option.some.inj hF]) (Nat.le_of_ble_eq_true rfl) (Nat.le_of_ble_eq_true rfl) dX8_isValidIn_34
  · have hF := it_f hF (not_not_intro c7)
    exact fr_throw C B hlt hex hlk (n := 1) (id := 62) (text := "no such zone") xt_X8_1 (by decide +kernel) (by rw [← Option.some.inj hF]) hl.1 (Nat.le_of_ble_eq_true rfl) (Nat.le_of_ble_eq_true rfl) (Nat.le_of_ble_eq_true rfl) (Nat.le_of_ble_eq_true rfl) (Nat.le_of_ble_eq_true rfl) (Nat.le_of_ble_eq_true rfl) dX8_isValidIn_12 dX8_isValidIn_15 dX8_isValidIn_16 dX8_isValidIn_18 dX8_isValidIn_21
def F_X8_canBoard (M : fw_M) (a1 : Int32) (a2 : Int32) : Option (fw_O) :=
  bd_t (F_X8_requirePassenger M a1) fun _ M3 =>
  bd_t (F_X8_requireTram M3 a2) fun _ M6 =>
  bd_x (F_X7_faultOfBoarding M6 0 a1 a2) fun r8 =>
  if ¬ r8 = 0 then
    some (.inl 0, M6)
  else
    some (.inl 1, M6)
set_option maxHeartbeats 4000000 in
set_option maxRecDepth 100000 in
theorem cm_X8_canBoard {l : Launch} {X : fw_X} {M : fw_M} {a1 : Int32} {a2 : Int32} (hlt : l.stackTraces = false)  {o : fw_O} (hF : F_X8_canBoard M a1 a2 = some o) : ct_i l X yX8_canBoard cX8_canBoard 3 (some .boolean) ({ frames := 8, cells := 2, slots := 12, locals := 151 } : Room) M [.ref (fw_ad X 352), .int a1, .int a2] o := by
  refine fw_open rfl (Nat.le_of_ble_eq_true rfl) (fun p e s m below meth c ls C hr hlk hnm hex hl B => ?_)
  have C : fr_C X p c cX8_canBoard 3 RX8 s m ([.ref (fw_ad X 352), .int a1, .int a2] : List Value).toArray := C
  have hx := C.1.1
  have hb := C.1.2.1
  have hl : lv_has ls 3 [(0, .ref (fw_ad X 352)), (1, .int a1), (2, .int a2)] := hl
  unfold F_X8_canBoard at hF
  refine lv_aload_n hx hb dX8_canBoard_0 rfl (lv_at hl 0 rfl) ?_
  refine lv_iload_n hx hb dX8_canBoard_1 rfl (lv_at hl 1 rfl) ?_
  obtain ⟨oc, hf1, hF⟩ := bt_e hF
  refine fr_cVv (As := [.int a1]) (rest := []) C B (cm_X8_requirePassenger hlt hf1) ob_8 rfl yw_X8_requirePassenger wm_X8_218 rfl hl.1 rfl (Nat.le_of_ble_eq_true rfl) ⟨Nat.le_of_ble_eq_true rfl, Nat.le_of_ble_eq_true rfl⟩ ⟨Nat.le_of_ble_eq_true rfl, Nat.le_of_ble_eq_true rfl⟩ dX8_canBoard_2 (fr_thru C hex hlk (fun e9 M1 h => by subst h; exact (Option.some.inj hF).symm) (Nat.le_of_ble_eq_true rfl) (Nat.le_of_ble_eq_true rfl)) (fun M3 H locs ho9 B => ?_)
  subst ho9
  rw [bt_i] at hF
  refine lv_aload_n hx hb dX8_canBoard_5 rfl (lv_at hl 0 rfl) ?_
  refine lv_iload_n hx hb dX8_canBoard_6 rfl (lv_at hl 2 rfl) ?_
  obtain ⟨oc, hf4, hF⟩ := bt_e hF
  refine fr_cVv (As := [.int a2]) (rest := []) C B (cm_X8_requireTram hlt hf4) ob_8 rfl yw_X8_requireTram wm_X8_159 rfl hl.1 rfl (Nat.le_of_ble_eq_true rfl) ⟨Nat.le_of_ble_eq_true rfl, Nat.le_of_ble_eq_true rfl⟩ ⟨Nat.le_of_ble_eq_true rfl, Nat.le_of_ble_eq_true rfl⟩ dX8_canBoard_7 (fr_thru C hex hlk (fun e9 M1 h => by subst h; exact (Option.some.inj hF).symm) (Nat.le_of_ble_eq_true rfl) (Nat.le_of_ble_eq_true rfl)) (fun M6 H locs ho9 B => ?_)
  subst ho9
  rw [bt_i] at hF
  refine lv_aload_n hx hb dX8_canBoard_10 rfl (lv_at hl 0 rfl) ?_
  refine gf_X8_12 C B dX8_canBoard_11 ?_
  refine lv_iload_n hx hb dX8_canBoard_14 rfl (lv_at hl 1 rfl) ?_
  refine lv_iload_n hx hb dX8_canBoard_15 rfl (lv_at hl 2 rfl) ?_
  obtain ⟨r8, hf7, hF⟩ := bx_e hF
  refine fr_cVi (As := [.int a1, .int a2]) (rest := []) C B (cm_X7_faultOfBoarding is7_0 hf7) (ob_7 is7_0) rfl yw_X7_faultOfBoarding wm_X8_204 rfl hl.1 rfl (Nat.le_of_ble_eq_true rfl) ⟨Nat.le_of_ble_eq_true rfl, Nat.le_of_ble_eq_true rfl⟩ ⟨Nat.le_of_ble_eq_true rfl, Nat.le_of_ble_eq_true rfl⟩ dX8_canBoard_16 (fr_nx rfl) (fun r9 M9 H locs ho9 B => ?_)
  obtain ⟨rfl, rfl⟩ := oi_e ho9
  refine lv_if_ne (tgt := 26) hx hb dX8_canBoard_19 (by decide) (fun c10 => ?_) (fun c10 => ?_)
  · have hF := it_t hF c10
    refine lv_iconst (v := 0) hx hb dX8_canBoard_26 (by decide) ?_
    exact fr_iret C B hr rfl hlk (by rw [← Option.some.inj hF]) (Nat.le_of_ble_eq_true rfl) (Nat.le_of_ble_eq_true rfl) dX8_canBoard_27
  · have hF := it_f hF (not_not_intro c10)
    refine lv_iconst (v := 1) hx hb dX8_canBoard_22 (by decide) ?_
    refine lv_goto (tgt := 27) hx hb dX8_canBoard_23 (by decide) ?_
    exact fr_iret C B hr rfl hlk (by rw [← Option.some.inj hF]) (Nat.le_of_ble_eq_true rfl) (Nat.le_of_ble_eq_true rfl) dX8_canBoard_27
def F_X8_isTransfer (M : fw_M) (a1 : Int32) (a2 : Int32) : Option (fw_O) :=
  bd_t (F_X8_requirePassenger M a1) fun _ M3 =>
  bd_t (F_X8_requireLine M3 a2) fun _ M6 =>
  bd_x (F_X7_wouldTransfer M6 0 a1 a2) fun r8 =>
  if (r8 = 0 ∨ r8 = 1) then
  some (.inl r8, M6)
  else none
set_option maxHeartbeats 4000000 in
set_option maxRecDepth 100000 in
theorem cm_X8_isTransfer {l : Launch} {X : fw_X} {M : fw_M} {a1 : Int32} {a2 : Int32} (hlt : l.stackTraces = false)  {o : fw_O} (hF : F_X8_isTransfer M a1 a2 = some o) : ct_i l X yX8_isTransfer cX8_isTransfer 3 (some .boolean) ({ frames := 8, cells := 2, slots := 12, locals := 151 } : Room) M [.ref (fw_ad X 352), .int a1, .int a2] o := by
  refine fw_open rfl (Nat.le_of_ble_eq_true rfl) (fun p e s m below meth c ls C hr hlk hnm hex hl B => ?_)
  have C : fr_C X p c cX8_isTransfer 3 RX8 s m ([.ref (fw_ad X 352), .int a1, .int a2] : List Value).toArray := C
  have hx := C.1.1
  have hb := C.1.2.1
  have hl : lv_has ls 3 [(0, .ref (fw_ad X 352)), (1, .int a1), (2, .int a2)] := hl
  unfold F_X8_isTransfer at hF
  refine lv_aload_n hx hb dX8_isTransfer_0 rfl (lv_at hl 0 rfl) ?_
  refine lv_iload_n hx hb dX8_isTransfer_1 rfl (lv_at hl 1 rfl) ?_
  obtain ⟨oc, hf1, hF⟩ := bt_e hF
  refine fr_cVv (As := [.int a1]) (rest := []) C B (cm_X8_requirePassenger hlt hf1) ob_8 rfl yw_X8_requirePassenger wm_X8_218 rfl hl.1 rfl (Nat.le_of_ble_eq_true rfl) ⟨Nat.le_of_ble_eq_true rfl, Nat.le_of_ble_eq_true rfl⟩ ⟨Nat.le_of_ble_eq_true rfl, Nat.le_of_ble_eq_true rfl⟩ dX8_isTransfer_2 (fr_thru C hex hlk (fun e9 M1 h => by subst h; exact (Option.some.inj hF).symm) (Nat.le_of_ble_eq_true rfl) (Nat.le_of_ble_eq_true rfl)) (fun M3 H locs ho9 B => ?_)
  subst ho9
  rw [bt_i] at hF
  refine lv_aload_n hx hb dX8_isTransfer_5 rfl (lv_at hl 0 rfl) ?_
  refine lv_iload_n hx hb dX8_isTransfer_6 rfl (lv_at hl 2 rfl) ?_
  obtain ⟨oc, hf4, hF⟩ := bt_e hF
  refine fr_cVv (As := [.int a2]) (rest := []) C B (cm_X8_requireLine hlt hf4) ob_8 rfl yw_X8_requireLine wm_X8_112 rfl hl.1 rfl (Nat.le_of_ble_eq_true rfl) ⟨Nat.le_of_ble_eq_true rfl, Nat.le_of_ble_eq_true rfl⟩ ⟨Nat.le_of_ble_eq_true rfl, Nat.le_of_ble_eq_true rfl⟩ dX8_isTransfer_7 (fr_thru C hex hlk (fun e9 M1 h => by subst h; exact (Option.some.inj hF).symm) (Nat.le_of_ble_eq_true rfl) (Nat.le_of_ble_eq_true rfl)) (fun M6 H locs ho9 B => ?_)
  subst ho9
  rw [bt_i] at hF
  refine lv_aload_n hx hb dX8_isTransfer_10 rfl (lv_at hl 0 rfl) ?_
  refine gf_X8_12 C B dX8_isTransfer_11 ?_
  refine lv_iload_n hx hb dX8_isTransfer_14 rfl (lv_at hl 1 rfl) ?_
  refine lv_iload_n hx hb dX8_isTransfer_15 rfl (lv_at hl 2 rfl) ?_
  obtain ⟨r8, hf7, hF⟩ := bx_e hF
  refine fr_cVi (As := [.int a1, .int a2]) (rest := []) C B (cm_X7_wouldTransfer is7_0 hf7) (ob_7 is7_0) rfl yw_X7_wouldTransfer wm_X8_241 rfl hl.1 rfl (Nat.le_of_ble_eq_true rfl) ⟨Nat.le_of_ble_eq_true rfl, Nat.le_of_ble_eq_true rfl⟩ ⟨Nat.le_of_ble_eq_true rfl, Nat.le_of_ble_eq_true rfl⟩ dX8_isTransfer_16 (fr_nx rfl) (fun r9 M9 H locs ho9 B => ?_)
  obtain ⟨rfl, rfl⟩ := oi_e ho9
  obtain ⟨c10, hF⟩ := of_g hF
  exact fr_iret C B hr (nz_b c10) hlk (by rw [← Option.some.inj hF]) (Nat.le_of_ble_eq_true rfl) (Nat.le_of_ble_eq_true rfl) dX8_isTransfer_19
def F_X8_addSecret (M : fw_M) (a1 : Int32) : Option (fw_O) :=
  bd_x (F_X7_faultOfSecret M 0 a1) fun r2 =>
  bd_t (F_X8_refuse M r2) fun _ M6 =>
  bd_x (F_X4_remember M6 0) fun M9 =>
  bd_p (F_X2_putSecret M9 22 a1) fun r11 M12 =>
  some (.inl r11, M12)
set_option maxHeartbeats 4000000 in
set_option maxRecDepth 100000 in
theorem cm_X8_addSecret {l : Launch} {X : fw_X} {M : fw_M} {a1 : Int32} (hlt : l.stackTraces = false)  {o : fw_O} (hF : F_X8_addSecret M a1 = some o) : ct_i l X yX8_addSecret cX8_addSecret 2 (some .int) ({ frames := 8, cells := 1, slots := 6, locals := 150 } : Room) M [.ref (fw_ad X 352), .int a1] o := by
  refine fw_open rfl (Nat.le_of_ble_eq_true rfl) (fun p e s m below meth c ls C hr hlk hnm hex hl B => ?_)
  have C : fr_C X p c cX8_addSecret 2 RX8 s m ([.ref (fw_ad X 352), .int a1] : List Value).toArray := C
  have hx := C.1.1
  have hb := C.1.2.1
  have hl : lv_has ls 2 [(0, .ref (fw_ad X 352)), (1, .int a1)] := hl
  unfold F_X8_addSecret at hF
  refine lv_aload_n hx hb dX8_addSecret_0 rfl (lv_at hl 0 rfl) ?_
  refine gf_X8_12 C B dX8_addSecret_1 ?_
  refine lv_iload_n hx hb dX8_addSecret_4 rfl (lv_at hl 1 rfl) ?_
  obtain ⟨r2, hf1, hF⟩ := bx_e hF
  refine fr_cVi (As := [.int a1]) (rest := []) C B (cm_X7_faultOfSecret is7_0 hf1) (ob_7 is7_0) rfl yw_X7_faultOfSecret wm_X8_244 rfl hl.1 rfl (Nat.le_of_ble_eq_true rfl) ⟨Nat.le_of_ble_eq_true rfl, Nat.le_of_ble_eq_true rfl⟩ ⟨Nat.le_of_ble_eq_true rfl, Nat.le_of_ble_eq_true rfl⟩ dX8_addSecret_5 (fr_nx rfl) (fun r9 M9 H locs ho9 B => ?_)
  obtain ⟨rfl, rfl⟩ := oi_e ho9
  obtain ⟨oc, hf4, hF⟩ := bt_e hF
  refine fr_cSv (As := [.int r2]) (rest := []) C B (cm_X8_refuse hlt hf4) yw_X8_refuse wm_X8_65 rfl hl.1 rfl (Nat.le_of_ble_eq_true rfl) ⟨Nat.le_of_ble_eq_true rfl, Nat.le_of_ble_eq_true rfl⟩ ⟨Nat.le_of_ble_eq_true rfl, Nat.le_of_ble_eq_true rfl⟩ dX8_addSecret_8 (fr_thru C hex hlk (fun e9 M1 h => by subst h; exact (Option.some.inj hF).symm) (Nat.le_of_ble_eq_true rfl) (Nat.le_of_ble_eq_true rfl)) (fun M6 H locs ho9 B => ?_)
  subst ho9
  rw [bt_i] at hF
  refine lv_aload_n hx hb dX8_addSecret_11 rfl (lv_at hl 0 rfl) ?_
  refine gf_X8_25 C B dX8_addSecret_12 ?_
  refine lv_aload_n hx hb dX8_addSecret_15 rfl (lv_at hl 0 rfl) ?_
  refine gf_X8_12 C B dX8_addSecret_16 ?_
  obtain ⟨M9, hf7, hF⟩ := bx_e hF
  refine fr_cVv (As := [.ref (fw_ad X 0)]) (rest := []) C B (cm_X4_remember is7_0 hf7) ob_4 rfl yw_X4_remember wm_X8_69 rfl hl.1 rfl (Nat.le_of_ble_eq_true rfl) ⟨Nat.le_of_ble_eq_true rfl, Nat.le_of_ble_eq_true rfl⟩ ⟨Nat.le_of_ble_eq_true rfl, Nat.le_of_ble_eq_true rfl⟩ dX8_addSecret_19 (fr_nx rfl) (fun M9 H locs ho9 B => ?_)
  obtain ⟨-, rfl⟩ := oi_e ho9
  refine lv_aload_n hx hb dX8_addSecret_22 rfl (lv_at hl 0 rfl) ?_
  refine gf_X8_12 C B dX8_addSecret_23 ?_
  refine gf_X8_247 C B is7_0 dX8_addSecret_26 ?_
  refine lv_iload_n hx hb dX8_addSecret_29 rfl (lv_at hl 1 rfl) ?_
  obtain ⟨r11, M12, hf10, hF⟩ := bp_e hF
  refine fr_cVi (As := [.int a1]) (rest := []) C B (cm_X2_putSecret (is2_of is7_0) hf10) (ob_2 (is2_of is7_0)) rfl yw_X2_putSecret wm_X8_251 rfl hl.1 rfl (Nat.le_of_ble_eq_true rfl) ⟨Nat.le_of_ble_eq_true rfl, Nat.le_of_ble_eq_true rfl⟩ ⟨Nat.le_of_ble_eq_true rfl, Nat.le_of_ble_eq_true rfl⟩ dX8_addSecret_30 (fr_nx rfl) (fun r9 M9 H locs ho9 B => ?_)
  obtain ⟨rfl, rfl⟩ := oi_e ho9
  exact fr_iret C B hr rfl hlk (by rw [← Option.some.inj hF]) (Nat.le_of_ble_eq_true rfl) (Nat.le_of_ble_eq_true rfl) dX8_addSecret_33
def F_X8_whisper (M : fw_M) (a1 : Int32) (a2 : Int32) : Option (fw_O) :=
  bd_x (F_X7_faultOfWhisper M 0 a1 a2) fun r2 =>
  bd_t (F_X8_refuse M r2) fun _ M6 =>
  bd_x (F_X4_remember M6 0) fun M9 =>
  bd_p (F_X7_spread M9 0 a1 a2) fun r11 M12 =>
  some (.inl r11, M12)
set_option maxHeartbeats 4000000 in
set_option maxRecDepth 100000 in
theorem cm_X8_whisper {l : Launch} {X : fw_X} {M : fw_M} {a1 : Int32} {a2 : Int32} (hlt : l.stackTraces = false)  {o : fw_O} (hF : F_X8_whisper M a1 a2 = some o) : ct_i l X yX8_whisper cX8_whisper 3 (some .int) ({ frames := 8, cells := 1, slots := 6, locals := 150 } : Room) M [.ref (fw_ad X 352), .int a1, .int a2] o := by
  refine fw_open rfl (Nat.le_of_ble_eq_true rfl) (fun p e s m below meth c ls C hr hlk hnm hex hl B => ?_)
  have C : fr_C X p c cX8_whisper 3 RX8 s m ([.ref (fw_ad X 352), .int a1, .int a2] : List Value).toArray := C
  have hx := C.1.1
  have hb := C.1.2.1
  have hl : lv_has ls 3 [(0, .ref (fw_ad X 352)), (1, .int a1), (2, .int a2)] := hl
  unfold F_X8_whisper at hF
  refine lv_aload_n hx hb dX8_whisper_0 rfl (lv_at hl 0 rfl) ?_
  refine gf_X8_12 C B dX8_whisper_1 ?_
  refine lv_iload_n hx hb dX8_whisper_4 rfl (lv_at hl 1 rfl) ?_
  refine lv_iload_n hx hb dX8_whisper_5 rfl (lv_at hl 2 rfl) ?_
  obtain ⟨r2, hf1, hF⟩ := bx_e hF
  refine fr_cVi (As := [.int a1, .int a2]) (rest := []) C B (cm_X7_faultOfWhisper is7_0 hf1) (ob_7 is7_0) rfl yw_X7_faultOfWhisper wm_X8_256 rfl hl.1 rfl (Nat.le_of_ble_eq_true rfl) ⟨Nat.le_of_ble_eq_true rfl, Nat.le_of_ble_eq_true rfl⟩ ⟨Nat.le_of_ble_eq_true rfl, Nat.le_of_ble_eq_true rfl⟩ dX8_whisper_6 (fr_nx rfl) (fun r9 M9 H locs ho9 B => ?_)
  obtain ⟨rfl, rfl⟩ := oi_e ho9
  obtain ⟨oc, hf4, hF⟩ := bt_e hF
  refine fr_cSv (As := [.int r2]) (rest := []) C B (cm_X8_refuse hlt hf4) yw_X8_refuse wm_X8_65 rfl hl.1 rfl (Nat.le_of_ble_eq_true rfl) ⟨Nat.le_of_ble_eq_true rfl, Nat.le_of_ble_eq_true rfl⟩ ⟨Nat.le_of_ble_eq_true rfl, Nat.le_of_ble_eq_true rfl⟩ dX8_whisper_9 (fr_thru C hex hlk (fun e9 M1 h => by subst h; exact (Option.some.inj hF).symm) (Nat.le_of_ble_eq_true rfl) (Nat.le_of_ble_eq_true rfl)) (fun M6 H locs ho9 B => ?_)
  subst ho9
  rw [bt_i] at hF
  refine lv_aload_n hx hb dX8_whisper_12 rfl (lv_at hl 0 rfl) ?_
  refine gf_X8_25 C B dX8_whisper_13 ?_
  refine lv_aload_n hx hb dX8_whisper_16 rfl (lv_at hl 0 rfl) ?_
  refine gf_X8_12 C B dX8_whisper_17 ?_
  obtain ⟨M9, hf7, hF⟩ := bx_e hF
  refine fr_cVv (As := [.ref (fw_ad X 0)]) (rest := []) C B (cm_X4_remember is7_0 hf7) ob_4 rfl yw_X4_remember wm_X8_69 rfl hl.1 rfl (Nat.le_of_ble_eq_true rfl) ⟨Nat.le_of_ble_eq_true rfl, Nat.le_of_ble_eq_true rfl⟩ ⟨Nat.le_of_ble_eq_true rfl, Nat.le_of_ble_eq_true rfl⟩ dX8_whisper_20 (fr_nx rfl) (fun M9 H locs ho9 B => ?_)
  obtain ⟨-, rfl⟩ := oi_e ho9
  refine lv_aload_n hx hb dX8_whisper_23 rfl (lv_at hl 0 rfl) ?_
  refine gf_X8_12 C B dX8_whisper_24 ?_
  refine lv_iload_n hx hb dX8_whisper_27 rfl (lv_at hl 1 rfl) ?_
  refine lv_iload_n hx hb dX8_whisper_28 rfl (lv_at hl 2 rfl) ?_
  obtain ⟨r11, M12, hf10, hF⟩ := bp_e hF
  refine fr_cVi (As := [.int a1, .int a2]) (rest := []) C B (cm_X7_spread is7_0 hf10) (ob_7 is7_0) rfl yw_X7_spread wm_X8_259 rfl hl.1 rfl (Nat.le_of_ble_eq_true rfl) ⟨Nat.le_of_ble_eq_true rfl, Nat.le_of_ble_eq_true rfl⟩ ⟨Nat.le_of_ble_eq_true rfl, Nat.le_of_ble_eq_true rfl⟩ dX8_whisper_29 (fr_nx rfl) (fun r9 M9 H locs ho9 B => ?_)
  obtain ⟨rfl, rfl⟩ := oi_e ho9
  exact fr_iret C B hr rfl hlk (by rw [← Option.some.inj hF]) (Nat.le_of_ble_eq_true rfl) (Nat.le_of_ble_eq_true rfl) dX8_whisper_32
