def F_X8_carrierOf (M : fw_M) (a1 : Int32) : Option (fw_O) :=
  bd_t (F_X8_requireSecret M a1) fun _ M3 =>
  if ix_i a1 6 then
  some (.inl (fw_ri M3 23 a1), M3)
  else none
set_option maxHeartbeats 4000000 in
set_option maxRecDepth 100000 in
theorem cm_X8_carrierOf {l : Launch} {X : fw_X} {M : fw_M} {a1 : Int32} (hlt : l.stackTraces = false)  {o : fw_O} (hF : F_X8_carrierOf M a1 = some o) : ct_i l X yX8_carrierOf cX8_carrierOf 2 (some .int) ({ frames := 8, cells := 1, slots := 6, locals := 151 } : Room) M [.ref (fw_ad X 352), .int a1] o := by
  refine fw_open rfl (Nat.le_of_ble_eq_true rfl) (fun p e s m below meth c ls C hr hlk hnm hex hl B => ?_)
  have C : fr_C X p c cX8_carrierOf 2 RX8 s m ([.ref (fw_ad X 352), .int a1] : List Value).toArray := C
  have hx := C.1.1
  have hb := C.1.2.1
  have hl : lv_has ls 2 [(0, .ref (fw_ad X 352)), (1, .int a1)] := hl
  unfold F_X8_carrierOf at hF
  refine lv_aload_n hx hb dX8_carrierOf_0 rfl (lv_at hl 0 rfl) ?_
  refine lv_iload_n hx hb dX8_carrierOf_1 rfl (lv_at hl 1 rfl) ?_
  obtain ⟨oc, hf1, hF⟩ := bt_e hF
  refine fr_cVv (As := [.int a1]) (rest := []) C B (cm_X8_requireSecret hlt hf1) ob_8 rfl yw_X8_requireSecret wm_X8_263 rfl hl.1 rfl (Nat.le_of_ble_eq_true rfl) ⟨Nat.le_of_ble_eq_true rfl, Nat.le_of_ble_eq_true rfl⟩ ⟨Nat.le_of_ble_eq_true rfl, Nat.le_of_ble_eq_true rfl⟩ dX8_carrierOf_2 (fr_thru C hex hlk (fun e9 M1 h => by subst h; exact (Option.some.inj hF).symm) (Nat.le_of_ble_eq_true rfl) (Nat.le_of_ble_eq_true rfl)) (fun M3 H locs ho9 B => ?_)
  subst ho9
  rw [bt_i] at hF
  refine lv_aload_n hx hb dX8_carrierOf_5 rfl (lv_at hl 0 rfl) ?_
  refine gf_X8_12 C B dX8_carrierOf_6 ?_
  refine gf_X8_247 C B is7_0 dX8_carrierOf_9 ?_
  refine gf_X8_266 C B (is2_of is7_0) dX8_carrierOf_12 ?_
  refine lv_iload_n hx hb dX8_carrierOf_15 rfl (lv_at hl 1 rfl) ?_
  obtain ⟨c4, hF⟩ := of_g hF
  refine fr_ia C B (ar_2_1 (is2_of is7_0)) c4 dX8_carrierOf_16 ?_
  exact fr_iret C B hr rfl hlk (by rw [← Option.some.inj hF]) (Nat.le_of_ble_eq_true rfl) (Nat.le_of_ble_eq_true rfl) dX8_carrierOf_17
def F_X8_isTruth (M : fw_M) (a1 : Int32) : Option (fw_O) :=
  bd_t (F_X8_requireSecret M a1) fun _ M3 =>
  bd_x (F_X2_isOut M3 22 a1) fun r5 =>
  if (r5 = 0 ∨ r5 = 1) then
  some (.inl r5, M3)
  else none
set_option maxHeartbeats 4000000 in
set_option maxRecDepth 100000 in
theorem cm_X8_isTruth {l : Launch} {X : fw_X} {M : fw_M} {a1 : Int32} (hlt : l.stackTraces = false)  {o : fw_O} (hF : F_X8_isTruth M a1 = some o) : ct_i l X yX8_isTruth cX8_isTruth 2 (some .boolean) ({ frames := 8, cells := 1, slots := 6, locals := 151 } : Room) M [.ref (fw_ad X 352), .int a1] o := by
  refine fw_open rfl (Nat.le_of_ble_eq_true rfl) (fun p e s m below meth c ls C hr hlk hnm hex hl B => ?_)
  have C : fr_C X p c cX8_isTruth 2 RX8 s m ([.ref (fw_ad X 352), .int a1] : List Value).toArray := C
  have hx := C.1.1
  have hb := C.1.2.1
  have hl : lv_has ls 2 [(0, .ref (fw_ad X 352)), (1, .int a1)] := hl
  unfold F_X8_isTruth at hF
  refine lv_aload_n hx hb dX8_isTruth_0 rfl (lv_at hl 0 rfl) ?_
  refine lv_iload_n hx hb dX8_isTruth_1 rfl (lv_at hl 1 rfl) ?_
  obtain ⟨oc, hf1, hF⟩ := bt_e hF
  refine fr_cVv (As := [.int a1]) (rest := []) C B (cm_X8_requireSecret hlt hf1) ob_8 rfl yw_X8_requireSecret wm_X8_263 rfl hl.1 rfl (Nat.le_of_ble_eq_true rfl) ⟨Nat.le_of_ble_eq_true rfl, Nat.le_of_ble_eq_true rfl⟩ ⟨Nat.le_of_ble_eq_true rfl, Nat.le_of_ble_eq_true rfl⟩ dX8_isTruth_2 (fr_thru C hex hlk (fun e9 M1 h => by subst h; exact (Option.some.inj hF).symm) (Nat.le_of_ble_eq_true rfl) (Nat.le_of_ble_eq_true rfl)) (fun M3 H locs ho9 B => ?_)
  subst ho9
  rw [bt_i] at hF
  refine lv_aload_n hx hb dX8_isTruth_5 rfl (lv_at hl 0 rfl) ?_
  refine gf_X8_12 C B dX8_isTruth_6 ?_
  refine gf_X8_247 C B is7_0 dX8_isTruth_9 ?_
  refine lv_iload_n hx hb dX8_isTruth_12 rfl (lv_at hl 1 rfl) ?_
  obtain ⟨r5, hf4, hF⟩ := bx_e hF
  refine fr_cVi (As := [.int a1]) (rest := []) C B (cm_X2_isOut (is2_of is7_0) hf4) (ob_2 (is2_of is7_0)) rfl yw_X2_isOut wm_X8_269 rfl hl.1 rfl (Nat.le_of_ble_eq_true rfl) ⟨Nat.le_of_ble_eq_true rfl, Nat.le_of_ble_eq_true rfl⟩ ⟨Nat.le_of_ble_eq_true rfl, Nat.le_of_ble_eq_true rfl⟩ dX8_isTruth_13 (fr_nx rfl) (fun r9 M9 H locs ho9 B => ?_)
  obtain ⟨rfl, rfl⟩ := oi_e ho9
  obtain ⟨c7, hF⟩ := of_g hF
  exact fr_iret C B hr (nz_b c7) hlk (by rw [← Option.some.inj hF]) (Nat.le_of_ble_eq_true rfl) (Nat.le_of_ble_eq_true rfl) dX8_isTruth_16
def F_X8_knows (M : fw_M) (a1 : Int32) (a2 : Int32) : Option (fw_O) :=
  bd_t (F_X8_requirePassenger M a1) fun _ M3 =>
  bd_t (F_X8_requireSecret M3 a2) fun _ M6 =>
  bd_x (F_X2_hasHeard M6 22 a1 a2) fun r8 =>
  if (r8 = 0 ∨ r8 = 1) then
  some (.inl r8, M6)
  else none
set_option maxHeartbeats 4000000 in
set_option maxRecDepth 100000 in
theorem cm_X8_knows {l : Launch} {X : fw_X} {M : fw_M} {a1 : Int32} {a2 : Int32} (hlt : l.stackTraces = false)  {o : fw_O} (hF : F_X8_knows M a1 a2 = some o) : ct_i l X yX8_knows cX8_knows 3 (some .boolean) ({ frames := 8, cells := 2, slots := 12, locals := 151 } : Room) M [.ref (fw_ad X 352), .int a1, .int a2] o := by
  refine fw_open rfl (Nat.le_of_ble_eq_true rfl) (fun p e s m below meth c ls C hr hlk hnm hex hl B => ?_)
  have C : fr_C X p c cX8_knows 3 RX8 s m ([.ref (fw_ad X 352), .int a1, .int a2] : List Value).toArray := C
  have hx := C.1.1
  have hb := C.1.2.1
  have hl : lv_has ls 3 [(0, .ref (fw_ad X 352)), (1, .int a1), (2, .int a2)] := hl
  unfold F_X8_knows at hF
  refine lv_aload_n hx hb dX8_knows_0 rfl (lv_at hl 0 rfl) ?_
  refine lv_iload_n hx hb dX8_knows_1 rfl (lv_at hl 1 rfl) ?_
  obtain ⟨oc, hf1, hF⟩ := bt_e hF
  refine fr_cVv (As := [.int a1]) (rest := []) C B (cm_X8_requirePassenger hlt hf1) ob_8 rfl yw_X8_requirePassenger wm_X8_218 rfl hl.1 rfl (Nat.le_of_ble_eq_true rfl) ⟨Nat.le_of_ble_eq_true rfl, Nat.le_of_ble_eq_true rfl⟩ ⟨Nat.le_of_ble_eq_true rfl, Nat.le_of_ble_eq_true rfl⟩ dX8_knows_2 (fr_thru C hex hlk (fun e9 M1 h => by subst h; exact (Option.some.inj hF).symm) (Nat.le_of_ble_eq_true rfl) (Nat.le_of_ble_eq_true rfl)) (fun M3 H locs ho9 B => ?_)
  subst ho9
  rw [bt_i] at hF
  refine lv_aload_n hx hb dX8_knows_5 rfl (lv_at hl 0 rfl) ?_
  refine lv_iload_n hx hb dX8_knows_6 rfl (lv_at hl 2 rfl) ?_
  obtain ⟨oc, hf4, hF⟩ := bt_e hF
  refine fr_cVv (As := [.int a2]) (rest := []) C B (cm_X8_requireSecret hlt hf4) ob_8 rfl yw_X8_requireSecret wm_X8_263 rfl hl.1 rfl (Nat.le_of_ble_eq_true rfl) ⟨Nat.le_of_ble_eq_true rfl, Nat.le_of_ble_eq_true rfl⟩ ⟨Nat.le_of_ble_eq_true rfl, Nat.le_of_ble_eq_true rfl⟩ dX8_knows_7 (fr_thru C hex hlk (fun e9 M1 h => by subst h; exact (Option.some.inj hF).symm) (Nat.le_of_ble_eq_true rfl) (Nat.le_of_ble_eq_true rfl)) (fun M6 H locs ho9 B => ?_)
  subst ho9
  rw [bt_i] at hF
  refine lv_aload_n hx hb dX8_knows_10 rfl (lv_at hl 0 rfl) ?_
  refine gf_X8_12 C B dX8_knows_11 ?_
  refine gf_X8_247 C B is7_0 dX8_knows_14 ?_
  refine lv_iload_n hx hb dX8_knows_17 rfl (lv_at hl 1 rfl) ?_
  refine lv_iload_n hx hb dX8_knows_18 rfl (lv_at hl 2 rfl) ?_
  obtain ⟨r8, hf7, hF⟩ := bx_e hF
  refine fr_cVi (As := [.int a1, .int a2]) (rest := []) C B (cm_X2_hasHeard (is2_of is7_0) hf7) (ob_2 (is2_of is7_0)) rfl yw_X2_hasHeard wm_X8_272 rfl hl.1 rfl (Nat.le_of_ble_eq_true rfl) ⟨Nat.le_of_ble_eq_true rfl, Nat.le_of_ble_eq_true rfl⟩ ⟨Nat.le_of_ble_eq_true rfl, Nat.le_of_ble_eq_true rfl⟩ dX8_knows_19 (fr_nx rfl) (fun r9 M9 H locs ho9 B => ?_)
  obtain ⟨rfl, rfl⟩ := oi_e ho9
  obtain ⟨c10, hF⟩ := of_g hF
  exact fr_iret C B hr (nz_b c10) hlk (by rw [← Option.some.inj hF]) (Nat.le_of_ble_eq_true rfl) (Nat.le_of_ble_eq_true rfl) dX8_knows_22
def F_X8_knowerCount (M : fw_M) (a1 : Int32) : Option (fw_O) :=
  bd_t (F_X8_requireSecret M a1) fun _ M3 =>
  bd_x (F_X2_countKnowers M3 22 a1) fun r5 =>
  some (.inl r5, M3)
set_option maxHeartbeats 4000000 in
set_option maxRecDepth 100000 in
theorem cm_X8_knowerCount {l : Launch} {X : fw_X} {M : fw_M} {a1 : Int32} (hlt : l.stackTraces = false)  {o : fw_O} (hF : F_X8_knowerCount M a1 = some o) : ct_i l X yX8_knowerCount cX8_knowerCount 2 (some .int) ({ frames := 8, cells := 1, slots := 6, locals := 151 } : Room) M [.ref (fw_ad X 352), .int a1] o := by
  refine fw_open rfl (Nat.le_of_ble_eq_true rfl) (fun p e s m below meth c ls C hr hlk hnm hex hl B => ?_)
  have C : fr_C X p c cX8_knowerCount 2 RX8 s m ([.ref (fw_ad X 352), .int a1] : List Value).toArray := C
  have hx := C.1.1
  have hb := C.1.2.1
  have hl : lv_has ls 2 [(0, .ref (fw_ad X 352)), (1, .int a1)] := hl
  unfold F_X8_knowerCount at hF
  refine lv_aload_n hx hb dX8_knowerCount_0 rfl (lv_at hl 0 rfl) ?_
  refine lv_iload_n hx hb dX8_knowerCount_1 rfl (lv_at hl 1 rfl) ?_
  obtain ⟨oc, hf1, hF⟩ := bt_e hF
  refine fr_cVv (As := [.int a1]) (rest := []) C B (cm_X8_requireSecret hlt hf1) ob_8 rfl yw_X8_requireSecret wm_X8_263 rfl hl.1 rfl (Nat.le_of_ble_eq_true rfl) ⟨Nat.le_of_ble_eq_true rfl, Nat.le_of_ble_eq_true rfl⟩ ⟨Nat.le_of_ble_eq_true rfl, Nat.le_of_ble_eq_true rfl⟩ dX8_knowerCount_2 (fr_thru C hex hlk (fun e9 M1 h => by subst h; exact (Option.some.inj hF).symm) (Nat.le_of_ble_eq_true rfl) (Nat.le_of_ble_eq_true rfl)) (fun M3 H locs ho9 B => ?_)
  subst ho9
  rw [bt_i] at hF
  refine lv_aload_n hx hb dX8_knowerCount_5 rfl (lv_at hl 0 rfl) ?_
  refine gf_X8_12 C B dX8_knowerCount_6 ?_
  refine gf_X8_247 C B is7_0 dX8_knowerCount_9 ?_
  refine lv_iload_n hx hb dX8_knowerCount_12 rfl (lv_at hl 1 rfl) ?_
  obtain ⟨r5, hf4, hF⟩ := bx_e hF
  refine fr_cVi (As := [.int a1]) (rest := []) C B (cm_X2_countKnowers (is2_of is7_0) hf4) (ob_2 (is2_of is7_0)) rfl yw_X2_countKnowers wm_X8_275 rfl hl.1 rfl (Nat.le_of_ble_eq_true rfl) ⟨Nat.le_of_ble_eq_true rfl, Nat.le_of_ble_eq_true rfl⟩ ⟨Nat.le_of_ble_eq_true rfl, Nat.le_of_ble_eq_true rfl⟩ dX8_knowerCount_13 (fr_nx rfl) (fun r9 M9 H locs ho9 B => ?_)
  obtain ⟨rfl, rfl⟩ := oi_e ho9
  exact fr_iret C B hr rfl hlk (by rw [← Option.some.inj hF]) (Nat.le_of_ble_eq_true rfl) (Nat.le_of_ble_eq_true rfl) dX8_knowerCount_16
def F_X8_changes (M : fw_M) (a1 : Int32) (a2 : Int32) : Option (fw_O) :=
  bd_t (F_X8_requireStop M a1) fun _ M3 =>
  bd_t (F_X8_requireStop M3 a2) fun _ M6 =>
  bd_p (F_X5_linesBySearch M6 1 a1 a2) fun r8 M9 =>
  bd_t (F_X8_found M9 r8) fun r11 M12 =>
  some (.inl r11, M12)
set_option maxHeartbeats 4000000 in
set_option maxRecDepth 100000 in
theorem cm_X8_changes {l : Launch} {X : fw_X} {M : fw_M} {a1 : Int32} {a2 : Int32} (hlt : l.stackTraces = false)  {o : fw_O} (hF : F_X8_changes M a1 a2 = some o) : ct_i l X yX8_changes cX8_changes 3 (some .int) ({ frames := 8, cells := 3, slots := 18, locals := 151 } : Room) M [.ref (fw_ad X 352), .int a1, .int a2] o := by
  refine fw_open rfl (Nat.le_of_ble_eq_true rfl) (fun p e s m below meth c ls C hr hlk hnm hex hl B => ?_)
  have C : fr_C X p c cX8_changes 3 RX8 s m ([.ref (fw_ad X 352), .int a1, .int a2] : List Value).toArray := C
  have hx := C.1.1
  have hb := C.1.2.1
  have hl : lv_has ls 3 [(0, .ref (fw_ad X 352)), (1, .int a1), (2, .int a2)] := hl
  unfold F_X8_changes at hF
  refine lv_aload_n hx hb dX8_changes_0 rfl (lv_at hl 0 rfl) ?_
  refine lv_iload_n hx hb dX8_changes_1 rfl (lv_at hl 1 rfl) ?_
  obtain ⟨oc, hf1, hF⟩ := bt_e hF
  refine fr_cVv (As := [.int a1]) (rest := []) C B (cm_X8_requireStop hlt hf1) ob_8 rfl yw_X8_requireStop wm_X8_98 rfl hl.1 rfl (Nat.le_of_ble_eq_true rfl) ⟨Nat.le_of_ble_eq_true rfl, Nat.le_of_ble_eq_true rfl⟩ ⟨Nat.le_of_ble_eq_true rfl, Nat.le_of_ble_eq_true rfl⟩ dX8_changes_2 (fr_thru C hex hlk (fun e9 M1 h => by subst h; exact (Option.some.inj hF).symm) (Nat.le_of_ble_eq_true rfl) (Nat.le_of_ble_eq_true rfl)) (fun M3 H locs ho9 B => ?_)
  subst ho9
  rw [bt_i] at hF
  refine lv_aload_n hx hb dX8_changes_5 rfl (lv_at hl 0 rfl) ?_
  refine lv_iload_n hx hb dX8_changes_6 rfl (lv_at hl 2 rfl) ?_
  obtain ⟨oc, hf4, hF⟩ := bt_e hF
  refine fr_cVv (As := [.int a2]) (rest := []) C B (cm_X8_requireStop hlt hf4) ob_8 rfl yw_X8_requireStop wm_X8_98 rfl hl.1 rfl (Nat.le_of_ble_eq_true rfl) ⟨Nat.le_of_ble_eq_true rfl, Nat.le_of_ble_eq_true rfl⟩ ⟨Nat.le_of_ble_eq_true rfl, Nat.le_of_ble_eq_true rfl⟩ dX8_changes_7 (fr_thru C hex hlk (fun e9 M1 h => by subst h; exact (Option.some.inj hF).symm) (Nat.le_of_ble_eq_true rfl) (Nat.le_of_ble_eq_true rfl)) (fun M6 H locs ho9 B => ?_)
  subst ho9
  rw [bt_i] at hF
  refine lv_aload_n hx hb dX8_changes_10 rfl (lv_at hl 0 rfl) ?_
  refine gf_X8_32 C B dX8_changes_11 ?_
  refine lv_aload_n hx hb dX8_changes_14 rfl (lv_at hl 0 rfl) ?_
  refine gf_X8_12 C B dX8_changes_15 ?_
  refine gf_X8_73 C B is7_0 dX8_changes_18 ?_
  refine lv_iload_n hx hb dX8_changes_21 rfl (lv_at hl 1 rfl) ?_
  refine lv_iload_n hx hb dX8_changes_22 rfl (lv_at hl 2 rfl) ?_
  obtain ⟨r8, M9, hf7, hF⟩ := bp_e hF
  refine fr_cVi (As := [.ref (fw_ad X 1), .int a1, .int a2]) (rest := []) C B (cm_X5_linesBySearch (is3_of is7_0) hf7) ob_5 rfl yw_X5_linesBySearch wm_X8_290 rfl hl.1 rfl (Nat.le_of_ble_eq_true rfl) ⟨Nat.le_of_ble_eq_true rfl, Nat.le_of_ble_eq_true rfl⟩ ⟨Nat.le_of_ble_eq_true rfl, Nat.le_of_ble_eq_true rfl⟩ dX8_changes_23 (fr_nx rfl) (fun r9 M9 H locs ho9 B => ?_)
  obtain ⟨rfl, rfl⟩ := oi_e ho9
  obtain ⟨oc, hf10, hF⟩ := bt_e hF
  refine fr_cSi (As := [.int r8]) (rest := []) C B (cm_X8_found hlt hf10) yw_X8_found wm_X8_185 rfl hl.1 rfl (Nat.le_of_ble_eq_true rfl) ⟨Nat.le_of_ble_eq_true rfl, Nat.le_of_ble_eq_true rfl⟩ ⟨Nat.le_of_ble_eq_true rfl, Nat.le_of_ble_eq_true rfl⟩ dX8_changes_26 (fr_thru C hex hlk (fun e9 M1 h => by subst h; exact (Option.some.inj hF).symm) (Nat.le_of_ble_eq_true rfl) (Nat.le_of_ble_eq_true rfl)) (fun r11 M12 H locs ho9 B => ?_)
  subst ho9
  rw [bt_i] at hF
  exact fr_iret C B hr rfl hlk (by rw [← Option.some.inj hF]) (Nat.le_of_ble_eq_true rfl) (Nat.le_of_ble_eq_true rfl) dX8_changes_29
def F_X8_changesByGrowth (M : fw_M) (a1 : Int32) (a2 : Int32) : Option (fw_O) :=
  bd_t (F_X8_requireStop M a1) fun _ M3 =>
  bd_t (F_X8_requireStop M3 a2) fun _ M6 =>
  bd_x (F_X5_linesByGrowth M6 1 a1 a2) fun r8 =>
  bd_t (F_X8_found M6 r8) fun r11 M12 =>
  some (.inl r11, M12)
set_option maxHeartbeats 4000000 in
set_option maxRecDepth 100000 in
theorem cm_X8_changesByGrowth {l : Launch} {X : fw_X} {M : fw_M} {a1 : Int32} {a2 : Int32} (hlt : l.stackTraces = false)  {o : fw_O} (hF : F_X8_changesByGrowth M a1 a2 = some o) : ct_i l X yX8_changesByGrowth cX8_changesByGrowth 3 (some .int) ({ frames := 8, cells := 3, slots := 18, locals := 151 } : Room) M [.ref (fw_ad X 352), .int a1, .int a2] o := by
  refine fw_open rfl (Nat.le_of_ble_eq_true rfl) (fun p e s m below meth c ls C hr hlk hnm hex hl B => ?_)
  have C : fr_C X p c cX8_changesByGrowth 3 RX8 s m ([.ref (fw_ad X 352), .int a1, .int a2] : List Value).toArray := C
  have hx := C.1.1
  have hb := C.1.2.1
  have hl : lv_has ls 3 [(0, .ref (fw_ad X 352)), (1, .int a1), (2, .int a2)] := hl
  unfold F_X8_changesByGrowth at hF
  refine lv_aload_n hx hb dX8_changesByGrowth_0 rfl (lv_at hl 0 rfl) ?_
  refine lv_iload_n hx hb dX8_changesByGrowth_1 rfl (lv_at hl 1 rfl) ?_
  obtain ⟨oc, hf1, hF⟩ := bt_e hF
  refine fr_cVv (As := [.int a1]) (rest := []) C B (cm_X8_requireStop hlt hf1) ob_8 rfl yw_X8_requireStop wm_X8_98 rfl hl.1 rfl (Nat.le_of_ble_eq_true rfl) ⟨Nat.le_of_ble_eq_true rfl, Nat.le_of_ble_eq_true rfl⟩ ⟨Nat.le_of_ble_eq_true rfl, Nat.le_of_ble_eq_true rfl⟩ dX8_changesByGrowth_2 (fr_thru C hex hlk (fun e9 M1 h => by subst h; exact (Option.some.inj hF).symm) (Nat.le_of_ble_eq_true rfl) (Nat.le_of_ble_eq_true rfl)) (fun M3 H locs ho9 B => ?_)
  subst ho9
  rw [bt_i] at hF
  refine lv_aload_n hx hb dX8_changesByGrowth_5 rfl (lv_at hl 0 rfl) ?_
  refine lv_iload_n hx hb dX8_changesByGrowth_6 rfl (lv_at hl 2 rfl) ?_
  obtain ⟨oc, hf4, hF⟩ := bt_e hF
  refine fr_cVv (As := [.int a2]) (rest := []) C B (cm_X8_requireStop hlt hf4) ob_8 rfl yw_X8_requireStop wm_X8_98 rfl hl.1 rfl (Nat.le_of_ble_eq_true rfl) ⟨Nat.le_of_ble_eq_true rfl, Nat.le_of_ble_eq_true rfl⟩ ⟨Nat.le_of_ble_eq_true rfl, Nat.le_of_ble_eq_true rfl⟩ dX8_changesByGrowth_7 (fr_thru C hex hlk (fun e9 M1 h => by subst h; exact (Option.some.inj hF).symm) (Nat.le_of_ble_eq_true rfl) (Nat.le_of_ble_eq_true rfl)) (fun M6 H locs ho9 B => ?_)
  subst ho9
  rw [bt_i] at hF
  refine lv_aload_n hx hb dX8_changesByGrowth_10 rfl (lv_at hl 0 rfl) ?_
  refine gf_X8_32 C B dX8_changesByGrowth_11 ?_
  refine lv_aload_n hx hb dX8_changesByGrowth_14 rfl (lv_at hl 0 rfl) ?_
  refine gf_X8_12 C B dX8_changesByGrowth_15 ?_
  refine gf_X8_73 C B is7_0 dX8_changesByGrowth_18 ?_
  refine lv_iload_n hx hb dX8_changesByGrowth_21 rfl (lv_at hl 1 rfl) ?_
  refine lv_iload_n hx hb dX8_changesByGrowth_22 rfl (lv_at hl 2 rfl) ?_
  obtain ⟨r8, hf7, hF⟩ := bx_e hF
  refine fr_cVi (As := [.ref (fw_ad X 1), .int a1, .int a2]) (rest := []) C B (cm_X5_linesByGrowth (is3_of is7_0) hf7) ob_5 rfl yw_X5_linesByGrowth wm_X8_293 rfl hl.1 rfl (Nat.le_of_ble_eq_true rfl) ⟨Nat.le_of_ble_eq_true rfl, Nat.le_of_ble_eq_true rfl⟩ ⟨Nat.le_of_ble_eq_true rfl, Nat.le_of_ble_eq_true rfl⟩ dX8_changesByGrowth_23 (fr_nx rfl) (fun r9 M9 H locs ho9 B => ?_)
  obtain ⟨rfl, rfl⟩ := oi_e ho9
  obtain ⟨oc, hf10, hF⟩ := bt_e hF
  refine fr_cSi (As := [.int r8]) (rest := []) C B (cm_X8_found hlt hf10) yw_X8_found wm_X8_185 rfl hl.1 rfl (Nat.le_of_ble_eq_true rfl) ⟨Nat.le_of_ble_eq_true rfl, Nat.le_of_ble_eq_true rfl⟩ ⟨Nat.le_of_ble_eq_true rfl, Nat.le_of_ble_eq_true rfl⟩ dX8_changesByGrowth_26 (fr_thru C hex hlk (fun e9 M1 h => by subst h; exact (Option.some.inj hF).symm) (Nat.le_of_ble_eq_true rfl) (Nat.le_of_ble_eq_true rfl)) (fun r11 M12 H locs ho9 B => ?_)
  subst ho9
  rw [bt_i] at hF
  exact fr_iret C B hr rfl hlk (by rw [← Option.some.inj hF]) (Nat.le_of_ble_eq_true rfl) (Nat.le_of_ble_eq_true rfl) dX8_changesByGrowth_29
def F_X8_writeLine_15 (a1 : Int32)  : Nat → Int32 → fw_M → Option (fw_O)
  | 0, _, _ => none
  | n + 1, x2, M =>
    if ix_i a1 5 then
    if (fw_ri M 3 a1) ≤ x2 then
      bd_x (F_J4_length_8abf5 M) fun r4 =>
      some (.inl r4, M)
    else
      if x2 ≤ 0 then
        if ix_i x2 6 then
        bd_x (F_J4_append_bf812 M (fw_ri M (1 + 4 + a1.toNatClampNeg) x2)) fun M8 =>
        F_X8_writeLine_15 a1 n (x2 + 1) M8
        else none
      else
        bd_x (F_J4_append_cf468 M 45) fun M10 =>
        if ix_i x2 6 then
        bd_x (F_J4_append_bf812 M10 (fw_ri M10 (1 + 4 + a1.toNatClampNeg) x2)) fun M13 =>
        F_X8_writeLine_15 a1 n (x2 + 1) M13
        else none
    else none
def F_X8_writeLine (M : fw_M) (a1 : Int32) : Option (fw_O) :=
  bd_t (F_X8_requireLine M a1) fun _ M16 =>
  bd_x (F_J4_setLength_d00df M16 0) fun M18 =>
  F_X8_writeLine_15 a1 8 0 M18
set_option maxHeartbeats 4000000 in
set_option maxRecDepth 100000 in
theorem cm_X8_writeLine {l : Launch} {X : fw_X} {M : fw_M} {a1 : Int32} (hlt : l.stackTraces = false)  {o : fw_O} (hF : F_X8_writeLine M a1 = some o) : ct_i l X yX8_writeLine cX8_writeLine 3 (some .int) ({ frames := 8, cells := 18, slots := 1706, locals := 226 } : Room) M [.ref (fw_ad X 352), .int a1] o := by
  refine fw_open rfl (Nat.le_of_ble_eq_true rfl) (fun p e s m below meth c ls C hr hlk hnm hex hl B => ?_)
  have C : fr_C X p c cX8_writeLine 3 RX8 s m ([.ref (fw_ad X 352), .int a1] : List Value).toArray := C
  have hx := C.1.1
  have hb := C.1.2.1
  have hl : lv_has ls 3 [(0, .ref (fw_ad X 352)), (1, .int a1)] := hl
  have hJ15 : ∀ (n : Nat), ∀ (x2 : Int32) (M : fw_M) (cells slots : Nat) (hcc : cells + 2 * n ≤ 18) (hcs : slots + 200 * n ≤ 1706) (H : Heap) (locs : List Loc) (ls : Array Slot), F_X8_writeLine_15 a1 n x2 M = some o → fr_H X s M H locs → lv_has ls 3 [(0, .ref (fw_ad X 352)), (1, .int a1), (2, .int x2)] → W p l e ({ frames := 8, cells := 18, slots := 1706, locals := 226 } : Room) s m ([.ref (fw_ad X 352), .int a1] : List Value).toArray below meth c H locs cells slots (vx_MQ below (fw_Qi X o) (fw_Qx X o) ([.ref (fw_ad X 352), .int a1] : List Value).toArray s 18 1706 (fw_A X)) (F0 m 15 ls []) := by
    intro n
    induction n with
    | zero =>
      intro x2 M cells slots hcc hcs H locs ls hF B hl
      exact absurd hF (by simp [F_X8_writeLine_15])
    | succ n ih =>
      intro x2 M cells slots hcc hcs H locs ls hF B hl
      rw [F_X8_writeLine_15] at hF
      refine lv_iload_n hx hb dX8_writeLine_15 rfl (lv_at hl 2 rfl) ?_
      refine lv_aload_n hx hb dX8_writeLine_16 rfl (lv_at hl 0 rfl) ?_
      refine gf_X8_12 C B dX8_writeLine_17 ?_
      refine gf_X8_73 C B is7_0 dX8_writeLine_20 ?_
      refine gf_X8_115 C B (is3_of is7_0) dX8_writeLine_23 ?_
      refine lv_iload_n hx hb dX8_writeLine_26 rfl (lv_at hl 1 rfl) ?_
      obtain ⟨c1, hF⟩ := of_g hF
      refine fr_ia C B (ar_3_2 (is3_of is7_0)) c1 dX8_writeLine_27 ?_
      refine lv_icmp_ge (tgt := 73) hx hb dX8_writeLine_28 (by decide) (fun c2 => ?_) (fun c2 => ?_)
      · have hF := it_t hF c2
        refine lv_aload_n hx hb dX8_writeLine_73 rfl (lv_at hl 0 rfl) ?_
        refine gf_X8_46 C B dX8_writeLine_74 ?_
        obtain ⟨r4, hf3, hF⟩ := bx_e hF
        refine jm_Vq (As := []) (rest := []) C B (cr_J4_length_8abf5 hf3) rfl yw_J4_length_8abf5 wm_X8_306 rfl hl.1 rfl (Nat.le_of_ble_eq_true rfl) ⟨Nat.le_of_ble_eq_true rfl, Nat.le_of_ble_eq_true rfl⟩ ⟨rfl, rfl⟩ ⟨(by show cells + 0 ≤ 18; omega), (by show slots + 0 ≤ 1706; omega)⟩ dX8_writeLine_77 ?_
        exact fr_iret C B hr rfl hlk (by rw [← Option.some.inj hF]) (by show cells + 0 ≤ 18; omega) (by show slots + 0 ≤ 1706; omega) dX8_writeLine_80
      · have hF := it_f hF c2
        refine lv_iload_n hx hb dX8_writeLine_31 rfl (lv_at hl 2 rfl) ?_
        refine lv_if_le (tgt := 45) hx hb dX8_writeLine_32 (by decide) (fun c5 => ?_) (fun c5 => ?_)
        · have hF := it_t hF c5
          refine lv_aload_n hx hb dX8_writeLine_45 rfl (lv_at hl 0 rfl) ?_
          refine gf_X8_46 C B dX8_writeLine_46 ?_
          refine lv_aload_n hx hb dX8_writeLine_49 rfl (lv_at hl 0 rfl) ?_
          refine gf_X8_12 C B dX8_writeLine_50 ?_
          refine gf_X8_73 C B is7_0 dX8_writeLine_53 ?_
          refine gf_X8_125 C B (is3_of is7_0) dX8_writeLine_56 ?_
          refine lv_iload_n hx hb dX8_writeLine_59 rfl (lv_at hl 1 rfl) ?_
          refine fr_aa C B (aq_3 (is3_of is7_0)) c1 dX8_writeLine_60 ?_
          refine lv_iload_n hx hb dX8_writeLine_61 rfl (lv_at hl 2 rfl) ?_
          obtain ⟨c6, hF⟩ := of_g hF
          refine fr_ia C B (ar_3_row (is3_of is7_0) (ix_lt c1)) c6 dX8_writeLine_62 ?_
          obtain ⟨M8, hf7, hF⟩ := bx_e hF
          refine jm_Vr (As := [.int (fw_ri M (1 + 4 + a1.toNatClampNeg) x2)]) (rest := []) C B (cm_J4_append_bf812 hf7) rfl yw_J4_append_bf812 wm_X8_303 rfl hl.1 rfl (Nat.le_of_ble_eq_true rfl) ⟨Nat.le_of_ble_eq_true rfl, Nat.le_of_ble_eq_true rfl⟩ ⟨(by show cells + 1 ≤ 18; omega), (by show slots + 100 ≤ 1706; omega)⟩ dX8_writeLine_63 (fun H locs B => ?_)
          refine lv_pop hx hb dX8_writeLine_66 rfl ?_
          refine lv_iinc (v := (x2 + 1)) (lv' := [(2, .int (x2 + 1)), (0, .ref (fw_ad X 352)), (1, .int a1)]) hx hb dX8_writeLine_67 hl (k := 2) rfl rfl (by decide) rfl (fun ls hl => ?_)
          refine lv_goto (tgt := 15) hx hb dX8_writeLine_70 (by decide) ?_
          exact ih (x2 + 1) M8 _ _ (by show cells + 1 + 2 * n ≤ 18; omega) (by show slots + 100 + 200 * n ≤ 1706; omega) _ _ _ hF B (lv_sub hl [1, 2, 0] rfl)
        · have hF := it_f hF c5
          refine lv_aload_n hx hb dX8_writeLine_35 rfl (lv_at hl 0 rfl) ?_
          refine gf_X8_46 C B dX8_writeLine_36 ?_
          refine lv_bipush (v := 45) hx hb dX8_writeLine_39 (by decide) ?_
          obtain ⟨M10, hf9, hF⟩ := bx_e hF
          refine jm_Vr (As := [.int 45]) (rest := []) C B (cm_J4_append_cf468 hf9) rfl yw_J4_append_cf468 wm_X8_299 rfl hl.1 rfl (Nat.le_of_ble_eq_true rfl) ⟨Nat.le_of_ble_eq_true rfl, Nat.le_of_ble_eq_true rfl⟩ ⟨(by show cells + 1 ≤ 18; omega), (by show slots + 100 ≤ 1706; omega)⟩ dX8_writeLine_41 (fun H locs B => ?_)
          refine lv_pop hx hb dX8_writeLine_44 rfl ?_
          refine lv_aload_n hx hb dX8_writeLine_45 rfl (lv_at hl 0 rfl) ?_
          refine gf_X8_46 C B dX8_writeLine_46 ?_
          refine lv_aload_n hx hb dX8_writeLine_49 rfl (lv_at hl 0 rfl) ?_
          refine gf_X8_12 C B dX8_writeLine_50 ?_
          refine gf_X8_73 C B is7_0 dX8_writeLine_53 ?_
          refine gf_X8_125 C B (is3_of is7_0) dX8_writeLine_56 ?_
          refine lv_iload_n hx hb dX8_writeLine_59 rfl (lv_at hl 1 rfl) ?_
          refine fr_aa C B (aq_3 (is3_of is7_0)) c1 dX8_writeLine_60 ?_
          refine lv_iload_n hx hb dX8_writeLine_61 rfl (lv_at hl 2 rfl) ?_
          obtain ⟨c11, hF⟩ := of_g hF
          refine fr_ia C B (ar_3_row (is3_of is7_0) (ix_lt c1)) c11 dX8_writeLine_62 ?_
          obtain ⟨M13, hf12, hF⟩ := bx_e hF
          refine jm_Vr (As := [.int (fw_ri M10 (1 + 4 + a1.toNatClampNeg) x2)]) (rest := []) C B (cm_J4_append_bf812 hf12) rfl yw_J4_append_bf812 wm_X8_303 rfl hl.1 rfl (Nat.le_of_ble_eq_true rfl) ⟨Nat.le_of_ble_eq_true rfl, Nat.le_of_ble_eq_true rfl⟩ ⟨(by show cells + 2 ≤ 18; omega), (by show slots + 200 ≤ 1706; omega)⟩ dX8_writeLine_63 (fun H locs B => ?_)
          refine lv_pop hx hb dX8_writeLine_66 rfl ?_
          refine lv_iinc (v := (x2 + 1)) (lv' := [(2, .int (x2 + 1)), (0, .ref (fw_ad X 352)), (1, .int a1)]) hx hb dX8_writeLine_67 hl (k := 2) rfl rfl (by decide) rfl (fun ls hl => ?_)
          refine lv_goto (tgt := 15) hx hb dX8_writeLine_70 (by decide) ?_
          exact ih (x2 + 1) M13 _ _ (by show cells + 2 + 2 * n ≤ 18; omega) (by show slots + 200 + 200 * n ≤ 1706; omega) _ _ _ hF B (lv_sub hl [1, 2, 0] rfl)
  unfold F_X8_writeLine at hF
  refine lv_aload_n hx hb dX8_writeLine_0 rfl (lv_at hl 0 rfl) ?_
  refine lv_iload_n hx hb dX8_writeLine_1 rfl (lv_at hl 1 rfl) ?_
  obtain ⟨oc, hf14, hF⟩ := bt_e hF
  refine fr_cVv (As := [.int a1]) (rest := []) C B (cm_X8_requireLine hlt hf14) ob_8 rfl yw_X8_requireLine wm_X8_112 rfl hl.1 rfl (Nat.le_of_ble_eq_true rfl) ⟨Nat.le_of_ble_eq_true rfl, Nat.le_of_ble_eq_true rfl⟩ ⟨Nat.le_of_ble_eq_true rfl, Nat.le_of_ble_eq_true rfl⟩ dX8_writeLine_2 (fr_thru C hex hlk (fun e9 M1 h => by subst h; exact (Option.some.inj hF).symm) (Nat.le_of_ble_eq_true rfl) (Nat.le_of_ble_eq_true rfl)) (fun M16 H locs ho9 B => ?_)
  subst ho9
  rw [bt_i] at hF
  refine lv_aload_n hx hb dX8_writeLine_5 rfl (lv_at hl 0 rfl) ?_
  refine gf_X8_46 C B dX8_writeLine_6 ?_
  refine lv_iconst (v := 0) hx hb dX8_writeLine_9 (by decide) ?_
  obtain ⟨M18, hf17, hF⟩ := bx_e hF
  refine jm_V (As := [.int 0]) (rest := []) C B (cm_J4_setLength_d00df hf17) rfl yw_J4_setLength_d00df wm_X8_296 rfl hl.1 rfl (Nat.le_of_ble_eq_true rfl) ⟨Nat.le_of_ble_eq_true rfl, Nat.le_of_ble_eq_true rfl⟩ ⟨(Nat.le_of_ble_eq_true rfl), (Nat.le_of_ble_eq_true rfl)⟩ dX8_writeLine_10 (fun H locs B => ?_)
  refine lv_iconst (v := 0) hx hb dX8_writeLine_13 (by decide) ?_
  refine lv_istore_n (lv' := [(2, .int 0), (0, .ref (fw_ad X 352)), (1, .int a1)]) hx hb dX8_writeLine_14 rfl hl (by decide) rfl (fun ls hl => ?_)
  exact hJ15 8 0 M18 _ _ (by show 2 + 2 * 8 ≤ 18; omega) (by show 106 + 200 * 8 ≤ 1706; omega) _ _ _ hF B (lv_sub hl [1, 2, 0] rfl)
def F_X8_writePassenger_59 (a1 : Int32)  : Nat → Int32 → fw_M → Option (fw_O)
  | 0, _, _ => none
  | n + 1, x2, M =>
    if (M 22 0) ≤ x2 then
      bd_x (F_J4_length_8abf5 M) fun r3 =>
      some (.inl r3, M)
    else
      if ix_i x2 6 then
      if ¬ (fw_ri M 23 x2) = a1 then
        F_X8_writePassenger_59 a1 n (x2 + 1) M
      else
        bd_x (F_J4_append_cf468 M 115) fun M7 =>
        bd_x (F_J4_append_bf812 M7 x2) fun M9 =>
        F_X8_writePassenger_59 a1 n (x2 + 1) M9
      else none
def F_X8_writePassenger (M : fw_M) (a1 : Int32) : Option (fw_O) :=
  bd_t (F_X8_requirePassenger M a1) fun _ M12 =>
  bd_x (F_J4_setLength_d00df M12 0) fun M14 =>
  bd_x (F_J4_append_bf812 M14 a1) fun M16 =>
  bd_x (F_X8_writePlace M16 a1) fun M19 =>
  bd_x (F_J4_append_cf468 M19 114) fun M21 =>
  if ix_i a1 8 then
  bd_x (F_J4_append_bf812 M21 (fw_ri M21 18 a1)) fun M24 =>
  F_X8_writePassenger_59 a1 8 0 M24
  else none
set_option maxHeartbeats 4000000 in
set_option maxRecDepth 100000 in
theorem cm_X8_writePassenger {l : Launch} {X : fw_X} {M : fw_M} {a1 : Int32} (hlt : l.stackTraces = false)  {o : fw_O} (hF : F_X8_writePassenger M a1 = some o) : ct_i l X yX8_writePassenger cX8_writePassenger 3 (some .int) ({ frames := 8, cells := 23, slots := 2206, locals := 248 } : Room) M [.ref (fw_ad X 352), .int a1] o := by
  refine fw_open rfl (Nat.le_of_ble_eq_true rfl) (fun p e s m below meth c ls C hr hlk hnm hex hl B => ?_)
  have C : fr_C X p c cX8_writePassenger 3 RX8 s m ([.ref (fw_ad X 352), .int a1] : List Value).toArray := C
  have hx := C.1.1
  have hb := C.1.2.1
  have hl : lv_has ls 3 [(0, .ref (fw_ad X 352)), (1, .int a1)] := hl
  have hJ59 : ∀ (n : Nat), ∀ (x2 : Int32) (M : fw_M) (cells slots : Nat) (hcc : cells + 2 * n ≤ 23) (hcs : slots + 200 * n ≤ 2206) (H : Heap) (locs : List Loc) (ls : Array Slot), F_X8_writePassenger_59 a1 n x2 M = some o → fr_H X s M H locs → lv_has ls 3 [(0, .ref (fw_ad X 352)), (1, .int a1), (2, .int x2)] → W p l e ({ frames := 8, cells := 23, slots := 2206, locals := 248 } : Room) s m ([.ref (fw_ad X 352), .int a1] : List Value).toArray below meth c H locs cells slots (vx_MQ below (fw_Qi X o) (fw_Qx X o) ([.ref (fw_ad X 352), .int a1] : List Value).toArray s 23 2206 (fw_A X)) (F0 m 59 ls []) := by
    intro n
    induction n with
    | zero =>
      intro x2 M cells slots hcc hcs H locs ls hF B hl
      exact absurd hF (by simp [F_X8_writePassenger_59])
    | succ n ih =>
      intro x2 M cells slots hcc hcs H locs ls hF B hl
      rw [F_X8_writePassenger_59] at hF
      refine lv_iload_n hx hb dX8_writePassenger_59 rfl (lv_at hl 2 rfl) ?_
      refine lv_aload_n hx hb dX8_writePassenger_60 rfl (lv_at hl 0 rfl) ?_
      refine gf_X8_12 C B dX8_writePassenger_61 ?_
      refine gf_X8_247 C B is7_0 dX8_writePassenger_64 ?_
      refine gf_X8_262 C B (is2_of is7_0) dX8_writePassenger_67 ?_
      refine lv_icmp_ge (tgt := 114) hx hb dX8_writePassenger_70 (by decide) (fun c1 => ?_) (fun c1 => ?_)
      · have hF := it_t hF c1
        refine lv_aload_n hx hb dX8_writePassenger_114 rfl (lv_at hl 0 rfl) ?_
        refine gf_X8_46 C B dX8_writePassenger_115 ?_
        obtain ⟨r3, hf2, hF⟩ := bx_e hF
        refine jm_Vq (As := []) (rest := []) C B (cr_J4_length_8abf5 hf2) rfl yw_J4_length_8abf5 wm_X8_306 rfl hl.1 rfl (Nat.le_of_ble_eq_true rfl) ⟨Nat.le_of_ble_eq_true rfl, Nat.le_of_ble_eq_true rfl⟩ ⟨rfl, rfl⟩ ⟨(by show cells + 0 ≤ 23; omega), (by show slots + 0 ≤ 2206; omega)⟩ dX8_writePassenger_118 ?_
        exact fr_iret C B hr rfl hlk (by rw [← Option.some.inj hF]) (by show cells + 0 ≤ 23; omega) (by show slots + 0 ≤ 2206; omega) dX8_writePassenger_121
      · have hF := it_f hF c1
        refine lv_aload_n hx hb dX8_writePassenger_73 rfl (lv_at hl 0 rfl) ?_
        refine gf_X8_12 C B dX8_writePassenger_74 ?_
        refine gf_X8_247 C B is7_0 dX8_writePassenger_77 ?_
        refine gf_X8_266 C B (is2_of is7_0) dX8_writePassenger_80 ?_
        refine lv_iload_n hx hb dX8_writePassenger_83 rfl (lv_at hl 2 rfl) ?_
        obtain ⟨c4, hF⟩ := of_g hF
        refine fr_ia C B (ar_2_1 (is2_of is7_0)) c4 dX8_writePassenger_84 ?_
        refine lv_iload_n hx hb dX8_writePassenger_85 rfl (lv_at hl 1 rfl) ?_
        refine lv_icmp_ne (tgt := 108) hx hb dX8_writePassenger_86 (by decide) (fun c5 => ?_) (fun c5 => ?_)
        · have hF := it_t hF c5
          refine lv_iinc (v := (x2 + 1)) (lv' := [(2, .int (x2 + 1)), (0, .ref (fw_ad X 352)), (1, .int a1)]) hx hb dX8_writePassenger_108 hl (k := 2) rfl rfl (by decide) rfl (fun ls hl => ?_)
          refine lv_goto (tgt := 59) hx hb dX8_writePassenger_111 (by decide) ?_
          exact ih (x2 + 1) M _ _ (by show cells + 0 + 2 * n ≤ 23; omega) (by show slots + 0 + 200 * n ≤ 2206; omega) _ _ _ hF B (lv_sub hl [1, 2, 0] rfl)
        · have hF := it_f hF (not_not_intro c5)
          refine lv_aload_n hx hb dX8_writePassenger_89 rfl (lv_at hl 0 rfl) ?_
          refine gf_X8_46 C B dX8_writePassenger_90 ?_
          refine lv_bipush (v := 115) hx hb dX8_writePassenger_93 (by decide) ?_
          obtain ⟨M7, hf6, hF⟩ := bx_e hF
          refine jm_Vr (As := [.int 115]) (rest := []) C B (cm_J4_append_cf468 hf6) rfl yw_J4_append_cf468 wm_X8_299 rfl hl.1 rfl (Nat.le_of_ble_eq_true rfl) ⟨Nat.le_of_ble_eq_true rfl, Nat.le_of_ble_eq_true rfl⟩ ⟨(by show cells + 1 ≤ 23; omega), (by show slots + 100 ≤ 2206; omega)⟩ dX8_writePassenger_95 (fun H locs B => ?_)
          refine lv_pop hx hb dX8_writePassenger_98 rfl ?_
          refine lv_aload_n hx hb dX8_writePassenger_99 rfl (lv_at hl 0 rfl) ?_
          refine gf_X8_46 C B dX8_writePassenger_100 ?_
          refine lv_iload_n hx hb dX8_writePassenger_103 rfl (lv_at hl 2 rfl) ?_
          obtain ⟨M9, hf8, hF⟩ := bx_e hF
          refine jm_Vr (As := [.int x2]) (rest := []) C B (cm_J4_append_bf812 hf8) rfl yw_J4_append_bf812 wm_X8_303 rfl hl.1 rfl (Nat.le_of_ble_eq_true rfl) ⟨Nat.le_of_ble_eq_true rfl, Nat.le_of_ble_eq_true rfl⟩ ⟨(by show cells + 2 ≤ 23; omega), (by show slots + 200 ≤ 2206; omega)⟩ dX8_writePassenger_104 (fun H locs B => ?_)
          refine lv_pop hx hb dX8_writePassenger_107 rfl ?_
          refine lv_iinc (v := (x2 + 1)) (lv' := [(2, .int (x2 + 1)), (0, .ref (fw_ad X 352)), (1, .int a1)]) hx hb dX8_writePassenger_108 hl (k := 2) rfl rfl (by decide) rfl (fun ls hl => ?_)
          refine lv_goto (tgt := 59) hx hb dX8_writePassenger_111 (by decide) ?_
          exact ih (x2 + 1) M9 _ _ (by show cells + 2 + 2 * n ≤ 23; omega) (by show slots + 200 + 200 * n ≤ 2206; omega) _ _ _ hF B (lv_sub hl [1, 2, 0] rfl)
  unfold F_X8_writePassenger at hF
  refine lv_aload_n hx hb dX8_writePassenger_0 rfl (lv_at hl 0 rfl) ?_
  refine lv_iload_n hx hb dX8_writePassenger_1 rfl (lv_at hl 1 rfl) ?_
  obtain ⟨oc, hf10, hF⟩ := bt_e hF
  refine fr_cVv (As := [.int a1]) (rest := []) C B (cm_X8_requirePassenger hlt hf10) ob_8 rfl yw_X8_requirePassenger wm_X8_218 rfl hl.1 rfl (Nat.le_of_ble_eq_true rfl) ⟨Nat.le_of_ble_eq_true rfl, Nat.le_of_ble_eq_true rfl⟩ ⟨Nat.le_of_ble_eq_true rfl, Nat.le_of_ble_eq_true rfl⟩ dX8_writePassenger_2 (fr_thru C hex hlk (fun e9 M1 h => by subst h; exact (Option.some.inj hF).symm) (Nat.le_of_ble_eq_true rfl) (Nat.le_of_ble_eq_true rfl)) (fun M12 H locs ho9 B => ?_)
  subst ho9
  rw [bt_i] at hF
  refine lv_aload_n hx hb dX8_writePassenger_5 rfl (lv_at hl 0 rfl) ?_
  refine gf_X8_46 C B dX8_writePassenger_6 ?_
  refine lv_iconst (v := 0) hx hb dX8_writePassenger_9 (by decide) ?_
  obtain ⟨M14, hf13, hF⟩ := bx_e hF
  refine jm_V (As := [.int 0]) (rest := []) C B (cm_J4_setLength_d00df hf13) rfl yw_J4_setLength_d00df wm_X8_296 rfl hl.1 rfl (Nat.le_of_ble_eq_true rfl) ⟨Nat.le_of_ble_eq_true rfl, Nat.le_of_ble_eq_true rfl⟩ ⟨(Nat.le_of_ble_eq_true rfl), (Nat.le_of_ble_eq_true rfl)⟩ dX8_writePassenger_10 (fun H locs B => ?_)
  refine lv_aload_n hx hb dX8_writePassenger_13 rfl (lv_at hl 0 rfl) ?_
  refine gf_X8_46 C B dX8_writePassenger_14 ?_
  refine lv_iload_n hx hb dX8_writePassenger_17 rfl (lv_at hl 1 rfl) ?_
  obtain ⟨M16, hf15, hF⟩ := bx_e hF
  refine jm_Vr (As := [.int a1]) (rest := []) C B (cm_J4_append_bf812 hf15) rfl yw_J4_append_bf812 wm_X8_303 rfl hl.1 rfl (Nat.le_of_ble_eq_true rfl) ⟨Nat.le_of_ble_eq_true rfl, Nat.le_of_ble_eq_true rfl⟩ ⟨(Nat.le_of_ble_eq_true rfl), (Nat.le_of_ble_eq_true rfl)⟩ dX8_writePassenger_18 (fun H locs B => ?_)
  refine lv_pop hx hb dX8_writePassenger_21 rfl ?_
  refine lv_aload_n hx hb dX8_writePassenger_22 rfl (lv_at hl 0 rfl) ?_
  refine lv_iload_n hx hb dX8_writePassenger_23 rfl (lv_at hl 1 rfl) ?_
  obtain ⟨M19, hf17, hF⟩ := bx_e hF
  refine fr_cVv (As := [.int a1]) (rest := []) C B (cm_X8_writePlace hf17) ob_8 rfl yw_X8_writePlace wm_X8_309 rfl hl.1 rfl (Nat.le_of_ble_eq_true rfl) ⟨Nat.le_of_ble_eq_true rfl, Nat.le_of_ble_eq_true rfl⟩ ⟨Nat.le_of_ble_eq_true rfl, Nat.le_of_ble_eq_true rfl⟩ dX8_writePassenger_24 (fr_nx rfl) (fun M9 H locs ho9 B => ?_)
  obtain ⟨-, rfl⟩ := oi_e ho9
  refine lv_aload_n hx hb dX8_writePassenger_27 rfl (lv_at hl 0 rfl) ?_
  refine gf_X8_46 C B dX8_writePassenger_28 ?_
  refine lv_bipush (v := 114) hx hb dX8_writePassenger_31 (by decide) ?_
  obtain ⟨M21, hf20, hF⟩ := bx_e hF
  refine jm_Vr (As := [.int 114]) (rest := []) C B (cm_J4_append_cf468 hf20) rfl yw_J4_append_cf468 wm_X8_299 rfl hl.1 rfl (Nat.le_of_ble_eq_true rfl) ⟨Nat.le_of_ble_eq_true rfl, Nat.le_of_ble_eq_true rfl⟩ ⟨(Nat.le_of_ble_eq_true rfl), (Nat.le_of_ble_eq_true rfl)⟩ dX8_writePassenger_33 (fun H locs B => ?_)
  refine lv_pop hx hb dX8_writePassenger_36 rfl ?_
  refine lv_aload_n hx hb dX8_writePassenger_37 rfl (lv_at hl 0 rfl) ?_
  refine gf_X8_46 C B dX8_writePassenger_38 ?_
  refine lv_aload_n hx hb dX8_writePassenger_41 rfl (lv_at hl 0 rfl) ?_
  refine gf_X8_12 C B dX8_writePassenger_42 ?_
  refine gf_X8_171 C B is7_0 dX8_writePassenger_45 ?_
  refine gf_X8_227 C B (is6_of is7_0) dX8_writePassenger_48 ?_
  refine lv_iload_n hx hb dX8_writePassenger_51 rfl (lv_at hl 1 rfl) ?_
  obtain ⟨c22, hF⟩ := of_g hF
  refine fr_ia C B (ar_6_3 (is6_of is7_0)) c22 dX8_writePassenger_52 ?_
  obtain ⟨M24, hf23, hF⟩ := bx_e hF
  refine jm_Vr (As := [.int (fw_ri M21 18 a1)]) (rest := []) C B (cm_J4_append_bf812 hf23) rfl yw_J4_append_bf812 wm_X8_303 rfl hl.1 rfl (Nat.le_of_ble_eq_true rfl) ⟨Nat.le_of_ble_eq_true rfl, Nat.le_of_ble_eq_true rfl⟩ ⟨(Nat.le_of_ble_eq_true rfl), (Nat.le_of_ble_eq_true rfl)⟩ dX8_writePassenger_53 (fun H locs B => ?_)
  refine lv_pop hx hb dX8_writePassenger_56 rfl ?_
  refine lv_iconst (v := 0) hx hb dX8_writePassenger_57 (by decide) ?_
  refine lv_istore_n (lv' := [(2, .int 0), (0, .ref (fw_ad X 352)), (1, .int a1)]) hx hb dX8_writePassenger_58 rfl hl (by decide) rfl (fun ls hl => ?_)
  exact hJ59 8 0 M24 _ _ (by show 7 + 2 * 8 ≤ 23; omega) (by show 606 + 200 * 8 ≤ 2206; omega) _ _ _ hF B (lv_sub hl [1, 2, 0] rfl)
def F_X8_errorPosition (M : fw_M) : Option (fw_O) :=
  bd_t (F_X8_found M (M 352 8)) fun r2 M3 =>
  some (.inl r2, M3)
set_option maxHeartbeats 4000000 in
set_option maxRecDepth 100000 in
theorem cm_X8_errorPosition {l : Launch} {X : fw_X} {M : fw_M} (hlt : l.stackTraces = false)  {o : fw_O} (hF : F_X8_errorPosition M = some o) : ct_i l X yX8_errorPosition cX8_errorPosition 1 (some .int) ({ frames := 8, cells := 1, slots := 6, locals := 150 } : Room) M [.ref (fw_ad X 352)] o := by
  refine fw_open rfl (Nat.le_of_ble_eq_true rfl) (fun p e s m below meth c ls C hr hlk hnm hex hl B => ?_)
  have C : fr_C X p c cX8_errorPosition 1 RX8 s m ([.ref (fw_ad X 352)] : List Value).toArray := C
  have hx := C.1.1
  have hb := C.1.2.1
  have hl : lv_has ls 1 [(0, .ref (fw_ad X 352))] := hl
  unfold F_X8_errorPosition at hF
  refine lv_aload_n hx hb dX8_errorPosition_0 rfl (lv_at hl 0 rfl) ?_
  refine gf_X8_54 C B dX8_errorPosition_1 ?_
  obtain ⟨oc, hf1, hF⟩ := bt_e hF
  refine fr_cSi (As := [.int (M 352 8)]) (rest := []) C B (cm_X8_found hlt hf1) yw_X8_found wm_X8_185 rfl hl.1 rfl (Nat.le_of_ble_eq_true rfl) ⟨Nat.le_of_ble_eq_true rfl, Nat.le_of_ble_eq_true rfl⟩ ⟨Nat.le_of_ble_eq_true rfl, Nat.le_of_ble_eq_true rfl⟩ dX8_errorPosition_4 (fr_thru C hex hlk (fun e9 M1 h => by subst h; exact (Option.some.inj hF).symm) (Nat.le_of_ble_eq_true rfl) (Nat.le_of_ble_eq_true rfl)) (fun r2 M3 H locs ho9 B => ?_)
  subst ho9
  rw [bt_i] at hF
  exact fr_iret C B hr rfl hlk (by rw [← Option.some.inj hF]) (Nat.le_of_ble_eq_true rfl) (Nat.le_of_ble_eq_true rfl) dX8_errorPosition_7
def F_X8_failedCommand (M : fw_M) : Option (fw_O) :=
  bd_t (F_X8_found M (M 352 9)) fun r2 M3 =>
  some (.inl r2, M3)
set_option maxHeartbeats 4000000 in
set_option maxRecDepth 100000 in
theorem cm_X8_failedCommand {l : Launch} {X : fw_X} {M : fw_M} (hlt : l.stackTraces = false)  {o : fw_O} (hF : F_X8_failedCommand M = some o) : ct_i l X yX8_failedCommand cX8_failedCommand 1 (some .int) ({ frames := 8, cells := 1, slots := 6, locals := 150 } : Room) M [.ref (fw_ad X 352)] o := by
  refine fw_open rfl (Nat.le_of_ble_eq_true rfl) (fun p e s m below meth c ls C hr hlk hnm hex hl B => ?_)
  have C : fr_C X p c cX8_failedCommand 1 RX8 s m ([.ref (fw_ad X 352)] : List Value).toArray := C
  have hx := C.1.1
  have hb := C.1.2.1
  have hl : lv_has ls 1 [(0, .ref (fw_ad X 352))] := hl
  unfold F_X8_failedCommand at hF
  refine lv_aload_n hx hb dX8_failedCommand_0 rfl (lv_at hl 0 rfl) ?_
  refine gf_X8_58 C B dX8_failedCommand_1 ?_
  obtain ⟨oc, hf1, hF⟩ := bt_e hF
  refine fr_cSi (As := [.int (M 352 9)]) (rest := []) C B (cm_X8_found hlt hf1) yw_X8_found wm_X8_185 rfl hl.1 rfl (Nat.le_of_ble_eq_true rfl) ⟨Nat.le_of_ble_eq_true rfl, Nat.le_of_ble_eq_true rfl⟩ ⟨Nat.le_of_ble_eq_true rfl, Nat.le_of_ble_eq_true rfl⟩ dX8_failedCommand_4 (fr_thru C hex hlk (fun e9 M1 h => by subst h; exact (Option.some.inj hF).symm) (Nat.le_of_ble_eq_true rfl) (Nat.le_of_ble_eq_true rfl)) (fun r2 M3 H locs ho9 B => ?_)
  subst ho9
  rw [bt_i] at hF
  exact fr_iret C B hr rfl hlk (by rw [← Option.some.inj hF]) (Nat.le_of_ble_eq_true rfl) (Nat.le_of_ble_eq_true rfl) dX8_failedCommand_7
def F_X8_undo (M : fw_M) : Option (fw_O) :=
  if ¬ (M 353 2) = 0 then
    bd_x (F_X4_takeBack M 0) fun M4 =>
    some (.inl (M4 353 2), M4)
  else
    some (.inr 2, M)
set_option maxHeartbeats 4000000 in
set_option maxRecDepth 100000 in
theorem cm_X8_undo {l : Launch} {X : fw_X} {M : fw_M} (hlt : l.stackTraces = false)  {o : fw_O} (hF : F_X8_undo M = some o) : ct_i l X yX8_undo cX8_undo 1 (some .int) ({ frames := 7, cells := 1, slots := 6, locals := 130 } : Room) M [.ref (fw_ad X 352)] o := by
  refine fw_open rfl (Nat.le_of_ble_eq_true rfl) (fun p e s m below meth c ls C hr hlk hnm hex hl B => ?_)
  have C : fr_C X p c cX8_undo 1 RX8 s m ([.ref (fw_ad X 352)] : List Value).toArray := C
  have hx := C.1.1
  have hb := C.1.2.1
  have hl : lv_has ls 1 [(0, .ref (fw_ad X 352))] := hl
  unfold F_X8_undo at hF
  refine lv_aload_n hx hb dX8_undo_0 rfl (lv_at hl 0 rfl) ?_
  refine gf_X8_25 C B dX8_undo_1 ?_
  refine gf_X8_368 C B dX8_undo_4 ?_
  refine lv_if_ne (tgt := 21) hx hb dX8_undo_7 (by decide) (fun c1 => ?_) (fun c1 => ?_)
  · have hF := it_t hF c1
    refine lv_aload_n hx hb dX8_undo_21 rfl (lv_at hl 0 rfl) ?_
    refine gf_X8_25 C B dX8_undo_22 ?_
    refine lv_aload_n hx hb dX8_undo_25 rfl (lv_at hl 0 rfl) ?_
    refine gf_X8_12 C B dX8_undo_26 ?_
    obtain ⟨M4, hf2, hF⟩ := bx_e hF
    refine fr_cVv (As := [.ref (fw_ad X 0)]) (rest := []) C B (cm_X4_takeBack is7_0 hf2) ob_4 rfl yw_X4_takeBack wm_X8_371 rfl hl.1 rfl (Nat.le_of_ble_eq_true rfl) ⟨Nat.le_of_ble_eq_true rfl, Nat.le_of_ble_eq_true rfl⟩ ⟨Nat.le_of_ble_eq_true rfl, Nat.le_of_ble_eq_true rfl⟩ dX8_undo_29 (fr_nx rfl) (fun M9 H locs ho9 B => ?_)
    obtain ⟨-, rfl⟩ := oi_e ho9
    refine lv_aload_n hx hb dX8_undo_32 rfl (lv_at hl 0 rfl) ?_
    refine gf_X8_25 C B dX8_undo_33 ?_
    refine gf_X8_368 C B dX8_undo_36 ?_
    exact fr_iret C B hr rfl hlk (by rw [← Option.some.inj hF]) (Nat.le_of_ble_eq_true rfl) (Nat.le_of_ble_eq_true rfl) dX8_undo_39
  · have hF := it_f hF (not_not_intro c1)
    exact fr_throwW C B hlt hex hlk (n := 2) (id := 72) (text := "nothing to undo") xt_X8_2 (by decide +kernel) (by rw [← Option.some.inj hF]) hl.1 (Nat.le_of_ble_eq_true rfl) (Nat.le_of_ble_eq_true rfl) (Nat.le_of_ble_eq_true rfl) (Nat.le_of_ble_eq_true rfl) (Nat.le_of_ble_eq_true rfl) (Nat.le_of_ble_eq_true rfl) dX8_undo_10 dX8_undo_13 dX8_undo_14 dX8_undo_17 dX8_undo_20
def F_X8_distance (M : fw_M) (a1 : Int32) (a2 : Int32) : Option (fw_O) :=
  bd_t (F_X8_requireStop M a1) fun _ M3 =>
  bd_t (F_X8_requireStop M3 a2) fun _ M6 =>
  bd_p (F_X5_stepsBySearch M6 1 a1 a2) fun r8 M9 =>
  bd_t (F_X8_found M9 r8) fun r11 M12 =>
  some (.inl r11, M12)
set_option maxHeartbeats 4000000 in
set_option maxRecDepth 100000 in
theorem cm_X8_distance {l : Launch} {X : fw_X} {M : fw_M} {a1 : Int32} {a2 : Int32} (hlt : l.stackTraces = false)  {o : fw_O} (hF : F_X8_distance M a1 a2 = some o) : ct_i l X yX8_distance cX8_distance 3 (some .int) ({ frames := 8, cells := 3, slots := 18, locals := 151 } : Room) M [.ref (fw_ad X 352), .int a1, .int a2] o := by
  refine fw_open rfl (Nat.le_of_ble_eq_true rfl) (fun p e s m below meth c ls C hr hlk hnm hex hl B => ?_)
  have C : fr_C X p c cX8_distance 3 RX8 s m ([.ref (fw_ad X 352), .int a1, .int a2] : List Value).toArray := C
  have hx := C.1.1
  have hb := C.1.2.1
  have hl : lv_has ls 3 [(0, .ref (fw_ad X 352)), (1, .int a1), (2, .int a2)] := hl
  unfold F_X8_distance at hF
  refine lv_aload_n hx hb dX8_distance_0 rfl (lv_at hl 0 rfl) ?_
  refine lv_iload_n hx hb dX8_distance_1 rfl (lv_at hl 1 rfl) ?_
  obtain ⟨oc, hf1, hF⟩ := bt_e hF
  refine fr_cVv (As := [.int a1]) (rest := []) C B (cm_X8_requireStop hlt hf1) ob_8 rfl yw_X8_requireStop wm_X8_98 rfl hl.1 rfl (Nat.le_of_ble_eq_true rfl) ⟨Nat.le_of_ble_eq_true rfl, Nat.le_of_ble_eq_true rfl⟩ ⟨Nat.le_of_ble_eq_true rfl, Nat.le_of_ble_eq_true rfl⟩ dX8_distance_2 (fr_thru C hex hlk (fun e9 M1 h => by subst h; exact (Option.some.inj hF).symm) (Nat.le_of_ble_eq_true rfl) (Nat.le_of_ble_eq_true rfl)) (fun M3 H locs ho9 B => ?_)
  subst ho9
  rw [bt_i] at hF
  refine lv_aload_n hx hb dX8_distance_5 rfl (lv_at hl 0 rfl) ?_
  refine lv_iload_n hx hb dX8_distance_6 rfl (lv_at hl 2 rfl) ?_
  obtain ⟨oc, hf4, hF⟩ := bt_e hF
  refine fr_cVv (As := [.int a2]) (rest := []) C B (cm_X8_requireStop hlt hf4) ob_8 rfl yw_X8_requireStop wm_X8_98 rfl hl.1 rfl (Nat.le_of_ble_eq_true rfl) ⟨Nat.le_of_ble_eq_true rfl, Nat.le_of_ble_eq_true rfl⟩ ⟨Nat.le_of_ble_eq_true rfl, Nat.le_of_ble_eq_true rfl⟩ dX8_distance_7 (fr_thru C hex hlk (fun e9 M1 h => by subst h; exact (Option.some.inj hF).symm) (Nat.le_of_ble_eq_true rfl) (Nat.le_of_ble_eq_true rfl)) (fun M6 H locs ho9 B => ?_)
  subst ho9
  rw [bt_i] at hF
  refine lv_aload_n hx hb dX8_distance_10 rfl (lv_at hl 0 rfl) ?_
  refine gf_X8_32 C B dX8_distance_11 ?_
  refine lv_aload_n hx hb dX8_distance_14 rfl (lv_at hl 0 rfl) ?_
  refine gf_X8_12 C B dX8_distance_15 ?_
  refine gf_X8_73 C B is7_0 dX8_distance_18 ?_
  refine lv_iload_n hx hb dX8_distance_21 rfl (lv_at hl 1 rfl) ?_
  refine lv_iload_n hx hb dX8_distance_22 rfl (lv_at hl 2 rfl) ?_
  obtain ⟨r8, M9, hf7, hF⟩ := bp_e hF
  refine fr_cVi (As := [.ref (fw_ad X 1), .int a1, .int a2]) (rest := []) C B (cm_X5_stepsBySearch (is3_of is7_0) hf7) ob_5 rfl yw_X5_stepsBySearch wm_X8_283 rfl hl.1 rfl (Nat.le_of_ble_eq_true rfl) ⟨Nat.le_of_ble_eq_true rfl, Nat.le_of_ble_eq_true rfl⟩ ⟨Nat.le_of_ble_eq_true rfl, Nat.le_of_ble_eq_true rfl⟩ dX8_distance_23 (fr_nx rfl) (fun r9 M9 H locs ho9 B => ?_)
  obtain ⟨rfl, rfl⟩ := oi_e ho9
  obtain ⟨oc, hf10, hF⟩ := bt_e hF
  refine fr_cSi (As := [.int r8]) (rest := []) C B (cm_X8_found hlt hf10) yw_X8_found wm_X8_185 rfl hl.1 rfl (Nat.le_of_ble_eq_true rfl) ⟨Nat.le_of_ble_eq_true rfl, Nat.le_of_ble_eq_true rfl⟩ ⟨Nat.le_of_ble_eq_true rfl, Nat.le_of_ble_eq_true rfl⟩ dX8_distance_26 (fr_thru C hex hlk (fun e9 M1 h => by subst h; exact (Option.some.inj hF).symm) (Nat.le_of_ble_eq_true rfl) (Nat.le_of_ble_eq_true rfl)) (fun r11 M12 H locs ho9 B => ?_)
  subst ho9
  rw [bt_i] at hF
  exact fr_iret C B hr rfl hlk (by rw [← Option.some.inj hF]) (Nat.le_of_ble_eq_true rfl) (Nat.le_of_ble_eq_true rfl) dX8_distance_29
def F_X8_distanceByRelaxation (M : fw_M) (a1 : Int32) (a2 : Int32) : Option (fw_O) :=
  bd_t (F_X8_requireStop M a1) fun _ M3 =>
  bd_t (F_X8_requireStop M3 a2) fun _ M6 =>
  bd_p (F_X5_stepsByRelaxation M6 1 a1 a2) fun r8 M9 =>
  bd_t (F_X8_found M9 r8) fun r11 M12 =>
  some (.inl r11, M12)
set_option maxHeartbeats 4000000 in
set_option maxRecDepth 100000 in
theorem cm_X8_distanceByRelaxation {l : Launch} {X : fw_X} {M : fw_M} {a1 : Int32} {a2 : Int32} (hlt : l.stackTraces = false)  {o : fw_O} (hF : F_X8_distanceByRelaxation M a1 a2 = some o) : ct_i l X yX8_distanceByRelaxation cX8_distanceByRelaxation 3 (some .int) ({ frames := 8, cells := 3, slots := 18, locals := 151 } : Room) M [.ref (fw_ad X 352), .int a1, .int a2] o := by
  refine fw_open rfl (Nat.le_of_ble_eq_true rfl) (fun p e s m below meth c ls C hr hlk hnm hex hl B => ?_)
  have C : fr_C X p c cX8_distanceByRelaxation 3 RX8 s m ([.ref (fw_ad X 352), .int a1, .int a2] : List Value).toArray := C
  have hx := C.1.1
  have hb := C.1.2.1
  have hl : lv_has ls 3 [(0, .ref (fw_ad X 352)), (1, .int a1), (2, .int a2)] := hl
  unfold F_X8_distanceByRelaxation at hF
  refine lv_aload_n hx hb dX8_distanceByRelaxation_0 rfl (lv_at hl 0 rfl) ?_
  refine lv_iload_n hx hb dX8_distanceByRelaxation_1 rfl (lv_at hl 1 rfl) ?_
  obtain ⟨oc, hf1, hF⟩ := bt_e hF
  refine fr_cVv (As := [.int a1]) (rest := []) C B (cm_X8_requireStop hlt hf1) ob_8 rfl yw_X8_requireStop wm_X8_98 rfl hl.1 rfl (Nat.le_of_ble_eq_true rfl) ⟨Nat.le_of_ble_eq_true rfl, Nat.le_of_ble_eq_true rfl⟩ ⟨Nat.le_of_ble_eq_true rfl, Nat.le_of_ble_eq_true rfl⟩ dX8_distanceByRelaxation_2 (fr_thru C hex hlk (fun e9 M1 h => by subst h; exact (Option.some.inj hF).symm) (Nat.le_of_ble_eq_true rfl) (Nat.le_of_ble_eq_true rfl)) (fun M3 H locs ho9 B => ?_)
  subst ho9
  rw [bt_i] at hF
  refine lv_aload_n hx hb dX8_distanceByRelaxation_5 rfl (lv_at hl 0 rfl) ?_
  refine lv_iload_n hx hb dX8_distanceByRelaxation_6 rfl (lv_at hl 2 rfl) ?_
  obtain ⟨oc, hf4, hF⟩ := bt_e hF
  refine fr_cVv (As := [.int a2]) (rest := []) C B (cm_X8_requireStop hlt hf4) ob_8 rfl yw_X8_requireStop wm_X8_98 rfl hl.1 rfl (Nat.le_of_ble_eq_true rfl) ⟨Nat.le_of_ble_eq_true rfl, Nat.le_of_ble_eq_true rfl⟩ ⟨Nat.le_of_ble_eq_true rfl, Nat.le_of_ble_eq_true rfl⟩ dX8_distanceByRelaxation_7 (fr_thru C hex hlk (fun e9 M1 h => by subst h; exact (Option.some.inj hF).symm) (Nat.le_of_ble_eq_true rfl) (Nat.le_of_ble_eq_true rfl)) (fun M6 H locs ho9 B => ?_)
  subst ho9
  rw [bt_i] at hF
  refine lv_aload_n hx hb dX8_distanceByRelaxation_10 rfl (lv_at hl 0 rfl) ?_
  refine gf_X8_32 C B dX8_distanceByRelaxation_11 ?_
  refine lv_aload_n hx hb dX8_distanceByRelaxation_14 rfl (lv_at hl 0 rfl) ?_
  refine gf_X8_12 C B dX8_distanceByRelaxation_15 ?_
  refine gf_X8_73 C B is7_0 dX8_distanceByRelaxation_18 ?_
  refine lv_iload_n hx hb dX8_distanceByRelaxation_21 rfl (lv_at hl 1 rfl) ?_
  refine lv_iload_n hx hb dX8_distanceByRelaxation_22 rfl (lv_at hl 2 rfl) ?_
  obtain ⟨r8, M9, hf7, hF⟩ := bp_e hF
  refine fr_cVi (As := [.ref (fw_ad X 1), .int a1, .int a2]) (rest := []) C B (cm_X5_stepsByRelaxation (is3_of is7_0) hf7) ob_5 rfl yw_X5_stepsByRelaxation wm_X8_287 rfl hl.1 rfl (Nat.le_of_ble_eq_true rfl) ⟨Nat.le_of_ble_eq_true rfl, Nat.le_of_ble_eq_true rfl⟩ ⟨Nat.le_of_ble_eq_true rfl, Nat.le_of_ble_eq_true rfl⟩ dX8_distanceByRelaxation_23 (fr_nx rfl) (fun r9 M9 H locs ho9 B => ?_)
  obtain ⟨rfl, rfl⟩ := oi_e ho9
  obtain ⟨oc, hf10, hF⟩ := bt_e hF
  refine fr_cSi (As := [.int r8]) (rest := []) C B (cm_X8_found hlt hf10) yw_X8_found wm_X8_185 rfl hl.1 rfl (Nat.le_of_ble_eq_true rfl) ⟨Nat.le_of_ble_eq_true rfl, Nat.le_of_ble_eq_true rfl⟩ ⟨Nat.le_of_ble_eq_true rfl, Nat.le_of_ble_eq_true rfl⟩ dX8_distanceByRelaxation_26 (fr_thru C hex hlk (fun e9 M1 h => by subst h; exact (Option.some.inj hF).symm) (Nat.le_of_ble_eq_true rfl) (Nat.le_of_ble_eq_true rfl)) (fun r11 M12 H locs ho9 B => ?_)
  subst ho9
  rw [bt_i] at hF
  exact fr_iret C B hr rfl hlk (by rw [← Option.some.inj hF]) (Nat.le_of_ble_eq_true rfl) (Nat.le_of_ble_eq_true rfl) dX8_distanceByRelaxation_29
def F_X8_isConsistent (M : fw_M) : Option (Int32 × fw_M) :=
  bd_x (F_X2_carriersKnow M 22) fun r2 =>
  if r2 = 0 then
    some (0, M)
  else
    bd_p (F_X5_methodsAgree M 1) fun r6 M7 =>
    if r6 = 0 then
      some (0, M7)
    else
      some (1, M7)
set_option maxHeartbeats 4000000 in
set_option maxRecDepth 100000 in
theorem cm_X8_isConsistent {l : Launch} {X : fw_X} {M : fw_M}  {o : Int32 × fw_M} (hF : F_X8_isConsistent M = some o) : ct_i l X yX8_isConsistent cX8_isConsistent 1 (some .boolean) ({ frames := 4, cells := 0, slots := 0, locals := 99 } : Room) M [.ref (fw_ad X 352)] (.inl o.1, o.2) := by
  refine fw_open rfl (Nat.le_of_ble_eq_true rfl) (fun p e s m below meth c ls C hr hlk hnm hex hl B => ?_)
  have C : fr_C X p c cX8_isConsistent 1 RX8 s m ([.ref (fw_ad X 352)] : List Value).toArray := C
  have hx := C.1.1
  have hb := C.1.2.1
  have hl : lv_has ls 1 [(0, .ref (fw_ad X 352))] := hl
  unfold F_X8_isConsistent at hF
  refine lv_aload_n hx hb dX8_isConsistent_0 rfl (lv_at hl 0 rfl) ?_
  refine gf_X8_12 C B dX8_isConsistent_1 ?_
  refine gf_X8_247 C B is7_0 dX8_isConsistent_4 ?_
  obtain ⟨r2, hf1, hF⟩ := bx_e hF
  refine fr_cVi (As := []) (rest := []) C B (cm_X2_carriersKnow (is2_of is7_0) hf1) (ob_2 (is2_of is7_0)) rfl yw_X2_carriersKnow wm_X8_328 rfl hl.1 rfl (Nat.le_of_ble_eq_true rfl) ⟨Nat.le_of_ble_eq_true rfl, Nat.le_of_ble_eq_true rfl⟩ ⟨Nat.le_of_ble_eq_true rfl, Nat.le_of_ble_eq_true rfl⟩ dX8_isConsistent_7 (fr_nx rfl) (fun r9 M9 H locs ho9 B => ?_)
  obtain ⟨rfl, rfl⟩ := oi_e ho9
  refine lv_if_eq (tgt := 34) hx hb dX8_isConsistent_10 (by decide) (fun c4 => ?_) (fun c4 => ?_)
  · have hF := it_t hF c4
    refine lv_iconst (v := 0) hx hb dX8_isConsistent_34 (by decide) ?_
    exact fr_iret C B hr rfl hlk (by rw [← Option.some.inj hF]) (Nat.le_of_ble_eq_true rfl) (Nat.le_of_ble_eq_true rfl) dX8_isConsistent_35
  · have hF := it_f hF c4
    refine lv_aload_n hx hb dX8_isConsistent_13 rfl (lv_at hl 0 rfl) ?_
    refine gf_X8_32 C B dX8_isConsistent_14 ?_
    refine lv_aload_n hx hb dX8_isConsistent_17 rfl (lv_at hl 0 rfl) ?_
    refine gf_X8_12 C B dX8_isConsistent_18 ?_
    refine gf_X8_73 C B is7_0 dX8_isConsistent_21 ?_
    obtain ⟨r6, M7, hf5, hF⟩ := bp_e hF
    refine fr_cVi (As := [.ref (fw_ad X 1)]) (rest := []) C B (cm_X5_methodsAgree (is3_of is7_0) hf5) ob_5 rfl yw_X5_methodsAgree wm_X8_332 rfl hl.1 rfl (Nat.le_of_ble_eq_true rfl) ⟨Nat.le_of_ble_eq_true rfl, Nat.le_of_ble_eq_true rfl⟩ ⟨Nat.le_of_ble_eq_true rfl, Nat.le_of_ble_eq_true rfl⟩ dX8_isConsistent_24 (fr_nx rfl) (fun r9 M9 H locs ho9 B => ?_)
    obtain ⟨rfl, rfl⟩ := oi_e ho9
    refine lv_if_eq (tgt := 34) hx hb dX8_isConsistent_27 (by decide) (fun c8 => ?_) (fun c8 => ?_)
    · have hF := it_t hF c8
      refine lv_iconst (v := 0) hx hb dX8_isConsistent_34 (by decide) ?_
      exact fr_iret C B hr rfl hlk (by rw [← Option.some.inj hF]) (Nat.le_of_ble_eq_true rfl) (Nat.le_of_ble_eq_true rfl) dX8_isConsistent_35
    · have hF := it_f hF c8
      refine lv_iconst (v := 1) hx hb dX8_isConsistent_30 (by decide) ?_
      refine lv_goto (tgt := 35) hx hb dX8_isConsistent_31 (by decide) ?_
      exact fr_iret C B hr rfl hlk (by rw [← Option.some.inj hF]) (Nat.le_of_ble_eq_true rfl) (Nat.le_of_ble_eq_true rfl) dX8_isConsistent_35
def F_X8_firstFailing_2   : Nat → Int32 → fw_M → Option (Int32 × fw_M)
  | 0, _, _ => none
  | n + 1, x1, M =>
    if (M 360 3) ≤ x1 then
      some ((-1), M)
    else
      if ix_i x1 12 then
      bd_p (F_X7_attempt M 0 (fw_ri M 362 x1) (364 + x1.toNatClampNeg) 3) fun r4 M5 =>
      if ¬ r4 = 0 then
        F_X8_firstFailing_2  n (x1 + 1) M5
      else
        some (x1, M5)
      else none
def F_X8_firstFailing (M : fw_M) : Option (Int32 × fw_M) :=
  F_X8_firstFailing_2 64 0 M
set_option maxHeartbeats 4000000 in
set_option maxRecDepth 100000 in
theorem cm_X8_firstFailing {l : Launch} {X : fw_X} {M : fw_M}  {o : Int32 × fw_M} (hF : F_X8_firstFailing M = some o) : ct_i l X yX8_firstFailing cX8_firstFailing 2 (some .int) ({ frames := 5, cells := 0, slots := 0, locals := 113 } : Room) M [.ref (fw_ad X 352)] (.inl o.1, o.2) := by
  refine fw_open rfl (Nat.le_of_ble_eq_true rfl) (fun p e s m below meth c ls C hr hlk hnm hex hl B => ?_)
  have C : fr_C X p c cX8_firstFailing 2 RX8 s m ([.ref (fw_ad X 352)] : List Value).toArray := C
  have hx := C.1.1
  have hb := C.1.2.1
  have hl : lv_has ls 2 [(0, .ref (fw_ad X 352))] := hl
  have hJ2 : ∀ (n : Nat), ∀ (x1 : Int32) (M : fw_M) (H : Heap) (locs : List Loc) (ls : Array Slot), F_X8_firstFailing_2  n x1 M = some o → fr_H X s M H locs → lv_has ls 2 [(0, .ref (fw_ad X 352)), (1, .int x1)] → W p l e ({ frames := 5, cells := 0, slots := 0, locals := 113 } : Room) s m ([.ref (fw_ad X 352)] : List Value).toArray below meth c H locs 0 0 (vx_MQ below (fw_Qi X (.inl o.1, o.2)) (fw_Qx X (.inl o.1, o.2)) ([.ref (fw_ad X 352)] : List Value).toArray s 0 0 (fw_A X)) (F0 m 2 ls []) := by
    intro n
    induction n with
    | zero =>
      intro x1 M H locs ls hF B hl
      exact absurd hF (by simp [F_X8_firstFailing_2])
    | succ n ih =>
      intro x1 M H locs ls hF B hl
      rw [F_X8_firstFailing_2] at hF
      refine lv_iload_n hx hb dX8_firstFailing_2 rfl (lv_at hl 1 rfl) ?_
      refine lv_aload_n hx hb dX8_firstFailing_3 rfl (lv_at hl 0 rfl) ?_
      refine gf_X8_39 C B dX8_firstFailing_4 ?_
      refine gf_X8_367 C B dX8_firstFailing_7 ?_
      refine lv_icmp_ge (tgt := 49) hx hb dX8_firstFailing_10 (by decide) (fun c1 => ?_) (fun c1 => ?_)
      · have hF := it_t hF c1
        refine lv_iconst (v := (-1)) hx hb dX8_firstFailing_49 (by decide) ?_
        exact fr_iret C B hr rfl hlk (by rw [← Option.some.inj hF]) (Nat.le_of_ble_eq_true rfl) (Nat.le_of_ble_eq_true rfl) dX8_firstFailing_50
      · have hF := it_f hF c1
        refine lv_aload_n hx hb dX8_firstFailing_13 rfl (lv_at hl 0 rfl) ?_
        refine gf_X8_12 C B dX8_firstFailing_14 ?_
        refine lv_aload_n hx hb dX8_firstFailing_17 rfl (lv_at hl 0 rfl) ?_
        refine gf_X8_39 C B dX8_firstFailing_18 ?_
        refine gf_X8_379 C B dX8_firstFailing_21 ?_
        refine lv_iload_n hx hb dX8_firstFailing_24 rfl (lv_at hl 1 rfl) ?_
        obtain ⟨c2, hF⟩ := of_g hF
        refine fr_ia C B ar_0_362 c2 dX8_firstFailing_25 ?_
        refine lv_aload_n hx hb dX8_firstFailing_26 rfl (lv_at hl 0 rfl) ?_
        refine gf_X8_39 C B dX8_firstFailing_27 ?_
        refine gf_X8_382 C B dX8_firstFailing_30 ?_
        refine lv_iload_n hx hb dX8_firstFailing_33 rfl (lv_at hl 1 rfl) ?_
        refine fr_aa C B aq_0 c2 dX8_firstFailing_34 ?_
        obtain ⟨r4, M5, hf3, hF⟩ := bp_e hF
        refine fr_cVi (As := [.int (fw_ri M 362 x1), .ref (fw_ad X (364 + x1.toNatClampNeg))]) (rest := []) C B (cm_X7_attempt is7_0 (ar_0_row (ix_lt c2)) hf3) (ob_7 is7_0) rfl yw_X7_attempt wm_X8_385 rfl hl.1 rfl (Nat.le_of_ble_eq_true rfl) ⟨Nat.le_of_ble_eq_true rfl, Nat.le_of_ble_eq_true rfl⟩ ⟨Nat.le_of_ble_eq_true rfl, Nat.le_of_ble_eq_true rfl⟩ dX8_firstFailing_35 (fr_nx rfl) (fun r9 M9 H locs ho9 B => ?_)
        obtain ⟨rfl, rfl⟩ := oi_e ho9
        refine lv_if_ne (tgt := 43) hx hb dX8_firstFailing_38 (by decide) (fun c6 => ?_) (fun c6 => ?_)
        · have hF := it_t hF c6
          refine lv_iinc (v := (x1 + 1)) (lv' := [(1, .int (x1 + 1)), (0, .ref (fw_ad X 352))]) hx hb dX8_firstFailing_43 hl (k := 1) rfl rfl (by decide) rfl (fun ls hl => ?_)
          refine lv_goto (tgt := 2) hx hb dX8_firstFailing_46 (by decide) ?_
          exact ih (x1 + 1) M5 _ _ _ hF B (lv_sub hl [1, 0] rfl)
        · have hF := it_f hF (not_not_intro c6)
          refine lv_iload_n hx hb dX8_firstFailing_41 rfl (lv_at hl 1 rfl) ?_
          exact fr_iret C B hr rfl hlk (by rw [← Option.some.inj hF]) (Nat.le_of_ble_eq_true rfl) (Nat.le_of_ble_eq_true rfl) dX8_firstFailing_42
  unfold F_X8_firstFailing at hF
  refine lv_iconst (v := 0) hx hb dX8_firstFailing_0 (by decide) ?_
  refine lv_istore_n (lv' := [(1, .int 0), (0, .ref (fw_ad X 352))]) hx hb dX8_firstFailing_1 rfl hl (by decide) rfl (fun ls hl => ?_)
  exact hJ2 64 0 M _ _ _ hF B (lv_sub hl [1, 0] rfl)
def F_X8_execute (M : fw_M) : Option (fw_O) :=
  bd_p (F_X0_parse M) fun r2 M3 =>
  bd_x (F_X0_empty M3) fun M6 =>
  if ¬ r2 = 0 then
    bd_x (F_X7_copyFrom M6 32 0) fun M10 =>
    bd_p (F_X8_firstFailing M10) fun r12 M13 =>
    if r12 = (-1) then
      bd_x (F_X4_remember M13 32) fun M17 =>
      some (.inl (M17 360 3), M17)
    else
      bd_x (F_X7_copyFrom M13 0 32) fun M20 =>
      lt_x (fw_up M20 352 9 r12) fun M21 =>
      some (.inr 2, M21)
  else
    lt_x (fw_up M6 352 8 (M6 360 2)) fun M22 =>
    some (.inr 1, M22)
set_option maxHeartbeats 4000000 in
set_option maxRecDepth 100000 in
theorem cm_X8_execute {l : Launch} {X : fw_X} {M : fw_M} (hlt : l.stackTraces = false)  {o : fw_O} (hF : F_X8_execute M = some o) : ct_i l X yX8_execute cX8_execute 3 (some .int) ({ frames := 8, cells := 1, slots := 6, locals := 175 } : Room) M [.ref (fw_ad X 352)] o := by
  refine fw_open rfl (Nat.le_of_ble_eq_true rfl) (fun p e s m below meth c ls C hr hlk hnm hex hl B => ?_)
  have C : fr_C X p c cX8_execute 3 RX8 s m ([.ref (fw_ad X 352)] : List Value).toArray := C
  have hx := C.1.1
  have hb := C.1.2.1
  have hl : lv_has ls 3 [(0, .ref (fw_ad X 352))] := hl
  unfold F_X8_execute at hF
  refine lv_aload_n hx hb dX8_execute_0 rfl (lv_at hl 0 rfl) ?_
  refine gf_X8_39 C B dX8_execute_1 ?_
  obtain ⟨r2, M3, hf1, hF⟩ := bp_e hF
  refine fr_cVi (As := []) (rest := []) C B (cm_X0_parse hf1) ob_0 rfl yw_X0_parse wm_X8_348 rfl hl.1 rfl (Nat.le_of_ble_eq_true rfl) ⟨Nat.le_of_ble_eq_true rfl, Nat.le_of_ble_eq_true rfl⟩ ⟨Nat.le_of_ble_eq_true rfl, Nat.le_of_ble_eq_true rfl⟩ dX8_execute_4 (fr_nx rfl) (fun r9 M9 H locs ho9 B => ?_)
  obtain ⟨rfl, rfl⟩ := oi_e ho9
  refine lv_istore_n (lv' := [(1, .int r2), (0, .ref (fw_ad X 352))]) hx hb dX8_execute_7 rfl hl (by decide) rfl (fun ls hl => ?_)
  refine lv_aload_n hx hb dX8_execute_8 rfl (lv_at hl 1 rfl) ?_
  refine gf_X8_39 C B dX8_execute_9 ?_
  obtain ⟨M6, hf4, hF⟩ := bx_e hF
  refine fr_cVv (As := []) (rest := []) C B (cm_X0_empty hf4) ob_0 rfl yw_X0_empty wm_X8_351 rfl hl.1 rfl (Nat.le_of_ble_eq_true rfl) ⟨Nat.le_of_ble_eq_true rfl, Nat.le_of_ble_eq_true rfl⟩ ⟨Nat.le_of_ble_eq_true rfl, Nat.le_of_ble_eq_true rfl⟩ dX8_execute_12 (fr_nx rfl) (fun M9 H locs ho9 B => ?_)
  obtain ⟨-, rfl⟩ := oi_e ho9
  refine lv_iload_n hx hb dX8_execute_15 rfl (lv_at hl 0 rfl) ?_
  refine lv_if_ne (tgt := 41) hx hb dX8_execute_16 (by decide) (fun c7 => ?_) (fun c7 => ?_)
  · have hF := it_t hF c7
    refine lv_aload_n hx hb dX8_execute_41 rfl (lv_at hl 1 rfl) ?_
    refine gf_X8_16 C B dX8_execute_42 ?_
    refine lv_aload_n hx hb dX8_execute_45 rfl (lv_at hl 1 rfl) ?_
    refine gf_X8_12 C B dX8_execute_46 ?_
    obtain ⟨M10, hf8, hF⟩ := bx_e hF
    refine fr_cVv (As := [.ref (fw_ad X 0)]) (rest := []) C B (cm_X7_copyFrom is7_32 is7_0 hf8) (ob_7 is7_32) rfl yw_X7_copyFrom wm_X8_359 rfl hl.1 rfl (Nat.le_of_ble_eq_true rfl) ⟨Nat.le_of_ble_eq_true rfl, Nat.le_of_ble_eq_true rfl⟩ ⟨Nat.le_of_ble_eq_true rfl, Nat.le_of_ble_eq_true rfl⟩ dX8_execute_49 (fr_nx rfl) (fun M9 H locs ho9 B => ?_)
    obtain ⟨-, rfl⟩ := oi_e ho9
    refine lv_aload_n hx hb dX8_execute_52 rfl (lv_at hl 1 rfl) ?_
    obtain ⟨r12, M13, hf11, hF⟩ := bp_e hF
    refine fr_cVi (As := []) (rest := []) C B (cm_X8_firstFailing hf11) ob_8 rfl yw_X8_firstFailing wm_X8_362 rfl hl.1 rfl (Nat.le_of_ble_eq_true rfl) ⟨Nat.le_of_ble_eq_true rfl, Nat.le_of_ble_eq_true rfl⟩ ⟨Nat.le_of_ble_eq_true rfl, Nat.le_of_ble_eq_true rfl⟩ dX8_execute_53 (fr_nx rfl) (fun r9 M9 H locs ho9 B => ?_)
    obtain ⟨rfl, rfl⟩ := oi_e ho9
    refine lv_istore_n (lv' := [(2, .int r12), (1, .int r2), (0, .ref (fw_ad X 352))]) hx hb dX8_execute_56 rfl hl (by decide) rfl (fun ls hl => ?_)
    refine lv_iload_n hx hb dX8_execute_57 rfl (lv_at hl 0 rfl) ?_
    refine lv_iconst (v := (-1)) hx hb dX8_execute_58 (by decide) ?_
    refine lv_icmp_eq (tgt := 89) hx hb dX8_execute_59 (by decide) (fun c14 => ?_) (fun c14 => ?_)
    · have hF := it_t hF c14
      refine lv_aload_n hx hb dX8_execute_89 rfl (lv_at hl 2 rfl) ?_
      refine gf_X8_25 C B dX8_execute_90 ?_
      refine lv_aload_n hx hb dX8_execute_93 rfl (lv_at hl 2 rfl) ?_
      refine gf_X8_16 C B dX8_execute_94 ?_
      obtain ⟨M17, hf15, hF⟩ := bx_e hF
      refine fr_cVv (As := [.ref (fw_ad X 32)]) (rest := []) C B (cm_X4_remember is7_32 hf15) ob_4 rfl yw_X4_remember wm_X8_69 rfl hl.1 rfl (Nat.le_of_ble_eq_true rfl) ⟨Nat.le_of_ble_eq_true rfl, Nat.le_of_ble_eq_true rfl⟩ ⟨Nat.le_of_ble_eq_true rfl, Nat.le_of_ble_eq_true rfl⟩ dX8_execute_97 (fr_nx rfl) (fun M9 H locs ho9 B => ?_)
      obtain ⟨-, rfl⟩ := oi_e ho9
      refine lv_aload_n hx hb dX8_execute_100 rfl (lv_at hl 2 rfl) ?_
      refine gf_X8_39 C B dX8_execute_101 ?_
      refine gf_X8_367 C B dX8_execute_104 ?_
      exact fr_iret C B hr rfl hlk (by rw [← Option.some.inj hF]) (Nat.le_of_ble_eq_true rfl) (Nat.le_of_ble_eq_true rfl) dX8_execute_107
    · have hF := it_f hF c14
      refine lv_aload_n hx hb dX8_execute_62 rfl (lv_at hl 2 rfl) ?_
      refine gf_X8_12 C B dX8_execute_63 ?_
      refine lv_aload_n hx hb dX8_execute_66 rfl (lv_at hl 2 rfl) ?_
      refine gf_X8_16 C B dX8_execute_67 ?_
      obtain ⟨M20, hf18, hF⟩ := bx_e hF
      refine fr_cVv (As := [.ref (fw_ad X 32)]) (rest := []) C B (cm_X7_copyFrom is7_0 is7_32 hf18) (ob_7 is7_0) rfl yw_X7_copyFrom wm_X8_359 rfl hl.1 rfl (Nat.le_of_ble_eq_true rfl) ⟨Nat.le_of_ble_eq_true rfl, Nat.le_of_ble_eq_true rfl⟩ ⟨Nat.le_of_ble_eq_true rfl, Nat.le_of_ble_eq_true rfl⟩ dX8_execute_70 (fr_nx rfl) (fun M9 H locs ho9 B => ?_)
      obtain ⟨-, rfl⟩ := oi_e ho9
      refine lv_aload_n hx hb dX8_execute_73 rfl (lv_at hl 2 rfl) ?_
      refine lv_iload_n hx hb dX8_execute_74 rfl (lv_at hl 0 rfl) ?_
      refine pf_X8_58 C B dX8_execute_75 (fun H locs B => ?_)
      obtain ⟨M21, eM21, hF⟩ := lt_e hF
      rw [← eM21] at B
      exact fr_throwW C B hlt hex hlk (n := 2) (id := 71) (text := "a command failed") xt_X8_2 (by decide +kernel) (by rw [← Option.some.inj hF]) hl.1 (Nat.le_of_ble_eq_true rfl) (Nat.le_of_ble_eq_true rfl) (Nat.le_of_ble_eq_true rfl) (Nat.le_of_ble_eq_true rfl) (Nat.le_of_ble_eq_true rfl) (Nat.le_of_ble_eq_true rfl) dX8_execute_78 dX8_execute_81 dX8_execute_82 dX8_execute_85 dX8_execute_88
  · have hF := it_f hF (not_not_intro c7)
    refine lv_aload_n hx hb dX8_execute_19 rfl (lv_at hl 1 rfl) ?_
    refine lv_aload_n hx hb dX8_execute_20 rfl (lv_at hl 1 rfl) ?_
    refine gf_X8_39 C B dX8_execute_21 ?_
    refine gf_X8_354 C B dX8_execute_24 ?_
    refine pf_X8_54 C B dX8_execute_27 (fun H locs B => ?_)
    obtain ⟨M22, eM22, hF⟩ := lt_e hF
    rw [← eM22] at B
    exact fr_throwW C B hlt hex hlk (n := 1) (id := 70) (text := "malformed text") xt_X8_1 (by decide +kernel) (by rw [← Option.some.inj hF]) hl.1 (Nat.le_of_ble_eq_true rfl) (Nat.le_of_ble_eq_true rfl) (Nat.le_of_ble_eq_true rfl) (Nat.le_of_ble_eq_true rfl) (Nat.le_of_ble_eq_true rfl) (Nat.le_of_ble_eq_true rfl) dX8_execute_30 dX8_execute_33 dX8_execute_34 dX8_execute_37 dX8_execute_40
