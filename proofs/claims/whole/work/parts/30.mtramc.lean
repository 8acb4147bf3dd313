def F_X8_changes (M : fw_M) (a1 : Int32) (a2 : Int32) : Option (fw_O) :=
  bd_t (F_X8_requireStop M a1) fun _ M3 =>
  bd_t (F_X8_requireStop M3 a2) fun _ M6 =>
  bd_p (F_X5_linesBySearch M6 1 a1 a2) fun r8 M9 =>
  bd_t (F_X8_found M9 r8) fun r11 M12 =>
  some (.inl r11, M12)
set_option maxHeartbeats 4000000 in
set_option maxRecDepth 100000 in
theorem cm_X8_changes {l : Launch} {X : fw_X} {M : fw_M} {a1 : Int32} {a2 : Int32} (hlt : l.stackTraces = false)  {o : fw_O} (hF : F_X8_changes M a1 a2 = some o) : ct_i l X yX8_changes cX8_changes 3 (some .int) ({ frames := 8, cells := 3, slots := 18, locals := 151 } : Room) M [.ref (fw_ad X 352), .int a1, .int a2] o := by
  refine fw_open rfl (Nat.le_of_ble_eq_true rfl) (fun p e s m below meth c ls C hr hlk hnm hex hl B => ?_)
  have C : fr_C X p c cX8_changes 3 RX8 s m ([.ref (fw_ad X 352), .int a1, .int a2] : List Value).toArray := C
  have hx := C.1.1
  have hb := C.1.2.1
  have hl : lv_has ls 3 [(0, .ref (fw_ad X 352)), (1, .int a1), (2, .int a2)] := hl
  unfold F_X8_changes at hF
  refine lv_aload_n hx hb dX8_changes_0 rfl (lv_at hl 0 rfl) ?_
  refine lv_iload_n hx hb dX8_changes_1 rfl (lv_at hl 1 rfl) ?_
  obtain ⟨oc, hf1, hF⟩ := bt_e hF
  refine fr_cVv (As := [.int a1]) (rest := []) C B (cm_X8_requireStop hlt hf1) ob_8 rfl yw_X8_requireStop wm_X8_98 rfl hl.1 rfl (Nat.le_of_ble_eq_true rfl) ⟨Nat.le_of_ble_eq_true rfl, Nat.le_of_ble_eq_true rfl⟩ ⟨Nat.le_of_ble_eq_true rfl, Nat.le_of_ble_eq_true rfl⟩ dX8_changes_2 (fr_thru C hex hlk (fun e9 M1 h => by subst h; exact (Option.some.inj hF).symm) (Nat.le_of_ble_eq_true rfl) (Nat.le_of_ble_eq_true rfl)) (fun M3 H locs ho9 B => ?_)
  subst ho9
  rw [bt_i] at hF
  refine lv_aload_n hx hb dX8_changes_5 rfl (lv_at hl 0 rfl) ?_
  refine lv_iload_n hx hb dX8_changes_6 rfl (lv_at hl 2 rfl) ?_
  obtain ⟨oc, hf4, hF⟩ := bt_e hF
  refine fr_cVv (As := [.int a2]) (rest := []) C B (cm_X8_requireStop hlt hf4) ob_8 rfl yw_X8_requireStop wm_X8_98 rfl hl.1 rfl (Nat.le_of_ble_eq_true rfl) ⟨Nat.le_of_ble_eq_true rfl, Nat.le_of_ble_eq_true rfl⟩ ⟨Nat.le_of_ble_eq_true rfl, Nat.le_of_ble_eq_true rfl⟩ dX8_changes_7 (fr_thru C hex hlk (fun e9 M1 h => by subst h; exact (Option.some.inj hF).symm) (Nat.le_of_ble_eq_true rfl) (Nat.le_of_ble_eq_true rfl)) (fun M6 H locs ho9 B => ?_)
  subst ho9
  rw [bt_i] at hF
  refine lv_aload_n hx hb dX8_changes_10 rfl (lv_at hl 0 rfl) ?_
  refine gf_X8_32 C B dX8_changes_11 ?_
  refine lv_aload_n hx hb dX8_changes_14 rfl (lv_at hl 0 rfl) ?_
  refine gf_X8_12 C B dX8_changes_15 ?_
  refine gf_X8_73 C B is7_0 dX8_changes_18 ?_
  refine lv_iload_n hx hb dX8_changes_21 rfl (lv_at hl 1 rfl) ?_
  refine lv_iload_n hx hb dX8_changes_22 rfl (lv_at hl 2 rfl) ?_
  obtain ⟨r8, M9, hf7, hF⟩ := bp_e hF
  refine fr_cVi (As := [.ref (fw_ad X 1), .int a1, .int a2]) (rest := []) C B (cm_X5_linesBySearch (is3_of is7_0) hf7) ob_5 rfl yw_X5_linesBySearch wm_X8_290 rfl hl.1 rfl (Nat.le_of_ble_eq_true rfl) ⟨Nat.le_of_ble_eq_true rfl, Nat.le_of_ble_eq_true rfl⟩ ⟨Nat.le_of_ble_eq_true rfl, Nat.le_of_ble_eq_true rfl⟩ dX8_changes_23 (fr_nx rfl) (fun r9 M9 H locs ho9 B => ?_)
  obtain ⟨rfl, rfl⟩ := oi_e ho9
  obtain ⟨oc, hf10, hF⟩ := bt_e hF
  refine fr_cSi (As := [.int r8]) (rest := []) C B (cm_X8_found hlt hf10) yw_X8_found wm_X8_185 rfl hl.1 rfl (Nat.le_of_ble_eq_true rfl) ⟨Nat.le_of_ble_eq_true rfl, Nat.le_of_ble_eq_true rfl⟩ ⟨Nat.le_of_ble_eq_true rfl, Nat.le_of_ble_eq_true rfl⟩ dX8_changes_26 (fr_thru C hex hlk (fun e9 M1 h => by subst h; exact (Option.some.inj hF).symm) (Nat.le_of_ble_eq_true rfl) (Nat.le_of_ble_eq_true rfl)) (fun r11 M12 H locs ho9 B => ?_)
  subst ho9
  rw [bt_i] at hF
  exact fr_iret C B hr rfl hlk (by rw [← Option.some.inj hF]) (Nat.le_of_ble_eq_true rfl) (Nat.le_of_ble_eq_true rfl) dX8_changes_29
def F_X8_changesByGrowth (M : fw_M) (a1 : Int32) (a2 : Int32) : Option (fw_O) :=
  bd_t (F_X8_requireStop M a1) fun _ M3 =>
  bd_t (F_X8_requireStop M3 a2) fun _ M6 =>
  bd_x (F_X5_linesByGrowth M6 1 a1 a2) fun r8 =>
  bd_t (F_X8_found M6 r8) fun r11 M12 =>
  some (.inl r11, M12)
set_option maxHeartbeats 4000000 in
set_option maxRecDepth 100000 in
theorem cm_X8_changesByGrowth {l : Launch} {X : fw_X} {M : fw_M} {a1 : Int32} {a2 : Int32} (hlt : l.stackTraces = false)  {o : fw_O} (hF : F_X8_changesByGrowth M a1 a2 = some o) : ct_i l X yX8_changesByGrowth cX8_changesByGrowth 3 (some .int) ({ frames := 8, cells := 3, slots := 18, locals := 151 } : Room) M [.ref (fw_ad X 352), .int a1, .int a2] o := by
  refine fw_open rfl (Nat.le_of_ble_eq_true rfl) (fun p e s m below meth c ls C hr hlk hnm hex hl B => ?_)
  have C : fr_C X p c cX8_changesByGrowth 3 RX8 s m ([.ref (fw_ad X 352), .int a1, .int a2] : List Value).toArray := C
  have hx := C.1.1
  have hb := C.1.2.1
  have hl : lv_has ls 3 [(0, .ref (fw_ad X 352)), (1, .int a1), (2, .int a2)] := hl
  unfold F_X8_changesByGrowth at hF
  refine lv_aload_n hx hb dX8_changesByGrowth_0 rfl (lv_at hl 0 rfl) ?_
  refine lv_iload_n hx hb dX8_changesByGrowth_1 rfl (lv_at hl 1 rfl) ?_
  obtain ⟨oc, hf1, hF⟩ := bt_e hF
  refine fr_cVv (As := [.int a1]) (rest := []) C B (cm_X8_requireStop hlt hf1) ob_8 rfl yw_X8_requireStop wm_X8_98 rfl hl.1 rfl (Nat.le_of_ble_eq_true rfl) ⟨Nat.le_of_ble_eq_true rfl, Nat.le_of_ble_eq_true rfl⟩ ⟨Nat.le_of_ble_eq_true rfl, Nat.le_of_ble_eq_true rfl⟩ dX8_changesByGrowth_2 (fr_thru C hex hlk (fun e9 M1 h => by subst h; exact (Option.some.inj hF).symm) (Nat.le_of_ble_eq_true rfl) (Nat.le_of_ble_eq_true rfl)) (fun M3 H locs ho9 B => ?_)
  subst ho9
  rw [bt_i] at hF
  refine lv_aload_n hx hb dX8_changesByGrowth_5 rfl (lv_at hl 0 rfl) ?_
  refine lv_iload_n hx hb dX8_changesByGrowth_6 rfl (lv_at hl 2 rfl) ?_
  obtain ⟨oc, hf4, hF⟩ := bt_e hF
  refine fr_cVv (As := [.int a2]) (rest := []) C B (cm_X8_requireStop hlt hf4) ob_8 rfl yw_X8_requireStop wm_X8_98 rfl hl.1 rfl (Nat.le_of_ble_eq_true rfl) ⟨Nat.le_of_ble_eq_true rfl, Nat.le_of_ble_eq_true rfl⟩ ⟨Nat.le_of_ble_eq_true rfl, Nat.le_of_ble_eq_true rfl⟩ dX8_changesByGrowth_7 (fr_thru C hex hlk (fun e9 M1 h => by subst h; exact (Option.some.inj hF).symm) (Nat.le_of_ble_eq_true rfl) (Nat.le_of_ble_eq_true rfl)) (fun M6 H locs ho9 B => ?_)
  subst ho9
  rw [bt_i] at hF
  refine lv_aload_n hx hb dX8_changesByGrowth_10 rfl (lv_at hl 0 rfl) ?_
  refine gf_X8_32 C B dX8_changesByGrowth_11 ?_
  refine lv_aload_n hx hb dX8_changesByGrowth_14 rfl (lv_at hl 0 rfl) ?_
  refine gf_X8_12 C B dX8_changesByGrowth_15 ?_
  refine gf_X8_73 C B is7_0 dX8_changesByGrowth_18 ?_
  refine lv_iload_n hx hb dX8_changesByGrowth_21 rfl (lv_at hl 1 rfl) ?_
  refine lv_iload_n hx hb dX8_changesByGrowth_22 rfl (lv_at hl 2 rfl) ?_
  obtain ⟨r8, hf7, hF⟩ := bx_e hF
  refine fr_cVi (As := [.ref (fw_ad X 1), .int a1, .int a2]) (rest := []) C B (cm_X5_linesByGrowth (is3_of is7_0) hf7) ob_5 rfl yw_X5_linesByGrowth wm_X8_293 rfl hl.1 rfl (Nat.le_of_ble_eq_true rfl) ⟨Nat.le_of_ble_eq_true rfl, Nat.le_of_ble_eq_true rfl⟩ ⟨Nat.le_of_ble_eq_true rfl, Nat.le_of_ble_eq_true rfl⟩ dX8_changesByGrowth_23 (fr_nx rfl) (fun r9 M9 H locs ho9 B => ?_)
  obtain ⟨rfl, rfl⟩ := oi_e ho9
  obtain ⟨oc, hf10, hF⟩ := bt_e hF
  refine fr_cSi (As := [.int r8]) (rest := []) C B (cm_X8_found hlt hf10) yw_X8_found wm_X8_185 rfl hl.1 rfl (Nat.le_of_ble_eq_true rfl) ⟨Nat.le_of_ble_eq_true rfl, Nat.le_of_ble_eq_true rfl⟩ ⟨Nat.le_of_ble_eq_true rfl, Nat.le_of_ble_eq_true rfl⟩ dX8_changesByGrowth_26 (fr_thru C hex hlk (fun e9 M1 h => by subst h; exact (Option.some.inj hF).symm) (Nat.le_of_ble_eq_true rfl) (Nat.le_of_ble_eq_true rfl)) (fun r11 M12 H locs ho9 B => ?_)
  subst ho9
  rw [bt_i] at hF
  exact fr_iret C B hr rfl hlk (by rw [← Option.some.inj hF]) (Nat.le_of_ble_eq_true rfl) (Nat.le_of_ble_eq_true rfl) dX8_changesByGrowth_29
def F_X8_errorPosition (M : fw_M) : Option (fw_O) :=
  bd_t (F_X8_found M (M 352 8)) fun r2 M3 =>
  some (.inl r2, M3)
set_option maxHeartbeats 4000000 in
set_option maxRecDepth 100000 in
theorem cm_X8_errorPosition {l : Launch} {X : fw_X} {M : fw_M} (hlt : l.stackTraces = false)  {o : fw_O} (hF : F_X8_errorPosition M = some o) : ct_i l X yX8_errorPosition cX8_errorPosition 1 (some .int) ({ frames := 8, cells := 1, slots := 6, locals := 150 } : Room) M [.ref (fw_ad X 352)] o := by
  refine fw_open rfl (Nat.le_of_ble_eq_true rfl) (fun p e s m below meth c ls C hr hlk hnm hex hl B => ?_)
  have C : fr_C X p c cX8_errorPosition 1 RX8 s m ([.ref (fw_ad X 352)] : List Value).toArray := C
  have hx := C.1.1
  have hb := C.1.2.1
  have hl : lv_has ls 1 [(0, .ref (fw_ad X 352))] := hl
  unfold F_X8_errorPosition at hF
  refine lv_aload_n hx hb dX8_errorPosition_0 rfl (lv_at hl 0 rfl) ?_
  refine gf_X8_54 C B dX8_errorPosition_1 ?_
  obtain ⟨oc, hf1, hF⟩ := bt_e hF
  refine fr_cSi (As := [.int (M 352 8)]) (rest := []) C B (cm_X8_found hlt hf1) yw_X8_found wm_X8_185 rfl hl.1 rfl (Nat.le_of_ble_eq_true rfl) ⟨Nat.le_of_ble_eq_true rfl, Nat.le_of_ble_eq_true rfl⟩ ⟨Nat.le_of_ble_eq_true rfl, Nat.le_of_ble_eq_true rfl⟩ dX8_errorPosition_4 (fr_thru C hex hlk (fun e9 M1 h => by subst h; exact (Option.some.inj hF).symm) (Nat.le_of_ble_eq_true rfl) (Nat.le_of_ble_eq_true rfl)) (fun r2 M3 H locs ho9 B => ?_)
  subst ho9
  rw [bt_i] at hF
  exact fr_iret C B hr rfl hlk (by rw [← Option.some.inj hF]) (Nat.le_of_ble_eq_true rfl) (Nat.le_of_ble_eq_true rfl) dX8_errorPosition_7
def F_X8_failedCommand (M : fw_M) : Option (fw_O) :=
  bd_t (F_X8_found M (M 352 9)) fun r2 M3 =>
  some (.inl r2, M3)
set_option maxHeartbeats 4000000 in
set_option maxRecDepth 100000 in
theorem cm_X8_failedCommand {l : Launch} {X : fw_X} {M : fw_M} (hlt : l.stackTraces = false)  {o : fw_O} (hF : F_X8_failedCommand M = some o) : ct_i l X yX8_failedCommand cX8_failedCommand 1 (some .int) ({ frames := 8, cells := 1, slots := 6, locals := 150 } : Room) M [.ref (fw_ad X 352)] o := by
  refine fw_open rfl (Nat.le_of_ble_eq_true rfl) (fun p e s m below meth c ls C hr hlk hnm hex hl B => ?_)
  have C : fr_C X p c cX8_failedCommand 1 RX8 s m ([.ref (fw_ad X 352)] : List Value).toArray := C
  have hx := C.1.1
  have hb := C.1.2.1
  have hl : lv_has ls 1 [(0, .ref (fw_ad X 352))] := hl
  unfold F_X8_failedCommand at hF
  refine lv_aload_n hx hb dX8_failedCommand_0 rfl (lv_at hl 0 rfl) ?_
  refine gf_X8_58 C B dX8_failedCommand_1 ?_
  obtain ⟨oc, hf1, hF⟩ := bt_e hF
  refine fr_cSi (As := [.int (M 352 9)]) (rest := []) C B (cm_X8_found hlt hf1) yw_X8_found wm_X8_185 rfl hl.1 rfl (Nat.le_of_ble_eq_true rfl) ⟨Nat.le_of_ble_eq_true rfl, Nat.le_of_ble_eq_true rfl⟩ ⟨Nat.le_of_ble_eq_true rfl, Nat.le_of_ble_eq_true rfl⟩ dX8_failedCommand_4 (fr_thru C hex hlk (fun e9 M1 h => by subst h; exact (Option.some.inj hF).symm) (Nat.le_of_ble_eq_true rfl) (Nat.le_of_ble_eq_true rfl)) (fun r2 M3 H locs ho9 B => ?_)
  subst ho9
  rw [bt_i] at hF
  exact fr_iret C B hr rfl hlk (by rw [← Option.some.inj hF]) (Nat.le_of_ble_eq_true rfl) (Nat.le_of_ble_eq_true rfl) dX8_failedCommand_7
def F_X8_undo (M : fw_M) : Option (fw_O) :=
  if ¬ (M 353 2) = 0 then
    bd_x (F_X4_takeBack M 0) fun M4 =>
    some (.inl (M4 353 2), M4)
  else
    some (.inr 2, M)
set_option maxHeartbeats 4000000 in
set_option maxRecDepth 100000 in
theorem cm_X8_undo {l : Launch} {X : fw_X} {M : fw_M} (hlt : l.stackTraces = false)  {o : fw_O} (hF : F_X8_undo M = some o) : ct_i l X yX8_undo cX8_undo 1 (some .int) ({ frames := 7, cells := 1, slots := 6, locals := 130 } : Room) M [.ref (fw_ad X 352)] o := by
  refine fw_open rfl (Nat.le_of_ble_eq_true rfl) (fun p e s m below meth c ls C hr hlk hnm hex hl B => ?_)
  have C : fr_C X p c cX8_undo 1 RX8 s m ([.ref (fw_ad X 352)] : List Value).toArray := C
  have hx := C.1.1
  have hb := C.1.2.1
  have hl : lv_has ls 1 [(0, .ref (fw_ad X 352))] := hl
  unfold F_X8_undo at hF
  refine lv_aload_n hx hb dX8_undo_0 rfl (lv_at hl 0 rfl) ?_
  refine gf_X8_25 C B dX8_undo_1 ?_
  refine gf_X8_368 C B dX8_undo_4 ?_
  refine lv_if_ne (tgt := 21) hx hb dX8_undo_7 (by decide) (fun c1 => ?_) (fun c1 => ?_)
  · have hF := it_t hF c1
    refine lv_aload_n hx hb dX8_undo_21 rfl (lv_at hl 0 rfl) ?_
    refine gf_X8_25 C B dX8_undo_22 ?_
    refine lv_aload_n hx hb dX8_undo_25 rfl (lv_at hl 0 rfl) ?_
    refine gf_X8_12 C B dX8_undo_26 ?_
    obtain ⟨M4, hf2, hF⟩ := bx_e hF
    refine fr_cVv (As := [.ref (fw_ad X 0)]) (rest := []) C B (cm_X4_takeBack is7_0 hf2) ob_4 rfl yw_X4_takeBack wm_X8_371 rfl hl.1 rfl (Nat.le_of_ble_eq_true rfl) ⟨Nat.le_of_ble_eq_true rfl, Nat.le_of_ble_eq_true rfl⟩ ⟨Nat.le_of_ble_eq_true rfl, Nat.le_of_ble_eq_true rfl⟩ dX8_undo_29 (fr_nx rfl) (fun M9 H locs ho9 B => ?_)
    obtain ⟨-, rfl⟩ := oi_e ho9
    refine lv_aload_n hx hb dX8_undo_32 rfl (lv_at hl 0 rfl) ?_
    refine gf_X8_25 C B dX8_undo_33 ?_
    refine gf_X8_368 C B dX8_undo_36 ?_
    exact fr_iret C B hr rfl hlk (by rw [← Option.some.inj hF]) (Nat.le_of_ble_eq_true rfl) (Nat.le_of_ble_eq_true rfl) dX8_undo_39
  · have hF := it_f hF (not_not_intro c1)
    exact fr_throwW C B hlt hex hlk (n := 2) (id := 72) (text := "nothing to undo") xt_X8_2 (by decide +kernel) (by rw [← Option.some.inj hF]) hl.1 (Nat.le_of_ble_eq_true rfl) (Nat.le_of_ble_eq_true rfl) (Nat.le_of_ble_eq_true rfl) (Nat.le_of_ble_eq_true rfl) (Nat.le_of_ble_eq_true rfl) (Nat.le_of_ble_eq_true rfl) dX8_undo_10 dX8_undo_13 dX8_undo_14 dX8_undo_17 dX8_undo_20
def F_X8_distance (M : fw_M) (a1 : Int32) (a2 : Int32) : Option (fw_O) :=
  bd_t (F_X8_requireStop M a1) fun _ M3 =>
  bd_t (F_X8_requireStop M3 a2) fun _ M6 =>
  bd_p (F_X5_stepsBySearch M6 1 a1 a2) fun r8 M9 =>
  bd_t (F_X8_found M9 r8) fun r11 M12 =>
  some (.inl r11, M12)
set_option maxHeartbeats 4000000 in
set_option maxRecDepth 100000 in
theorem cm_X8_distance {l : Launch} {X : fw_X} {M : fw_M} {a1 : Int32} {a2 : Int32} (hlt : l.stackTraces = false)  {o : fw_O} (hF : F_X8_distance M a1 a2 = some o) : ct_i l X yX8_distance cX8_distance 3 (some .int) ({ frames := 8, cells := 3, slots := 18, locals := 151 } : Room) M [.ref (fw_ad X 352), .int a1, .int a2] o := by
  refine fw_open rfl (Nat.le_of_ble_eq_true rfl) (fun p e s m below meth c ls C hr hlk hnm hex hl B => ?_)
  have C : fr_C X p c cX8_distance 3 RX8 s m ([.ref (fw_ad X 352), .int a1, .int a2] : List Value).toArray := C
  have hx := C.1.1
  have hb := C.1.2.1
  have hl : lv_has ls 3 [(0, .ref (fw_ad X 352)), (1, .int a1), (2, .int a2)] := hl
  unfold F_X8_distance at hF
  refine lv_aload_n hx hb dX8_distance_0 rfl (lv_at hl 0 rfl) ?_
  refine lv_iload_n hx hb dX8_distance_1 rfl (lv_at hl 1 rfl) ?_
  obtain ⟨oc, hf1, hF⟩ := bt_e hF
  refine fr_cVv (As := [.int a1]) (rest := []) C B (cm_X8_requireStop hlt hf1) ob_8 rfl yw_X8_requireStop wm_X8_98 rfl hl.1 rfl (Nat.le_of_ble_eq_true rfl) ⟨Nat.le_of_ble_eq_true rfl, Nat.le_of_ble_eq_true rfl⟩ ⟨Nat.le_of_ble_eq_true rfl, Nat.le_of_ble_eq_true rfl⟩ dX8_distance_2 (fr_thru C hex hlk (fun e9 M1 h => by subst h; exact (Option.some.inj hF).symm) (Nat.le_of_ble_eq_true rfl) (Nat.le_of_ble_eq_true rfl)) (fun M3 H locs ho9 B => ?_)
  subst ho9
  rw [bt_i] at hF
  refine lv_aload_n hx hb dX8_distance_5 rfl (lv_at hl 0 rfl) ?_
  refine lv_iload_n hx hb dX8_distance_6 rfl (lv_at hl 2 rfl) ?_
  obtain ⟨oc, hf4, hF⟩ := bt_e hF
  refine fr_cVv (As := [.int a2]) (rest := []) C B (cm_X8_requireStop hlt hf4) ob_8 rfl yw_X8_requireStop wm_X8_98 rfl hl.1 rfl (Nat.le_of_ble_eq_true rfl) ⟨Nat.le_of_ble_eq_true rfl, Nat.le_of_ble_eq_true rfl⟩ ⟨Nat.le_of_ble_eq_true rfl, Nat.le_of_ble_eq_true rfl⟩ dX8_distance_7 (fr_thru C hex hlk (fun e9 M1 h => by subst h; exact (Option.some.inj hF).symm) (Nat.le_of_ble_eq_true rfl) (Nat.le_of_ble_eq_true rfl)) (fun M6 H locs ho9 B => ?_)
  subst ho9
  rw [bt_i] at hF
  refine lv_aload_n hx hb dX8_distance_10 rfl (lv_at hl 0 rfl) ?_
  refine gf_X8_32 C B dX8_distance_11 ?_
  refine lv_aload_n hx hb dX8_distance_14 rfl (lv_at hl 0 rfl) ?_
  refine gf_X8_12 C B dX8_distance_15 ?_
  refine gf_X8_73 C B is7_0 dX8_distance_18 ?_
  refine lv_iload_n hx hb dX8_distance_21 rfl (lv_at hl 1 rfl) ?_
  refine lv_iload_n hx hb dX8_distance_22 rfl (lv_at hl 2 rfl) ?_
  obtain ⟨r8, M9, hf7, hF⟩ := bp_e hF
  refine fr_cVi (As := [.ref (fw_ad X 1), .int a1, .int a2]) (rest := []) C B (cm_X5_stepsBySearch (is3_of is7_0) hf7) ob_5 rfl yw_X5_stepsBySearch wm_X8_283 rfl hl.1 rfl (Nat.le_of_ble_eq_true rfl) ⟨Nat.le_of_ble_eq_true rfl, Nat.le_of_ble_eq_true rfl⟩ ⟨Nat.le_of_ble_eq_true rfl, Nat.le_of_ble_eq_true rfl⟩ dX8_distance_23 (fr_nx rfl) (fun r9 M9 H locs ho9 B => ?_)
  obtain ⟨rfl, rfl⟩ := oi_e ho9
  obtain ⟨oc, hf10, hF⟩ := bt_e hF
  refine fr_cSi (As := [.int r8]) (rest := []) C B (cm_X8_found hlt hf10) yw_X8_found wm_X8_185 rfl hl.1 rfl (Nat.le_of_ble_eq_true rfl) ⟨Nat.le_of_ble_eq_true rfl, Nat.le_of_ble_eq_true rfl⟩ ⟨Nat.le_of_ble_eq_true rfl, Nat.le_of_ble_eq_true rfl⟩ dX8_distance_26 (fr_thru C hex hlk (fun e9 M1 h => by subst h; exact (Option.some.inj hF).symm) (Nat.le_of_ble_eq_true rfl) (Nat.le_of_ble_eq_true rfl)) (fun r11 M12 H locs ho9 B => ?_)
  subst ho9
  rw [bt_i] at hF
  exact fr_iret C B hr rfl hlk (by rw [← Option.some.inj hF]) (Nat.le_of_ble_eq_true rfl) (Nat.le_of_ble_eq_true rfl) dX8_distance_29
def F_X8_distanceByRelaxation (M : fw_M) (a1 : Int32) (a2 : Int32) : Option (fw_O) :=
  bd_t (F_X8_requireStop M a1) fun _ M3 =>
  bd_t (F_X8_requireStop M3 a2) fun _ M6 =>
  bd_p (F_X5_stepsByRelaxation M6 1 a1 a2) fun r8 M9 =>
  bd_t (F_X8_found M9 r8) fun r11 M12 =>
  some (.inl r11, M12)
set_option maxHeartbeats 4000000 in
set_option maxRecDepth 100000 in
theorem cm_X8_distanceByRelaxation {l : Launch} {X : fw_X} {M : fw_M} {a1 : Int32} {a2 : Int32} (hlt : l.stackTraces = false)  {o : fw_O} (hF : F_X8_distanceByRelaxation M a1 a2 = some o) : ct_i l X yX8_distanceByRelaxation cX8_distanceByRelaxation 3 (some .int) ({ frames := 8, cells := 3, slots := 18, locals := 151 } : Room) M [.ref (fw_ad X 352), .int a1, .int a2] o := by
  refine fw_open rfl (Nat.le_of_ble_eq_true rfl) (fun p e s m below meth c ls C hr hlk hnm hex hl B => ?_)
  have C : fr_C X p c cX8_distanceByRelaxation 3 RX8 s m ([.ref (fw_ad X 352), .int a1, .int a2] : List Value).toArray := C
  have hx := C.1.1
  have hb := C.1.2.1
  have hl : lv_has ls 3 [(0, .ref (fw_ad X 352)), (1, .int a1), (2, .int a2)] := hl
  unfold F_X8_distanceByRelaxation at hF
  refine lv_aload_n hx hb dX8_distanceByRelaxation_0 rfl (lv_at hl 0 rfl) ?_
  refine lv_iload_n hx hb dX8_distanceByRelaxation_1 rfl (lv_at hl 1 rfl) ?_
  obtain ⟨oc, hf1, hF⟩ := bt_e hF
  refine fr_cVv (As := [.int a1]) (rest := []) C B (cm_X8_requireStop hlt hf1) ob_8 rfl yw_X8_requireStop wm_X8_98 rfl hl.1 rfl (Nat.le_of_ble_eq_true rfl) ⟨Nat.le_of_ble_eq_true rfl, Nat.le_of_ble_eq_true rfl⟩ ⟨Nat.le_of_ble_eq_true rfl, Nat.le_of_ble_eq_true rfl⟩ dX8_distanceByRelaxation_2 (fr_thru C hex hlk (fun e9 M1 h => by subst h; exact (Option.some.inj hF).symm) (Nat.le_of_ble_eq_true rfl) (Nat.le_of_ble_eq_true rfl)) (fun M3 H locs ho9 B => ?_)
  subst ho9
  rw [bt_i] at hF
  refine lv_aload_n hx hb dX8_distanceByRelaxation_5 rfl (lv_at hl 0 rfl) ?_
  refine lv_iload_n hx hb dX8_distanceByRelaxation_6 rfl (lv_at hl 2 rfl) ?_
  obtain ⟨oc, hf4, hF⟩ := bt_e hF
  refine fr_cVv (As := [.int a2]) (rest := []) C B (cm_X8_requireStop hlt hf4) ob_8 rfl yw_X8_requireStop wm_X8_98 rfl hl.1 rfl (Nat.le_of_ble_eq_true rfl) ⟨Nat.le_of_ble_eq_true rfl, Nat.le_of_ble_eq_true rfl⟩ ⟨Nat.le_of_ble_eq_true rfl, Nat.le_of_ble_eq_true rfl⟩ dX8_distanceByRelaxation_7 (fr_thru C hex hlk (fun e9 M1 h => by subst h; exact (Option.some.inj hF).symm) (Nat.le_of_ble_eq_true rfl) (Nat.le_of_ble_eq_true rfl)) (fun M6 H locs ho9 B => ?_)
  subst ho9
  rw [bt_i] at hF
  refine lv_aload_n hx hb dX8_distanceByRelaxation_10 rfl (lv_at hl 0 rfl) ?_
  refine gf_X8_32 C B dX8_distanceByRelaxation_11 ?_
  refine lv_aload_n hx hb dX8_distanceByRelaxation_14 rfl (lv_at hl 0 rfl) ?_
  refine gf_X8_12 C B dX8_distanceByRelaxation_15 ?_
  refine gf_X8_73 C B is7_0 dX8_distanceByRelaxation_18 ?_
  refine lv_iload_n hx hb dX8_distanceByRelaxation_21 rfl (lv_at hl 1 rfl) ?_
  refine lv_iload_n hx hb dX8_distanceByRelaxation_22 rfl (lv_at hl 2 rfl) ?_
  obtain ⟨r8, M9, hf7, hF⟩ := bp_e hF
  refine fr_cVi (As := [.ref (fw_ad X 1), .int a1, .int a2]) (rest := []) C B (cm_X5_stepsByRelaxation (is3_of is7_0) hf7) ob_5 rfl yw_X5_stepsByRelaxation wm_X8_287 rfl hl.1 rfl (Nat.le_of_ble_eq_true rfl) ⟨Nat.le_of_ble_eq_true rfl, Nat.le_of_ble_eq_true rfl⟩ ⟨Nat.le_of_ble_eq_true rfl, Nat.le_of_ble_eq_true rfl⟩ dX8_distanceByRelaxation_23 (fr_nx rfl) (fun r9 M9 H locs ho9 B => ?_)
  obtain ⟨rfl, rfl⟩ := oi_e ho9
  obtain ⟨oc, hf10, hF⟩ := bt_e hF
  refine fr_cSi (As := [.int r8]) (rest := []) C B (cm_X8_found hlt hf10) yw_X8_found wm_X8_185 rfl hl.1 rfl (Nat.le_of_ble_eq_true rfl) ⟨Nat.le_of_ble_eq_true rfl, Nat.le_of_ble_eq_true rfl⟩ ⟨Nat.le_of_ble_eq_true rfl, Nat.le_of_ble_eq_true rfl⟩ dX8_distanceByRelaxation_26 (fr_thru C hex hlk (fun e9 M1 h => by subst h; exact (Option.some.inj hF).symm) (Nat.le_of_ble_eq_true rfl) (Nat.le_of_ble_eq_true rfl)) (fun r11 M12 H locs ho9 B => ?_)
  subst ho9
  rw [bt_i] at hF
  exact fr_iret C B hr rfl hlk (by rw [← Option.some.inj hF]) (Nat.le_of_ble_eq_true rfl) (Nat.le_of_ble_eq_true rfl) dX8_distanceByRelaxation_29
def F_X8_isConsistent (M : fw_M) : Option (Int32 × fw_M) :=
  bd_x (F_X2_carriersKnow M 22) fun r2 =>
  if r2 = 0 then
    some (0, M)
  else
    bd_p (F_X5_methodsAgree M 1) fun r6 M7 =>
    if r6 = 0 then
      some (0, M7)
    else
      some (1, M7)
set_option maxHeartbeats 4000000 in
set_option maxRecDepth 100000 in
theorem cm_X8_isConsistent {l : Launch} {X : fw_X} {M : fw_M}  {o : Int32 × fw_M} (hF : F_X8_isConsistent M = some o) : ct_i l X yX8_isConsistent cX8_isConsistent 1 (some .boolean) ({ frames := 4, cells := 0, slots := 0, locals := 99 } : Room) M [.ref (fw_ad X 352)] (.inl o.1, o.2) := by
  refine fw_open rfl (Nat.le_of_ble_eq_true rfl) (fun p e s m below meth c ls C hr hlk hnm hex hl B => ?_)
  have C : fr_C X p c cX8_isConsistent 1 RX8 s m ([.ref (fw_ad X 352)] : List Value).toArray := C
  have hx := C.1.1
  have hb := C.1.2.1
  have hl : lv_has ls 1 [(0, .ref (fw_ad X 352))] := hl
  unfold F_X8_isConsistent at hF
  refine lv_aload_n hx hb dX8_isConsistent_0 rfl (lv_at hl 0 rfl) ?_
  refine gf_X8_12 C B dX8_isConsistent_1 ?_
  refine gf_X8_247 C B is7_0 dX8_isConsistent_4 ?_
  obtain ⟨r2, hf1, hF⟩ := bx_e hF
  refine fr_cVi (As := []) (rest := []) C B (cm_X2_carriersKnow (is2_of is7_0) hf1) (ob_2 (is2_of is7_0)) rfl yw_X2_carriersKnow wm_X8_328 rfl hl.1 rfl (Nat.le_of_ble_eq_true rfl) ⟨Nat.le_of_ble_eq_true rfl, Nat.le_of_ble_eq_true rfl⟩ ⟨Nat.le_of_ble_eq_true rfl, Nat.le_of_ble_eq_true rfl⟩ dX8_isConsistent_7 (fr_nx rfl) (fun r9 M9 H locs ho9 B => ?_)
  obtain ⟨rfl, rfl⟩ := oi_e ho9
  refine lv_if_eq (tgt := 34) hx hb dX8_isConsistent_10 (by decide) (fun c4 => ?_) (fun c4 => ?_)
  · have hF := it_t hF c4
    refine lv_iconst (v := 0) hx hb dX8_isConsistent_34 (by decide) ?_
    exact fr_iret C B hr rfl hlk (by rw [← Option.some.inj hF]) (Nat.le_of_ble_eq_true rfl) (Nat.le_of_ble_eq_true rfl) dX8_isConsistent_35
  · have hF := it_f hF c4
    refine lv_aload_n hx hb dX8_isConsistent_13 rfl (lv_at hl 0 rfl) ?_
    refine gf_X8_32 C B dX8_isConsistent_14 ?_
    refine lv_aload_n hx hb dX8_isConsistent_17 rfl (lv_at hl 0 rfl) ?_
    refine gf_X8_12 C B dX8_isConsistent_18 ?_
    refine gf_X8_73 C B is7_0 dX8_isConsistent_21 ?_
    obtain ⟨r6, M7, hf5, hF⟩ := bp_e hF
    refine fr_cVi (As := [.ref (fw_ad X 1)]) (rest := []) C B (cm_X5_methodsAgree (is3_of is7_0) hf5) ob_5 rfl yw_X5_methodsAgree wm_X8_332 rfl hl.1 rfl (Nat.le_of_ble_eq_true rfl) ⟨Nat.le_of_ble_eq_true rfl, Nat.le_of_ble_eq_true rfl⟩ ⟨Nat.le_of_ble_eq_true rfl, Nat.le_of_ble_eq_true rfl⟩ dX8_isConsistent_24 (fr_nx rfl) (fun r9 M9 H locs ho9 B => ?_)
    obtain ⟨rfl, rfl⟩ := oi_e ho9
    refine lv_if_eq (tgt := 34) hx hb dX8_isConsistent_27 (by decide) (fun c8 => ?_) (fun c8 => ?_)
    · have hF := it_t hF c8
      refine lv_iconst (v := 0) hx hb dX8_isConsistent_34 (by decide) ?_
      exact fr_iret C B hr rfl hlk (by rw [← Option.some.inj hF]) (Nat.le_of_ble_eq_true rfl) (Nat.le_of_ble_eq_true rfl) dX8_isConsistent_35
    · have hF := it_f hF c8
      refine lv_iconst (v := 1) hx hb dX8_isConsistent_30 (by decide) ?_
      refine lv_goto (tgt := 35) hx hb dX8_isConsistent_31 (by decide) ?_
      exact fr_iret C B hr rfl hlk (by rw [← Option.some.inj hF]) (Nat.le_of_ble_eq_true rfl) (Nat.le_of_ble_eq_true rfl) dX8_isConsistent_35
def F_X8_firstFailing_2   : Nat → Int32 → fw_M → Option (Int32 × fw_M)
  | 0, _, _ => none
  | n + 1, x1, M =>
    if (M 360 3) ≤ x1 then
      some ((-1), M)
    else
      if ix_i x1 12 then
      bd_p (F_X7_attempt M 0 (fw_ri M 362 x1) (364 + x1.toNatClampNeg) 3) fun r4 M5 =>
      if ¬ r4 = 0 then
        F_X8_firstFailing_2  n (x1 + 1) M5
      else
        some (x1, M5)
      else none
def F_X8_firstFailing (M : fw_M) : Option (Int32 × fw_M) :=
  F_X8_firstFailing_2 64 0 M
set_option maxHeartbeats 4000000 in
set_option maxRecDepth 100000 in
theorem cm_X8_firstFailing {l : Launch} {X : fw_X} {M : fw_M}  {o : Int32 × fw_M} (hF : F_X8_firstFailing M = some o) : ct_i l X yX8_firstFailing cX8_firstFailing 2 (some .int) ({ frames := 5, cells := 0, slots := 0, locals := 113 } : Room) M [.ref (fw_ad X 352)] (.inl o.1, o.2) := by
  refine fw_open rfl (Nat.le_of_ble_eq_true rfl) (fun p e s m below meth c ls C hr hlk hnm hex hl B => ?_)
  have C : fr_C X p c cX8_firstFailing 2 RX8 s m ([.ref (fw_ad X 352)] : List Value).toArray := C
  have hx := C.1.1
  have hb := C.1.2.1
  have hl : lv_has ls 2 [(0, .ref (fw_ad X 352))] := hl
  have hJ2 : ∀ (n : Nat), ∀ (x1 : Int32) (M : fw_M) (H : Heap) (locs : List Loc) (ls : Array Slot), F_X8_firstFailing_2  n x1 M = some o → fr_H X s M H locs → lv_has ls 2 [(0, .ref (fw_ad X 352)), (1, .int x1)] → W p l e ({ frames := 5, cells := 0, slots := 0, locals := 113 } : Room) s m ([.ref (fw_ad X 352)] : List Value).toArray below meth c H locs 0 0 (vx_MQ below (fw_Qi X (.inl o.1, o.2)) (fw_Qx X (.inl o.1, o.2)) ([.ref (fw_ad X 352)] : List Value).toArray s 0 0 (fw_A X)) (F0 m 2 ls []) := by
    intro n
    induction n with
    | zero =>
      intro x1 M H locs ls hF B hl
      exact absurd hF (by simp [F_X8_firstFailing_2])
    | succ n ih =>
      intro x1 M H locs ls hF B hl
      rw [F_X8_firstFailing_2] at hF
      refine lv_iload_n hx hb dX8_firstFailing_2 rfl (lv_at hl 1 rfl) ?_
      refine lv_aload_n hx hb dX8_firstFailing_3 rfl (lv_at hl 0 rfl) ?_
      refine gf_X8_39 C B dX8_firstFailing_4 ?_
      refine gf_X8_367 C B dX8_firstFailing_7 ?_
      refine lv_icmp_ge (tgt := 49) hx hb dX8_firstFailing_10 (by decide) (fun c1 => ?_) (fun c1 => ?_)
      · have hF := it_t hF c1
        refine lv_iconst (v := (-1)) hx hb dX8_firstFailing_49 (by decide) ?_
        exact fr_iret C B hr rfl hlk (by rw [← Option.some.inj hF]) (Nat.le_of_ble_eq_true rfl) (Nat.le_of_ble_eq_true rfl) dX8_firstFailing_50
      · have hF := it_f hF c1
        refine lv_aload_n hx hb dX8_firstFailing_13 rfl (lv_at hl 0 rfl) ?_
        refine gf_X8_12 C B dX8_firstFailing_14 ?_
        refine lv_aload_n hx hb dX8_firstFailing_17 rfl (lv_at hl 0 rfl) ?_
        refine gf_X8_39 C B dX8_firstFailing_18 ?_
        refine gf_X8_379 C B dX8_firstFailing_21 ?_
        refine lv_iload_n hx hb dX8_firstFailing_24 rfl (lv_at hl 1 rfl) ?_
        obtain ⟨c2, hF⟩ := of_g hF
        refine fr_ia C B ar_0_362 c2 dX8_firstFailing_25 ?_
        refine lv_aload_n hx hb dX8_firstFailing_26 rfl (lv_at hl 0 rfl) ?_
        refine gf_X8_39 C B dX8_firstFailing_27 ?_
        refine gf_X8_382 C B dX8_firstFailing_30 ?_
        refine lv_iload_n hx hb dX8_firstFailing_33 rfl (lv_at hl 1 rfl) ?_
        refine fr_aa C B aq_0 c2 dX8_firstFailing_34 ?_
        obtain ⟨r4, M5, hf3, hF⟩ := bp_e hF
        refine fr_cVi (As := [.int (fw_ri M 362 x1), .ref (fw_ad X (364 + x1.toNatClampNeg))]) (rest := []) C B (cm_X7_attempt is7_0 (ar_0_row (ix_lt c2)) hf3) (ob_7 is7_0) rfl yw_X7_attempt wm_X8_385 rfl hl.1 rfl (Nat.le_of_ble_eq_true rfl) ⟨Nat.le_of_ble_eq_true rfl, Nat.le_of_ble_eq_true rfl⟩ ⟨Nat.le_of_ble_eq_true rfl, Nat.le_of_ble_eq_true rfl⟩ dX8_firstFailing_35 (fr_nx rfl) (fun r9 M9 H locs ho9 B => ?_)
        obtain ⟨rfl, rfl⟩ := oi_e ho9
        refine lv_if_ne (tgt := 43) hx hb dX8_firstFailing_38 (by decide) (fun c6 => ?_) (fun c6 => ?_)
        · have hF := it_t hF c6
          refine lv_iinc (v := (x1 + 1)) (lv' := [(1, .int (x1 + 1)), (0, .ref (fw_ad X 352))]) hx hb dX8_firstFailing_43 hl (k := 1) rfl rfl (by decide) rfl (fun ls hl => ?_)
          refine lv_goto (tgt := 2) hx hb dX8_firstFailing_46 (by decide) ?_
          exact ih (x1 + 1) M5 _ _ _ hF B (lv_sub hl [1, 0] rfl)
        · have hF := it_f hF (not_not_intro c6)
          refine lv_iload_n hx hb dX8_firstFailing_41 rfl (lv_at hl 1 rfl) ?_
          exact fr_iret C B hr rfl hlk (by rw [← Option.some.inj hF]) (Nat.le_of_ble_eq_true rfl) (Nat.le_of_ble_eq_true rfl) dX8_firstFailing_42
  unfold F_X8_firstFailing at hF
  refine lv_iconst (v := 0) hx hb dX8_firstFailing_0 (by decide) ?_
  refine lv_istore_n (lv' := [(1, .int 0), (0, .ref (fw_ad X 352))]) hx hb dX8_firstFailing_1 rfl hl (by decide) rfl (fun ls hl => ?_)
  exact hJ2 64 0 M _ _ _ hF B (lv_sub hl [1, 0] rfl)
