def F_L_crowdOf (M : fw_M) (a1 : Int32) : Option (Int32 × fw_M) := wr_l (F_X8_crowdOf M a1) [0]
set_option maxHeartbeats 4000000 in
set_option maxRecDepth 100000 in
theorem cm_L_crowdOf {l : Launch} {X : fw_X} {M : fw_M} {a1 : Int32} {o : Int32 × fw_M} (hlt : l.stackTraces = false) (hF : F_L_crowdOf M a1 = some o) : ct_h l X yL_crowdOf cL_crowdOf 4 [(0, 9, 12, 21)] ({ frames := 9, cells := 1, slots := 6, locals := 172 } : Room) M [.ref (fw_ad X 352), .int a1, .ref (fw_ad X 386)] (.inl o.1, o.2) := by
  refine fw_openH rfl (Nat.le_of_ble_eq_true rfl) (fun p e s m below meth c ls C hr hlk hT hl B => ?_)
  have C : fr_C X p c cL_crowdOf 4 RL s m ([.ref (fw_ad X 352), .int a1, .ref (fw_ad X 386)] : List Value).toArray := C
  have hx := C.1.1
  have hb := C.1.2.1
  have hl : lv_has ls 4 [(0, .ref (fw_ad X 352)), (1, .int a1), (2, .ref (fw_ad X 386))] := hl
  unfold F_L_crowdOf at hF
  obtain ⟨oc, hn, hF⟩ := wl_e hF
  refine lv_aload_n hx hb dL_crowdOf_0 rfl (lv_at hl 2 rfl) ?_
  refine lv_iconst (v := 0) hx hb dL_crowdOf_1 (by decide) ?_
  refine lv_aload_n hx hb dL_crowdOf_2 rfl (lv_at hl 0 rfl) ?_
  refine lv_iload_n hx hb dL_crowdOf_3 rfl (lv_at hl 1 rfl) ?_
  refine fr_cVi (As := [.int a1]) (rest := [.int 0, .ref (fw_ad X 386)]) C B (cm_X8_crowdOf hlt hn) ob_8 rfl yw_X8_crowdOf wm_L_56 rfl hl.1 rfl (Nat.le_of_ble_eq_true rfl) ⟨Nat.le_of_ble_eq_true rfl, Nat.le_of_ble_eq_true rfl⟩ ⟨Nat.le_of_ble_eq_true rfl, Nat.le_of_ble_eq_true rfl⟩ dL_crowdOf_4 ?_ ?_
  · intro e9 M1 ce q9 H1 locs1 h B hce hcv hcl
    subst h
    obtain ⟨hm, rfl⟩ := wl_r hF
    rcases (show e9 = 0 by simpa using hm) with rfl
    · refine fr_catch (e9 := 0) C [] ⟨0, 9, 12, 21⟩ [] (hT.trans rfl) (fun q hq => nomatch hq) (by decide) rfl (by decide) wl_L_21 hce hcv hcl ?_
      refine lv_astore_n (lv' := [(3, .ref q9), (0, .ref (fw_ad X 352)), (1, .int a1), (2, .ref (fw_ad X 386))]) hx hb dL_crowdOf_12 rfl hl (by decide) rfl (fun ls hl => ?_)
      refine lv_iconst (v := 1) hx hb dL_crowdOf_13 (by decide) ?_
      exact fr_iret C B hr rfl hlk rfl (Nat.le_of_ble_eq_true rfl) (Nat.le_of_ble_eq_true rfl) dL_crowdOf_14
  · intro r M1 H locs h B
    subst h
    have hF := Option.some.inj hF
    refine lv_i2l hx hb dL_crowdOf_7 rfl ?_
    refine fr_ls (x := r) C B dL_crowdOf_8 (fun H locs B => ?_)
    refine lv_goto (tgt := 15) hx hb dL_crowdOf_9 (by decide) ?_
    refine lv_iconst (v := 0) hx hb dL_crowdOf_15 (by decide) ?_
    exact fr_iret C B hr rfl hlk (by rw [← hF]) (Nat.le_of_ble_eq_true rfl) (Nat.le_of_ble_eq_true rfl) dL_crowdOf_16
def F_L_fullestTram (M : fw_M)  : Option (Int32 × fw_M) := wr_l (F_X8_fullestTram M ) [3]
set_option maxHeartbeats 4000000 in
set_option maxRecDepth 100000 in
theorem cm_L_fullestTram {l : Launch} {X : fw_X} {M : fw_M}  {o : Int32 × fw_M} (hlt : l.stackTraces = false) (hF : F_L_fullestTram M  = some o) : ct_h l X yL_fullestTram cL_fullestTram 3 [(0, 8, 11, 39)] ({ frames := 8, cells := 1, slots := 6, locals := 152 } : Room) M [.ref (fw_ad X 352), .ref (fw_ad X 386)] (.inl o.1, o.2) := by
  refine fw_openH rfl (Nat.le_of_ble_eq_true rfl) (fun p e s m below meth c ls C hr hlk hT hl B => ?_)
  have C : fr_C X p c cL_fullestTram 3 RL s m ([.ref (fw_ad X 352), .ref (fw_ad X 386)] : List Value).toArray := C
  have hx := C.1.1
  have hb := C.1.2.1
  have hl : lv_has ls 3 [(0, .ref (fw_ad X 352)), (1, .ref (fw_ad X 386))] := hl
  unfold F_L_fullestTram at hF
  obtain ⟨oc, hn, hF⟩ := wl_e hF
  refine lv_aload_n hx hb dL_fullestTram_0 rfl (lv_at hl 1 rfl) ?_
  refine lv_iconst (v := 0) hx hb dL_fullestTram_1 (by decide) ?_
  refine lv_aload_n hx hb dL_fullestTram_2 rfl (lv_at hl 0 rfl) ?_
  refine fr_cVi (As := []) (rest := [.int 0, .ref (fw_ad X 386)]) C B (cm_X8_fullestTram hlt hn) ob_8 rfl yw_X8_fullestTram wm_L_59 rfl hl.1 rfl (Nat.le_of_ble_eq_true rfl) ⟨Nat.le_of_ble_eq_true rfl, Nat.le_of_ble_eq_true rfl⟩ ⟨Nat.le_of_ble_eq_true rfl, Nat.le_of_ble_eq_true rfl⟩ dL_fullestTram_3 ?_ ?_
  · intro e9 M1 ce q9 H1 locs1 h B hce hcv hcl
    subst h
    obtain ⟨hm, rfl⟩ := wl_r hF
    rcases (show e9 = 3 by simpa using hm) with rfl
    · refine fr_catch (e9 := 3) C [] ⟨0, 8, 11, 39⟩ [] (hT.trans rfl) (fun q hq => nomatch hq) (by decide) rfl (by decide) wl_L_39 hce hcv hcl ?_
      refine lv_astore_n (lv' := [(2, .ref q9), (0, .ref (fw_ad X 352)), (1, .ref (fw_ad X 386))]) hx hb dL_fullestTram_11 rfl hl (by decide) rfl (fun ls hl => ?_)
      refine lv_iconst (v := 1) hx hb dL_fullestTram_12 (by decide) ?_
      exact fr_iret C B hr rfl hlk rfl (Nat.le_of_ble_eq_true rfl) (Nat.le_of_ble_eq_true rfl) dL_fullestTram_13
  · intro r M1 H locs h B
    subst h
    have hF := Option.some.inj hF
    refine lv_i2l hx hb dL_fullestTram_6 rfl ?_
    refine fr_ls (x := r) C B dL_fullestTram_7 (fun H locs B => ?_)
    refine lv_goto (tgt := 14) hx hb dL_fullestTram_8 (by decide) ?_
    refine lv_iconst (v := 0) hx hb dL_fullestTram_14 (by decide) ?_
    exact fr_iret C B hr rfl hlk (by rw [← hF]) (Nat.le_of_ble_eq_true rfl) (Nat.le_of_ble_eq_true rfl) dL_fullestTram_15
def F_L_arrivalOf (M : fw_M) (a1 : Int32) (a2 : Int32) : Option (Int32 × fw_M) := wr_l (F_X8_arrivalOf M a1 a2) [0, 3]
set_option maxHeartbeats 4000000 in
set_option maxRecDepth 100000 in
theorem cm_L_arrivalOf {l : Launch} {X : fw_X} {M : fw_M} {a1 : Int32} {a2 : Int32} {o : Int32 × fw_M} (hlt : l.stackTraces = false) (hF : F_L_arrivalOf M a1 a2 = some o) : ct_h l X yL_arrivalOf cL_arrivalOf 5 [(0, 10, 13, 21), (0, 10, 17, 39)] ({ frames := 9, cells := 3, slots := 18, locals := 173 } : Room) M [.ref (fw_ad X 352), .int a1, .int a2, .ref (fw_ad X 386)] (.inl o.1, o.2) := by
  refine fw_openH rfl (Nat.le_of_ble_eq_true rfl) (fun p e s m below meth c ls C hr hlk hT hl B => ?_)
  have C : fr_C X p c cL_arrivalOf 5 RL s m ([.ref (fw_ad X 352), .int a1, .int a2, .ref (fw_ad X 386)] : List Value).toArray := C
  have hx := C.1.1
  have hb := C.1.2.1
  have hl : lv_has ls 5 [(0, .ref (fw_ad X 352)), (1, .int a1), (2, .int a2), (3, .ref (fw_ad X 386))] := hl
  unfold F_L_arrivalOf at hF
  obtain ⟨oc, hn, hF⟩ := wl_e hF
  refine lv_aload_n hx hb dL_arrivalOf_0 rfl (lv_at hl 3 rfl) ?_
  refine lv_iconst (v := 0) hx hb dL_arrivalOf_1 (by decide) ?_
  refine lv_aload_n hx hb dL_arrivalOf_2 rfl (lv_at hl 0 rfl) ?_
  refine lv_iload_n hx hb dL_arrivalOf_3 rfl (lv_at hl 1 rfl) ?_
  refine lv_iload_n hx hb dL_arrivalOf_4 rfl (lv_at hl 2 rfl) ?_
  refine fr_cVi (As := [.int a1, .int a2]) (rest := [.int 0, .ref (fw_ad X 386)]) C B (cm_X8_arrivalOf hlt hn) ob_8 rfl yw_X8_arrivalOf wm_L_63 rfl hl.1 rfl (Nat.le_of_ble_eq_true rfl) ⟨Nat.le_of_ble_eq_true rfl, Nat.le_of_ble_eq_true rfl⟩ ⟨Nat.le_of_ble_eq_true rfl, Nat.le_of_ble_eq_true rfl⟩ dL_arrivalOf_5 ?_ ?_
  · intro e9 M1 ce q9 H1 locs1 h B hce hcv hcl
    subst h
    obtain ⟨hm, rfl⟩ := wl_r hF
    rcases (show e9 = 0 ∨ e9 = 3 by simpa using hm) with rfl | rfl
    · refine fr_catch (e9 := 0) C [] ⟨0, 10, 13, 21⟩ [⟨0, 10, 17, 39⟩] (hT.trans rfl) (fun q hq => nomatch hq) (by decide) rfl (by decide) wl_L_21 hce hcv hcl ?_
      refine lv_astore (lv' := [(4, .ref q9), (0, .ref (fw_ad X 352)), (1, .int a1), (2, .int a2), (3, .ref (fw_ad X 386))]) hx hb dL_arrivalOf_13 hl (by decide) rfl (fun ls hl => ?_)
      refine lv_iconst (v := 1) hx hb dL_arrivalOf_15 (by decide) ?_
      exact fr_iret C B hr rfl hlk rfl (Nat.le_of_ble_eq_true rfl) (Nat.le_of_ble_eq_true rfl) dL_arrivalOf_16
    · refine fr_catch (e9 := 3) C [(⟨0, 10, 13, 21⟩, 0)] ⟨0, 10, 17, 39⟩ [] (hT.trans rfl) (List.forall_mem_cons.mpr ⟨⟨by decide, by decide, by decide, wl_L_21⟩, (fun q hq => nomatch hq)⟩) (by decide) rfl (by decide) wl_L_39 hce hcv hcl ?_
      refine lv_astore (lv' := [(4, .ref q9), (0, .ref (fw_ad X 352)), (1, .int a1), (2, .int a2), (3, .ref (fw_ad X 386))]) hx hb dL_arrivalOf_17 hl (by decide) rfl (fun ls hl => ?_)
      refine lv_iconst (v := 2) hx hb dL_arrivalOf_19 (by decide) ?_
      exact fr_iret C B hr rfl hlk rfl (Nat.le_of_ble_eq_true rfl) (Nat.le_of_ble_eq_true rfl) dL_arrivalOf_20
  · intro r M1 H locs h B
    subst h
    have hF := Option.some.inj hF
    refine lv_i2l hx hb dL_arrivalOf_8 rfl ?_
    refine fr_ls (x := r) C B dL_arrivalOf_9 (fun H locs B => ?_)
    refine lv_goto (tgt := 21) hx hb dL_arrivalOf_10 (by decide) ?_
    refine lv_iconst (v := 0) hx hb dL_arrivalOf_21 (by decide) ?_
    exact fr_iret C B hr rfl hlk (by rw [← hF]) (Nat.le_of_ble_eq_true rfl) (Nat.le_of_ble_eq_true rfl) dL_arrivalOf_22
def F_L_arrivalBySimulation (M : fw_M) (a1 : Int32) (a2 : Int32) : Option (Int32 × fw_M) := wr_l (F_X8_arrivalBySimulation M a1 a2) [0, 3]
set_option maxHeartbeats 4000000 in
set_option maxRecDepth 100000 in
theorem cm_L_arrivalBySimulation {l : Launch} {X : fw_X} {M : fw_M} {a1 : Int32} {a2 : Int32} {o : Int32 × fw_M} (hlt : l.stackTraces = false) (hF : F_L_arrivalBySimulation M a1 a2 = some o) : ct_h l X yL_arrivalBySimulation cL_arrivalBySimulation 5 [(0, 10, 13, 21), (0, 10, 17, 39)] ({ frames := 9, cells := 3, slots := 18, locals := 173 } : Room) M [.ref (fw_ad X 352), .int a1, .int a2, .ref (fw_ad X 386)] (.inl o.1, o.2) := by
  refine fw_openH rfl (Nat.le_of_ble_eq_true rfl) (fun p e s m below meth c ls C hr hlk hT hl B => ?_)
  have C : fr_C X p c cL_arrivalBySimulation 5 RL s m ([.ref (fw_ad X 352), .int a1, .int a2, .ref (fw_ad X 386)] : List Value).toArray := C
  have hx := C.1.1
  have hb := C.1.2.1
  have hl : lv_has ls 5 [(0, .ref (fw_ad X 352)), (1, .int a1), (2, .int a2), (3, .ref (fw_ad X 386))] := hl
  unfold F_L_arrivalBySimulation at hF
  obtain ⟨oc, hn, hF⟩ := wl_e hF
  refine lv_aload_n hx hb dL_arrivalBySimulation_0 rfl (lv_at hl 3 rfl) ?_
  refine lv_iconst (v := 0) hx hb dL_arrivalBySimulation_1 (by decide) ?_
  refine lv_aload_n hx hb dL_arrivalBySimulation_2 rfl (lv_at hl 0 rfl) ?_
  refine lv_iload_n hx hb dL_arrivalBySimulation_3 rfl (lv_at hl 1 rfl) ?_
  refine lv_iload_n hx hb dL_arrivalBySimulation_4 rfl (lv_at hl 2 rfl) ?_
  refine fr_cVi (As := [.int a1, .int a2]) (rest := [.int 0, .ref (fw_ad X 386)]) C B (cm_X8_arrivalBySimulation hlt hn) ob_8 rfl yw_X8_arrivalBySimulation wm_L_66 rfl hl.1 rfl (Nat.le_of_ble_eq_true rfl) ⟨Nat.le_of_ble_eq_true rfl, Nat.le_of_ble_eq_true rfl⟩ ⟨Nat.le_of_ble_eq_true rfl, Nat.le_of_ble_eq_true rfl⟩ dL_arrivalBySimulation_5 ?_ ?_
  · intro e9 M1 ce q9 H1 locs1 h B hce hcv hcl
    subst h
    obtain ⟨hm, rfl⟩ := wl_r hF
    rcases (show e9 = 0 ∨ e9 = 3 by simpa using hm) with rfl | rfl
    · refine fr_catch (e9 := 0) C [] ⟨0, 10, 13, 21⟩ [⟨0, 10, 17, 39⟩] (hT.trans rfl) (fun q hq => nomatch hq) (by decide) rfl (by decide) wl_L_21 hce hcv hcl ?_
      refine lv_astore (lv' := [(4, .ref q9), (0, .ref (fw_ad X 352)), (1, .int a1), (2, .int a2), (3, .ref (fw_ad X 386))]) hx hb dL_arrivalBySimulation_13 hl (by decide) rfl (fun ls hl => ?_)
      refine lv_iconst (v := 1) hx hb dL_arrivalBySimulation_15 (by decide) ?_
      exact fr_iret C B hr rfl hlk rfl (Nat.le_of_ble_eq_true rfl) (Nat.le_of_ble_eq_true rfl) dL_arrivalBySimulation_16
    · refine fr_catch (e9 := 3) C [(⟨0, 10, 13, 21⟩, 0)] ⟨0, 10, 17, 39⟩ [] (hT.trans rfl) (List.forall_mem_cons.mpr ⟨⟨by decide, by decide, by decide, wl_L_21⟩, (fun q hq => nomatch hq)⟩) (by decide) rfl (by decide) wl_L_39 hce hcv hcl ?_
      refine lv_astore (lv' := [(4, .ref q9), (0, .ref (fw_ad X 352)), (1, .int a1), (2, .int a2), (3, .ref (fw_ad X 386))]) hx hb dL_arrivalBySimulation_17 hl (by decide) rfl (fun ls hl => ?_)
      refine lv_iconst (v := 2) hx hb dL_arrivalBySimulation_19 (by decide) ?_
      exact fr_iret C B hr rfl hlk rfl (Nat.le_of_ble_eq_true rfl) (Nat.le_of_ble_eq_true rfl) dL_arrivalBySimulation_20
  · intro r M1 H locs h B
    subst h
    have hF := Option.some.inj hF
    refine lv_i2l hx hb dL_arrivalBySimulation_8 rfl ?_
    refine fr_ls (x := r) C B dL_arrivalBySimulation_9 (fun H locs B => ?_)
    refine lv_goto (tgt := 21) hx hb dL_arrivalBySimulation_10 (by decide) ?_
    refine lv_iconst (v := 0) hx hb dL_arrivalBySimulation_21 (by decide) ?_
    exact fr_iret C B hr rfl hlk (by rw [← hF]) (Nat.le_of_ble_eq_true rfl) (Nat.le_of_ble_eq_true rfl) dL_arrivalBySimulation_22
def F_L_addPassenger (M : fw_M) (a1 : Int32) : Option (Int32 × fw_M) := wr_l (F_X8_addPassenger M a1) [0, 2]
set_option maxHeartbeats 4000000 in
set_option maxRecDepth 100000 in
theorem cm_L_addPassenger {l : Launch} {X : fw_X} {M : fw_M} {a1 : Int32} {o : Int32 × fw_M} (hlt : l.stackTraces = false) (hF : F_L_addPassenger M a1 = some o) : ct_h l X yL_addPassenger cL_addPassenger 4 [(0, 9, 12, 21), (0, 9, 15, 15)] ({ frames := 9, cells := 1, slots := 6, locals := 171 } : Room) M [.ref (fw_ad X 352), .int a1, .ref (fw_ad X 386)] (.inl o.1, o.2) := by
  refine fw_openH rfl (Nat.le_of_ble_eq_true rfl) (fun p e s m below meth c ls C hr hlk hT hl B => ?_)
  have C : fr_C X p c cL_addPassenger 4 RL s m ([.ref (fw_ad X 352), .int a1, .ref (fw_ad X 386)] : List Value).toArray := C
  have hx := C.1.1
  have hb := C.1.2.1
  have hl : lv_has ls 4 [(0, .ref (fw_ad X 352)), (1, .int a1), (2, .ref (fw_ad X 386))] := hl
  unfold F_L_addPassenger at hF
  obtain ⟨oc, hn, hF⟩ := wl_e hF
  refine lv_aload_n hx hb dL_addPassenger_0 rfl (lv_at hl 2 rfl) ?_
  refine lv_iconst (v := 0) hx hb dL_addPassenger_1 (by decide) ?_
  refine lv_aload_n hx hb dL_addPassenger_2 rfl (lv_at hl 0 rfl) ?_
  refine lv_iload_n hx hb dL_addPassenger_3 rfl (lv_at hl 1 rfl) ?_
  refine fr_cVi (As := [.int a1]) (rest := [.int 0, .ref (fw_ad X 386)]) C B (cm_X8_addPassenger hlt hn) ob_8 rfl yw_X8_addPassenger wm_L_69 rfl hl.1 rfl (Nat.le_of_ble_eq_true rfl) ⟨Nat.le_of_ble_eq_true rfl, Nat.le_of_ble_eq_true rfl⟩ ⟨Nat.le_of_ble_eq_true rfl, Nat.le_of_ble_eq_true rfl⟩ dL_addPassenger_4 ?_ ?_
  · intro e9 M1 ce q9 H1 locs1 h B hce hcv hcl
    subst h
    obtain ⟨hm, rfl⟩ := wl_r hF
    rcases (show e9 = 0 ∨ e9 = 2 by simpa using hm) with rfl | rfl
    · refine fr_catch (e9 := 0) C [] ⟨0, 9, 12, 21⟩ [⟨0, 9, 15, 15⟩] (hT.trans rfl) (fun q hq => nomatch hq) (by decide) rfl (by decide) wl_L_21 hce hcv hcl ?_
      refine lv_astore_n (lv' := [(3, .ref q9), (0, .ref (fw_ad X 352)), (1, .int a1), (2, .ref (fw_ad X 386))]) hx hb dL_addPassenger_12 rfl hl (by decide) rfl (fun ls hl => ?_)
      refine lv_iconst (v := 1) hx hb dL_addPassenger_13 (by decide) ?_
      exact fr_iret C B hr rfl hlk rfl (Nat.le_of_ble_eq_true rfl) (Nat.le_of_ble_eq_true rfl) dL_addPassenger_14
    · refine fr_catch (e9 := 2) C [(⟨0, 9, 12, 21⟩, 0)] ⟨0, 9, 15, 15⟩ [] (hT.trans rfl) (List.forall_mem_cons.mpr ⟨⟨by decide, by decide, by decide, wl_L_21⟩, (fun q hq => nomatch hq)⟩) (by decide) rfl (by decide) wl_L_15 hce hcv hcl ?_
      refine lv_astore_n (lv' := [(3, .ref q9), (0, .ref (fw_ad X 352)), (1, .int a1), (2, .ref (fw_ad X 386))]) hx hb dL_addPassenger_15 rfl hl (by decide) rfl (fun ls hl => ?_)
      refine lv_iconst (v := 2) hx hb dL_addPassenger_16 (by decide) ?_
      exact fr_iret C B hr rfl hlk rfl (Nat.le_of_ble_eq_true rfl) (Nat.le_of_ble_eq_true rfl) dL_addPassenger_17
  · intro r M1 H locs h B
    subst h
    have hF := Option.some.inj hF
    refine lv_i2l hx hb dL_addPassenger_7 rfl ?_
    refine fr_ls (x := r) C B dL_addPassenger_8 (fun H locs B => ?_)
    refine lv_goto (tgt := 18) hx hb dL_addPassenger_9 (by decide) ?_
    refine lv_iconst (v := 0) hx hb dL_addPassenger_18 (by decide) ?_
    exact fr_iret C B hr rfl hlk (by rw [← hF]) (Nat.le_of_ble_eq_true rfl) (Nat.le_of_ble_eq_true rfl) dL_addPassenger_19
def F_L_sellTicket (M : fw_M) (a1 : Int32) (a2 : Int32) (a3 : Int32) : Option (Int32 × fw_M) := wr_l (F_X8_sellTicket M a1 a2 a3) [0, 1, 2]
set_option maxHeartbeats 4000000 in
set_option maxRecDepth 100000 in
theorem cm_L_sellTicket {l : Launch} {X : fw_X} {M : fw_M} {a1 : Int32} {a2 : Int32} {a3 : Int32} {o : Int32 × fw_M} (hlt : l.stackTraces = false) (hF : F_L_sellTicket M a1 a2 a3 = some o) : ct_h l X yL_sellTicket cL_sellTicket 6 [(0, 12, 15, 21), (0, 12, 19, 13), (0, 12, 23, 15)] ({ frames := 9, cells := 1, slots := 6, locals := 173 } : Room) M [.ref (fw_ad X 352), .int a1, .int a2, .int a3, .ref (fw_ad X 386)] (.inl o.1, o.2) := by
  refine fw_openH rfl (Nat.le_of_ble_eq_true rfl) (fun p e s m below meth c ls C hr hlk hT hl B => ?_)
  have C : fr_C X p c cL_sellTicket 6 RL s m ([.ref (fw_ad X 352), .int a1, .int a2, .int a3, .ref (fw_ad X 386)] : List Value).toArray := C
  have hx := C.1.1
  have hb := C.1.2.1
  have hl : lv_has ls 6 [(0, .ref (fw_ad X 352)), (1, .int a1), (2, .int a2), (3, .int a3), (4, .ref (fw_ad X 386))] := hl
  unfold F_L_sellTicket at hF
  obtain ⟨oc, hn, hF⟩ := wl_e hF
  refine lv_aload hx hb dL_sellTicket_0 (lv_at hl 4 rfl) ?_
  refine lv_iconst (v := 0) hx hb dL_sellTicket_2 (by decide) ?_
  refine lv_aload_n hx hb dL_sellTicket_3 rfl (lv_at hl 0 rfl) ?_
  refine lv_iload_n hx hb dL_sellTicket_4 rfl (lv_at hl 1 rfl) ?_
  refine lv_iload_n hx hb dL_sellTicket_5 rfl (lv_at hl 2 rfl) ?_
  refine lv_iload_n hx hb dL_sellTicket_6 rfl (lv_at hl 3 rfl) ?_
  refine fr_cVi (As := [.int a1, .int a2, .int a3]) (rest := [.int 0, .ref (fw_ad X 386)]) C B (cm_X8_sellTicket hlt hn) ob_8 rfl yw_X8_sellTicket wm_L_72 rfl hl.1 rfl (Nat.le_of_ble_eq_true rfl) ⟨Nat.le_of_ble_eq_true rfl, Nat.le_of_ble_eq_true rfl⟩ ⟨Nat.le_of_ble_eq_true rfl, Nat.le_of_ble_eq_true rfl⟩ dL_sellTicket_7 ?_ ?_
  · intro e9 M1 ce q9 H1 locs1 h B hce hcv hcl
    subst h
    obtain ⟨hm, rfl⟩ := wl_r hF
    rcases (show e9 = 0 ∨ e9 = 1 ∨ e9 = 2 by simpa using hm) with rfl | rfl | rfl
    · refine fr_catch (e9 := 0) C [] ⟨0, 12, 15, 21⟩ [⟨0, 12, 19, 13⟩, ⟨0, 12, 23, 15⟩] (hT.trans rfl) (fun q hq => nomatch hq) (by decide) rfl (by decide) wl_L_21 hce hcv hcl ?_
      refine lv_astore (lv' := [(5, .ref q9), (0, .ref (fw_ad X 352)), (1, .int a1), (2, .int a2), (3, .int a3), (4, .ref (fw_ad X 386))]) hx hb dL_sellTicket_15 hl (by decide) rfl (fun ls hl => ?_)
      refine lv_iconst (v := 1) hx hb dL_sellTicket_17 (by decide) ?_
      exact fr_iret C B hr rfl hlk rfl (Nat.le_of_ble_eq_true rfl) (Nat.le_of_ble_eq_true rfl) dL_sellTicket_18
    · refine fr_catch (e9 := 1) C [(⟨0, 12, 15, 21⟩, 0)] ⟨0, 12, 19, 13⟩ [⟨0, 12, 23, 15⟩] (hT.trans rfl) (List.forall_mem_cons.mpr ⟨⟨by decide, by decide, by decide, wl_L_21⟩, (fun q hq => nomatch hq)⟩) (by decide) rfl (by decide) wl_L_13 hce hcv hcl ?_
      refine lv_astore (lv' := [(5, .ref q9), (0, .ref (fw_ad X 352)), (1, .int a1), (2, .int a2), (3, .int a3), (4, .ref (fw_ad X 386))]) hx hb dL_sellTicket_19 hl (by decide) rfl (fun ls hl => ?_)
      refine lv_iconst (v := 2) hx hb dL_sellTicket_21 (by decide) ?_
      exact fr_iret C B hr rfl hlk rfl (Nat.le_of_ble_eq_true rfl) (Nat.le_of_ble_eq_true rfl) dL_sellTicket_22
    · refine fr_catch (e9 := 2) C [(⟨0, 12, 15, 21⟩, 0), (⟨0, 12, 19, 13⟩, 1)] ⟨0, 12, 23, 15⟩ [] (hT.trans rfl) (List.forall_mem_cons.mpr ⟨⟨by decide, by decide, by decide, wl_L_21⟩, (List.forall_mem_cons.mpr ⟨⟨by decide, by decide, by decide, wl_L_13⟩, (fun q hq => nomatch hq)⟩)⟩) (by decide) rfl (by decide) wl_L_15 hce hcv hcl ?_
      refine lv_astore (lv' := [(5, .ref q9), (0, .ref (fw_ad X 352)), (1, .int a1), (2, .int a2), (3, .int a3), (4, .ref (fw_ad X 386))]) hx hb dL_sellTicket_23 hl (by decide) rfl (fun ls hl => ?_)
      refine lv_iconst (v := 3) hx hb dL_sellTicket_25 (by decide) ?_
      exact fr_iret C B hr rfl hlk rfl (Nat.le_of_ble_eq_true rfl) (Nat.le_of_ble_eq_true rfl) dL_sellTicket_26
  · intro r M1 H locs h B
    subst h
    have hF := Option.some.inj hF
    refine lv_i2l hx hb dL_sellTicket_10 rfl ?_
    refine fr_ls (x := r) C B dL_sellTicket_11 (fun H locs B => ?_)
    refine lv_goto (tgt := 27) hx hb dL_sellTicket_12 (by decide) ?_
    refine lv_iconst (v := 0) hx hb dL_sellTicket_27 (by decide) ?_
    exact fr_iret C B hr rfl hlk (by rw [← hF]) (Nat.le_of_ble_eq_true rfl) (Nat.le_of_ble_eq_true rfl) dL_sellTicket_28
def F_L_board (M : fw_M) (a1 : Int32) (a2 : Int32) : Option (Int32 × fw_M) := wr_b (F_X8_board M a1 a2) [0, 2, 3, 4]
set_option maxHeartbeats 4000000 in
set_option maxRecDepth 100000 in
theorem cm_L_board {l : Launch} {X : fw_X} {M : fw_M} {a1 : Int32} {a2 : Int32} {o : Int32 × fw_M} (hlt : l.stackTraces = false) (hF : F_L_board M a1 a2 = some o) : ct_h l X yL_board cL_board 5 [(0, 17, 20, 21), (0, 17, 24, 15), (0, 17, 28, 39), (0, 17, 32, 80)] ({ frames := 9, cells := 1, slots := 6, locals := 172 } : Room) M [.ref (fw_ad X 352), .int a1, .int a2, .ref (fw_ad X 386)] (.inl o.1, o.2) := by
  refine fw_openH rfl (Nat.le_of_ble_eq_true rfl) (fun p e s m below meth c ls C hr hlk hT hl B => ?_)
  have C : fr_C X p c cL_board 5 RL s m ([.ref (fw_ad X 352), .int a1, .int a2, .ref (fw_ad X 386)] : List Value).toArray := C
  have hx := C.1.1
  have hb := C.1.2.1
  have hl : lv_has ls 5 [(0, .ref (fw_ad X 352)), (1, .int a1), (2, .int a2), (3, .ref (fw_ad X 386))] := hl
  unfold F_L_board at hF
  obtain ⟨oc, hn, hF⟩ := wb_e hF
  refine lv_aload_n hx hb dL_board_0 rfl (lv_at hl 3 rfl) ?_
  refine lv_iconst (v := 0) hx hb dL_board_1 (by decide) ?_
  refine lv_aload_n hx hb dL_board_2 rfl (lv_at hl 0 rfl) ?_
  refine lv_iload_n hx hb dL_board_3 rfl (lv_at hl 1 rfl) ?_
  refine lv_iload_n hx hb dL_board_4 rfl (lv_at hl 2 rfl) ?_
  refine fr_cVi (As := [.int a1, .int a2]) (rest := [.int 0, .ref (fw_ad X 386)]) C B (cm_X8_board hlt hn) ob_8 rfl yw_X8_board wm_L_76 rfl hl.1 rfl (Nat.le_of_ble_eq_true rfl) ⟨Nat.le_of_ble_eq_true rfl, Nat.le_of_ble_eq_true rfl⟩ ⟨Nat.le_of_ble_eq_true rfl, Nat.le_of_ble_eq_true rfl⟩ dL_board_5 ?_ ?_
  · intro e9 M1 ce q9 H1 locs1 h B hce hcv hcl
    subst h
    obtain ⟨hm, rfl⟩ := wb_r hF
    rcases (show e9 = 0 ∨ e9 = 2 ∨ e9 = 3 ∨ e9 = 4 by simpa using hm) with rfl | rfl | rfl | rfl
    · refine fr_catch (e9 := 0) C [] ⟨0, 17, 20, 21⟩ [⟨0, 17, 24, 15⟩, ⟨0, 17, 28, 39⟩, ⟨0, 17, 32, 80⟩] (hT.trans rfl) (fun q hq => nomatch hq) (by decide) rfl (by decide) wl_L_21 hce hcv hcl ?_
      refine lv_astore (lv' := [(4, .ref q9), (0, .ref (fw_ad X 352)), (1, .int a1), (2, .int a2), (3, .ref (fw_ad X 386))]) hx hb dL_board_20 hl (by decide) rfl (fun ls hl => ?_)
      refine lv_iconst (v := 1) hx hb dL_board_22 (by decide) ?_
      exact fr_iret C B hr rfl hlk rfl (Nat.le_of_ble_eq_true rfl) (Nat.le_of_ble_eq_true rfl) dL_board_23
    · refine fr_catch (e9 := 2) C [(⟨0, 17, 20, 21⟩, 0)] ⟨0, 17, 24, 15⟩ [⟨0, 17, 28, 39⟩, ⟨0, 17, 32, 80⟩] (hT.trans rfl) (List.forall_mem_cons.mpr ⟨⟨by decide, by decide, by decide, wl_L_21⟩, (fun q hq => nomatch hq)⟩) (by decide) rfl (by decide) wl_L_15 hce hcv hcl ?_
      refine lv_astore (lv' := [(4, .ref q9), (0, .ref (fw_ad X 352)), (1, .int a1), (2, .int a2), (3, .ref (fw_ad X 386))]) hx hb dL_board_24 hl (by decide) rfl (fun ls hl => ?_)
      refine lv_iconst (v := 2) hx hb dL_board_26 (by decide) ?_
      exact fr_iret C B hr rfl hlk rfl (Nat.le_of_ble_eq_true rfl) (Nat.le_of_ble_eq_true rfl) dL_board_27
    · refine fr_catch (e9 := 3) C [(⟨0, 17, 20, 21⟩, 0), (⟨0, 17, 24, 15⟩, 2)] ⟨0, 17, 28, 39⟩ [⟨0, 17, 32, 80⟩] (hT.trans rfl) (List.forall_mem_cons.mpr ⟨⟨by decide, by decide, by decide, wl_L_21⟩, (List.forall_mem_cons.mpr ⟨⟨by decide, by decide, by decide, wl_L_15⟩, (fun q hq => nomatch hq)⟩)⟩) (by decide) rfl (by decide) wl_L_39 hce hcv hcl ?_
      refine lv_astore (lv' := [(4, .ref q9), (0, .ref (fw_ad X 352)), (1, .int a1), (2, .int a2), (3, .ref (fw_ad X 386))]) hx hb dL_board_28 hl (by decide) rfl (fun ls hl => ?_)
      refine lv_iconst (v := 3) hx hb dL_board_30 (by decide) ?_
      exact fr_iret C B hr rfl hlk rfl (Nat.le_of_ble_eq_true rfl) (Nat.le_of_ble_eq_true rfl) dL_board_31
    · refine fr_catch (e9 := 4) C [(⟨0, 17, 20, 21⟩, 0), (⟨0, 17, 24, 15⟩, 2), (⟨0, 17, 28, 39⟩, 3)] ⟨0, 17, 32, 80⟩ [] (hT.trans rfl) (List.forall_mem_cons.mpr ⟨⟨by decide, by decide, by decide, wl_L_21⟩, (List.forall_mem_cons.mpr ⟨⟨by decide, by decide, by decide, wl_L_15⟩, (List.forall_mem_cons.mpr ⟨⟨by decide, by decide, by decide, wl_L_39⟩, (fun q hq => nomatch hq)⟩)⟩)⟩) (by decide) rfl (by decide) wl_L_80 hce hcv hcl ?_
      refine lv_astore (lv' := [(4, .ref q9), (0, .ref (fw_ad X 352)), (1, .int a1), (2, .int a2), (3, .ref (fw_ad X 386))]) hx hb dL_board_32 hl (by decide) rfl (fun ls hl => ?_)
      refine lv_iconst (v := 4) hx hb dL_board_34 (by decide) ?_
      exact fr_iret C B hr rfl hlk rfl (Nat.le_of_ble_eq_true rfl) (Nat.le_of_ble_eq_true rfl) dL_board_35
  · intro r M1 H locs h B
    subst h
    have hF := Option.some.inj hF
    refine lv_if_eq (tgt := 15) hx hb dL_board_8 (by decide) (fun hc => ?_) (fun hc => ?_)
    · rw [if_pos hc] at hF
      refine lv_lconst (v := (0 : Int32).toInt64) hx hb dL_board_15 (by decide) ?_
      refine fr_ls (x := 0) C B dL_board_16 (fun H locs B => ?_)
      refine lv_goto (tgt := 36) hx hb dL_board_17 (by decide) ?_
      refine lv_iconst (v := 0) hx hb dL_board_36 (by decide) ?_
      exact fr_iret C B hr rfl hlk (by rw [← hF]) (Nat.le_of_ble_eq_true rfl) (Nat.le_of_ble_eq_true rfl) dL_board_37
    · rw [if_neg hc] at hF
      refine lv_lconst (v := (1 : Int32).toInt64) hx hb dL_board_11 (by decide) ?_
      refine lv_goto (tgt := 16) hx hb dL_board_12 (by decide) ?_
      refine fr_ls (x := 1) C B dL_board_16 (fun H locs B => ?_)
      refine lv_goto (tgt := 36) hx hb dL_board_17 (by decide) ?_
      refine lv_iconst (v := 0) hx hb dL_board_36 (by decide) ?_
      exact fr_iret C B hr rfl hlk (by rw [← hF]) (Nat.le_of_ble_eq_true rfl) (Nat.le_of_ble_eq_true rfl) dL_board_37
def F_L_alight (M : fw_M) (a1 : Int32) : Option (Int32 × fw_M) := wr_l (F_X8_alight M a1) [0, 2]
set_option maxHeartbeats 4000000 in
set_option maxRecDepth 100000 in
theorem cm_L_alight {l : Launch} {X : fw_X} {M : fw_M} {a1 : Int32} {o : Int32 × fw_M} (hlt : l.stackTraces = false) (hF : F_L_alight M a1 = some o) : ct_h l X yL_alight cL_alight 4 [(0, 9, 12, 21), (0, 9, 15, 15)] ({ frames := 9, cells := 1, slots := 6, locals := 171 } : Room) M [.ref (fw_ad X 352), .int a1, .ref (fw_ad X 386)] (.inl o.1, o.2) := by
  refine fw_openH rfl (Nat.le_of_ble_eq_true rfl) (fun p e s m below meth c ls C hr hlk hT hl B => ?_)
  have C : fr_C X p c cL_alight 4 RL s m ([.ref (fw_ad X 352), .int a1, .ref (fw_ad X 386)] : List Value).toArray := C
  have hx := C.1.1
  have hb := C.1.2.1
  have hl : lv_has ls 4 [(0, .ref (fw_ad X 352)), (1, .int a1), (2, .ref (fw_ad X 386))] := hl
  unfold F_L_alight at hF
  obtain ⟨oc, hn, hF⟩ := wl_e hF
  refine lv_aload_n hx hb dL_alight_0 rfl (lv_at hl 2 rfl) ?_
  refine lv_iconst (v := 0) hx hb dL_alight_1 (by decide) ?_
  refine lv_aload_n hx hb dL_alight_2 rfl (lv_at hl 0 rfl) ?_
  refine lv_iload_n hx hb dL_alight_3 rfl (lv_at hl 1 rfl) ?_
  refine fr_cVi (As := [.int a1]) (rest := [.int 0, .ref (fw_ad X 386)]) C B (cm_X8_alight hlt hn) ob_8 rfl yw_X8_alight wm_L_82 rfl hl.1 rfl (Nat.le_of_ble_eq_true rfl) ⟨Nat.le_of_ble_eq_true rfl, Nat.le_of_ble_eq_true rfl⟩ ⟨Nat.le_of_ble_eq_true rfl, Nat.le_of_ble_eq_true rfl⟩ dL_alight_4 ?_ ?_
  · intro e9 M1 ce q9 H1 locs1 h B hce hcv hcl
    subst h
    obtain ⟨hm, rfl⟩ := wl_r hF
    rcases (show e9 = 0 ∨ e9 = 2 by simpa using hm) with rfl | rfl
    · refine fr_catch (e9 := 0) C [] ⟨0, 9, 12, 21⟩ [⟨0, 9, 15, 15⟩] (hT.trans rfl) (fun q hq => nomatch hq) (by decide) rfl (by decide) wl_L_21 hce hcv hcl ?_
      refine lv_astore_n (lv' := [(3, .ref q9), (0, .ref (fw_ad X 352)), (1, .int a1), (2, .ref (fw_ad X 386))]) hx hb dL_alight_12 rfl hl (by decide) rfl (fun ls hl => ?_)
      refine lv_iconst (v := 1) hx hb dL_alight_13 (by decide) ?_
      exact fr_iret C B hr rfl hlk rfl (Nat.le_of_ble_eq_true rfl) (Nat.le_of_ble_eq_true rfl) dL_alight_14
    · refine fr_catch (e9 := 2) C [(⟨0, 9, 12, 21⟩, 0)] ⟨0, 9, 15, 15⟩ [] (hT.trans rfl) (List.forall_mem_cons.mpr ⟨⟨by decide, by decide, by decide, wl_L_21⟩, (fun q hq => nomatch hq)⟩) (by decide) rfl (by decide) wl_L_15 hce hcv hcl ?_
      refine lv_astore_n (lv' := [(3, .ref q9), (0, .ref (fw_ad X 352)), (1, .int a1), (2, .ref (fw_ad X 386))]) hx hb dL_alight_15 rfl hl (by decide) rfl (fun ls hl => ?_)
      refine lv_iconst (v := 2) hx hb dL_alight_16 (by decide) ?_
      exact fr_iret C B hr rfl hlk rfl (Nat.le_of_ble_eq_true rfl) (Nat.le_of_ble_eq_true rfl) dL_alight_17
  · intro r M1 H locs h B
    subst h
    have hF := Option.some.inj hF
    refine lv_i2l hx hb dL_alight_7 rfl ?_
    refine fr_ls (x := r) C B dL_alight_8 (fun H locs B => ?_)
    refine lv_goto (tgt := 18) hx hb dL_alight_9 (by decide) ?_
    refine lv_iconst (v := 0) hx hb dL_alight_18 (by decide) ?_
    exact fr_iret C B hr rfl hlk (by rw [← hF]) (Nat.le_of_ble_eq_true rfl) (Nat.le_of_ble_eq_true rfl) dL_alight_19
def F_L_stopOfPassenger (M : fw_M) (a1 : Int32) : Option (Int32 × fw_M) := wr_l (F_X8_stopOfPassenger M a1) [0]
set_option maxHeartbeats 4000000 in
set_option maxRecDepth 100000 in
theorem cm_L_stopOfPassenger {l : Launch} {X : fw_X} {M : fw_M} {a1 : Int32} {o : Int32 × fw_M} (hlt : l.stackTraces = false) (hF : F_L_stopOfPassenger M a1 = some o) : ct_h l X yL_stopOfPassenger cL_stopOfPassenger 4 [(0, 9, 12, 21)] ({ frames := 9, cells := 1, slots := 6, locals := 172 } : Room) M [.ref (fw_ad X 352), .int a1, .ref (fw_ad X 386)] (.inl o.1, o.2) := by
  refine fw_openH rfl (Nat.le_of_ble_eq_true rfl) (fun p e s m below meth c ls C hr hlk hT hl B => ?_)
  have C : fr_C X p c cL_stopOfPassenger 4 RL s m ([.ref (fw_ad X 352), .int a1, .ref (fw_ad X 386)] : List Value).toArray := C
  have hx := C.1.1
  have hb := C.1.2.1
  have hl : lv_has ls 4 [(0, .ref (fw_ad X 352)), (1, .int a1), (2, .ref (fw_ad X 386))] := hl
  unfold F_L_stopOfPassenger at hF
  obtain ⟨oc, hn, hF⟩ := wl_e hF
  refine lv_aload_n hx hb dL_stopOfPassenger_0 rfl (lv_at hl 2 rfl) ?_
  refine lv_iconst (v := 0) hx hb dL_stopOfPassenger_1 (by decide) ?_
  refine lv_aload_n hx hb dL_stopOfPassenger_2 rfl (lv_at hl 0 rfl) ?_
  refine lv_iload_n hx hb dL_stopOfPassenger_3 rfl (lv_at hl 1 rfl) ?_
  refine fr_cVi (As := [.int a1]) (rest := [.int 0, .ref (fw_ad X 386)]) C B (cm_X8_stopOfPassenger hlt hn) ob_8 rfl yw_X8_stopOfPassenger wm_L_85 rfl hl.1 rfl (Nat.le_of_ble_eq_true rfl) ⟨Nat.le_of_ble_eq_true rfl, Nat.le_of_ble_eq_true rfl⟩ ⟨Nat.le_of_ble_eq_true rfl, Nat.le_of_ble_eq_true rfl⟩ dL_stopOfPassenger_4 ?_ ?_
  · intro e9 M1 ce q9 H1 locs1 h B hce hcv hcl
    subst h
    obtain ⟨hm, rfl⟩ := wl_r hF
    rcases (show e9 = 0 by simpa using hm) with rfl
    · refine fr_catch (e9 := 0) C [] ⟨0, 9, 12, 21⟩ [] (hT.trans rfl) (fun q hq => nomatch hq) (by decide) rfl (by decide) wl_L_21 hce hcv hcl ?_
      refine lv_astore_n (lv' := [(3, .ref q9), (0, .ref (fw_ad X 352)), (1, .int a1), (2, .ref (fw_ad X 386))]) hx hb dL_stopOfPassenger_12 rfl hl (by decide) rfl (fun ls hl => ?_)
      refine lv_iconst (v := 1) hx hb dL_stopOfPassenger_13 (by decide) ?_
      exact fr_iret C B hr rfl hlk rfl (Nat.le_of_ble_eq_true rfl) (Nat.le_of_ble_eq_true rfl) dL_stopOfPassenger_14
  · intro r M1 H locs h B
    subst h
    have hF := Option.some.inj hF
    refine lv_i2l hx hb dL_stopOfPassenger_7 rfl ?_
    refine fr_ls (x := r) C B dL_stopOfPassenger_8 (fun H locs B => ?_)
    refine lv_goto (tgt := 15) hx hb dL_stopOfPassenger_9 (by decide) ?_
    refine lv_iconst (v := 0) hx hb dL_stopOfPassenger_15 (by decide) ?_
    exact fr_iret C B hr rfl hlk (by rw [← hF]) (Nat.le_of_ble_eq_true rfl) (Nat.le_of_ble_eq_true rfl) dL_stopOfPassenger_16
def F_L_tramOfPassenger (M : fw_M) (a1 : Int32) : Option (Int32 × fw_M) := wr_l (F_X8_tramOfPassenger M a1) [0]
set_option maxHeartbeats 4000000 in
set_option maxRecDepth 100000 in
theorem cm_L_tramOfPassenger {l : Launch} {X : fw_X} {M : fw_M} {a1 : Int32} {o : Int32 × fw_M} (hlt : l.stackTraces = false) (hF : F_L_tramOfPassenger M a1 = some o) : ct_h l X yL_tramOfPassenger cL_tramOfPassenger 4 [(0, 9, 12, 21)] ({ frames := 9, cells := 1, slots := 6, locals := 172 } : Room) M [.ref (fw_ad X 352), .int a1, .ref (fw_ad X 386)] (.inl o.1, o.2) := by
  refine fw_openH rfl (Nat.le_of_ble_eq_true rfl) (fun p e s m below meth c ls C hr hlk hT hl B => ?_)
  have C : fr_C X p c cL_tramOfPassenger 4 RL s m ([.ref (fw_ad X 352), .int a1, .ref (fw_ad X 386)] : List Value).toArray := C
  have hx := C.1.1
  have hb := C.1.2.1
  have hl : lv_has ls 4 [(0, .ref (fw_ad X 352)), (1, .int a1), (2, .ref (fw_ad X 386))] := hl
  unfold F_L_tramOfPassenger at hF
  obtain ⟨oc, hn, hF⟩ := wl_e hF
  refine lv_aload_n hx hb dL_tramOfPassenger_0 rfl (lv_at hl 2 rfl) ?_
  refine lv_iconst (v := 0) hx hb dL_tramOfPassenger_1 (by decide) ?_
  refine lv_aload_n hx hb dL_tramOfPassenger_2 rfl (lv_at hl 0 rfl) ?_
  refine lv_iload_n hx hb dL_tramOfPassenger_3 rfl (lv_at hl 1 rfl) ?_
  refine fr_cVi (As := [.int a1]) (rest := [.int 0, .ref (fw_ad X 386)]) C B (cm_X8_tramOfPassenger hlt hn) ob_8 rfl yw_X8_tramOfPassenger wm_L_88 rfl hl.1 rfl (Nat.le_of_ble_eq_true rfl) ⟨Nat.le_of_ble_eq_true rfl, Nat.le_of_ble_eq_true rfl⟩ ⟨Nat.le_of_ble_eq_true rfl, Nat.le_of_ble_eq_true rfl⟩ dL_tramOfPassenger_4 ?_ ?_
  · intro e9 M1 ce q9 H1 locs1 h B hce hcv hcl
    subst h
    obtain ⟨hm, rfl⟩ := wl_r hF
    rcases (show e9 = 0 by simpa using hm) with rfl
    · refine fr_catch (e9 := 0) C [] ⟨0, 9, 12, 21⟩ [] (hT.trans rfl) (fun q hq => nomatch hq) (by decide) rfl (by decide) wl_L_21 hce hcv hcl ?_
      refine lv_astore_n (lv' := [(3, .ref q9), (0, .ref (fw_ad X 352)), (1, .int a1), (2, .ref (fw_ad X 386))]) hx hb dL_tramOfPassenger_12 rfl hl (by decide) rfl (fun ls hl => ?_)
      refine lv_iconst (v := 1) hx hb dL_tramOfPassenger_13 (by decide) ?_
      exact fr_iret C B hr rfl hlk rfl (Nat.le_of_ble_eq_true rfl) (Nat.le_of_ble_eq_true rfl) dL_tramOfPassenger_14
  · intro r M1 H locs h B
    subst h
    have hF := Option.some.inj hF
    refine lv_i2l hx hb dL_tramOfPassenger_7 rfl ?_
    refine fr_ls (x := r) C B dL_tramOfPassenger_8 (fun H locs B => ?_)
    refine lv_goto (tgt := 15) hx hb dL_tramOfPassenger_9 (by decide) ?_
    refine lv_iconst (v := 0) hx hb dL_tramOfPassenger_15 (by decide) ?_
    exact fr_iret C B hr rfl hlk (by rw [← hF]) (Nat.le_of_ble_eq_true rfl) (Nat.le_of_ble_eq_true rfl) dL_tramOfPassenger_16
def F_L_ridesOf (M : fw_M) (a1 : Int32) : Option (Int32 × fw_M) := wr_l (F_X8_ridesOf M a1) [0]
set_option maxHeartbeats 4000000 in
set_option maxRecDepth 100000 in
theorem cm_L_ridesOf {l : Launch} {X : fw_X} {M : fw_M} {a1 : Int32} {o : Int32 × fw_M} (hlt : l.stackTraces = false) (hF : F_L_ridesOf M a1 = some o) : ct_h l X yL_ridesOf cL_ridesOf 4 [(0, 9, 12, 21)] ({ frames := 9, cells := 1, slots := 6, locals := 172 } : Room) M [.ref (fw_ad X 352), .int a1, .ref (fw_ad X 386)] (.inl o.1, o.2) := by
  refine fw_openH rfl (Nat.le_of_ble_eq_true rfl) (fun p e s m below meth c ls C hr hlk hT hl B => ?_)
  have C : fr_C X p c cL_ridesOf 4 RL s m ([.ref (fw_ad X 352), .int a1, .ref (fw_ad X 386)] : List Value).toArray := C
  have hx := C.1.1
  have hb := C.1.2.1
  have hl : lv_has ls 4 [(0, .ref (fw_ad X 352)), (1, .int a1), (2, .ref (fw_ad X 386))] := hl
  unfold F_L_ridesOf at hF
  obtain ⟨oc, hn, hF⟩ := wl_e hF
  refine lv_aload_n hx hb dL_ridesOf_0 rfl (lv_at hl 2 rfl) ?_
  refine lv_iconst (v := 0) hx hb dL_ridesOf_1 (by decide) ?_
  refine lv_aload_n hx hb dL_ridesOf_2 rfl (lv_at hl 0 rfl) ?_
  refine lv_iload_n hx hb dL_ridesOf_3 rfl (lv_at hl 1 rfl) ?_
  refine fr_cVi (As := [.int a1]) (rest := [.int 0, .ref (fw_ad X 386)]) C B (cm_X8_ridesOf hlt hn) ob_8 rfl yw_X8_ridesOf wm_L_91 rfl hl.1 rfl (Nat.le_of_ble_eq_true rfl) ⟨Nat.le_of_ble_eq_true rfl, Nat.le_of_ble_eq_true rfl⟩ ⟨Nat.le_of_ble_eq_true rfl, Nat.le_of_ble_eq_true rfl⟩ dL_ridesOf_4 ?_ ?_
  · intro e9 M1 ce q9 H1 locs1 h B hce hcv hcl
    subst h
    obtain ⟨hm, rfl⟩ := wl_r hF
    rcases (show e9 = 0 by simpa using hm) with rfl
    · refine fr_catch (e9 := 0) C [] ⟨0, 9, 12, 21⟩ [] (hT.trans rfl) (fun q hq => nomatch hq) (by decide) rfl (by decide) wl_L_21 hce hcv hcl ?_
      refine lv_astore_n (lv' := [(3, .ref q9), (0, .ref (fw_ad X 352)), (1, .int a1), (2, .ref (fw_ad X 386))]) hx hb dL_ridesOf_12 rfl hl (by decide) rfl (fun ls hl => ?_)
      refine lv_iconst (v := 1) hx hb dL_ridesOf_13 (by decide) ?_
      exact fr_iret C B hr rfl hlk rfl (Nat.le_of_ble_eq_true rfl) (Nat.le_of_ble_eq_true rfl) dL_ridesOf_14
  · intro r M1 H locs h B
    subst h
    have hF := Option.some.inj hF
    refine lv_i2l hx hb dL_ridesOf_7 rfl ?_
    refine fr_ls (x := r) C B dL_ridesOf_8 (fun H locs B => ?_)
    refine lv_goto (tgt := 15) hx hb dL_ridesOf_9 (by decide) ?_
    refine lv_iconst (v := 0) hx hb dL_ridesOf_15 (by decide) ?_
    exact fr_iret C B hr rfl hlk (by rw [← hF]) (Nat.le_of_ble_eq_true rfl) (Nat.le_of_ble_eq_true rfl) dL_ridesOf_16
def F_L_isValidIn (M : fw_M) (a1 : Int32) (a2 : Int32) : Option (Int32 × fw_M) := wr_b (F_X8_isValidIn M a1 a2) [0, 1]
set_option maxHeartbeats 4000000 in
set_option maxRecDepth 100000 in
theorem cm_L_isValidIn {l : Launch} {X : fw_X} {M : fw_M} {a1 : Int32} {a2 : Int32} {o : Int32 × fw_M} (hlt : l.stackTraces = false) (hF : F_L_isValidIn M a1 a2 = some o) : ct_h l X yL_isValidIn cL_isValidIn 5 [(0, 17, 20, 21), (0, 17, 24, 13)] ({ frames := 9, cells := 2, slots := 12, locals := 173 } : Room) M [.ref (fw_ad X 352), .int a1, .int a2, .ref (fw_ad X 386)] (.inl o.1, o.2) := by
  refine fw_openH rfl (Nat.le_of_ble_eq_true rfl) (fun p e s m below meth c ls C hr hlk hT hl B => ?_)
  have C : fr_C X p c cL_isValidIn 5 RL s m ([.ref (fw_ad X 352), .int a1, .int a2, .ref (fw_ad X 386)] : List Value).toArray := C
  have hx := C.1.1
  have hb := C.1.2.1
  have hl : lv_has ls 5 [(0, .ref (fw_ad X 352)), (1, .int a1), (2, .int a2), (3, .ref (fw_ad X 386))] := hl
  unfold F_L_isValidIn at hF
  obtain ⟨oc, hn, hF⟩ := wb_e hF
  refine lv_aload_n hx hb dL_isValidIn_0 rfl (lv_at hl 3 rfl) ?_
  refine lv_iconst (v := 0) hx hb dL_isValidIn_1 (by decide) ?_
  refine lv_aload_n hx hb dL_isValidIn_2 rfl (lv_at hl 0 rfl) ?_
  refine lv_iload_n hx hb dL_isValidIn_3 rfl (lv_at hl 1 rfl) ?_
  refine lv_iload_n hx hb dL_isValidIn_4 rfl (lv_at hl 2 rfl) ?_
  refine fr_cVi (As := [.int a1, .int a2]) (rest := [.int 0, .ref (fw_ad X 386)]) C B (cm_X8_isValidIn hlt hn) ob_8 rfl yw_X8_isValidIn wm_L_94 rfl hl.1 rfl (Nat.le_of_ble_eq_true rfl) ⟨Nat.le_of_ble_eq_true rfl, Nat.le_of_ble_eq_true rfl⟩ ⟨Nat.le_of_ble_eq_true rfl, Nat.le_of_ble_eq_true rfl⟩ dL_isValidIn_5 ?_ ?_
  · intro e9 M1 ce q9 H1 locs1 h B hce hcv hcl
    subst h
    obtain ⟨hm, rfl⟩ := wb_r hF
    rcases (show e9 = 0 ∨ e9 = 1 by simpa using hm) with rfl | rfl
    · refine fr_catch (e9 := 0) C [] ⟨0, 17, 20, 21⟩ [⟨0, 17, 24, 13⟩] (hT.trans rfl) (fun q hq => nomatch hq) (by decide) rfl (by decide) wl_L_21 hce hcv hcl ?_
      refine lv_astore (lv' := [(4, .ref q9), (0, .ref (fw_ad X 352)), (1, .int a1), (2, .int a2), (3, .ref (fw_ad X 386))]) hx hb dL_isValidIn_20 hl (by decide) rfl (fun ls hl => ?_)
      refine lv_iconst (v := 1) hx hb dL_isValidIn_22 (by decide) ?_
      exact fr_iret C B hr rfl hlk rfl (Nat.le_of_ble_eq_true rfl) (Nat.le_of_ble_eq_true rfl) dL_isValidIn_23
    · refine fr_catch (e9 := 1) C [(⟨0, 17, 20, 21⟩, 0)] ⟨0, 17, 24, 13⟩ [] (hT.trans rfl) (List.forall_mem_cons.mpr ⟨⟨by decide, by decide, by decide, wl_L_21⟩, (fun q hq => nomatch hq)⟩) (by decide) rfl (by decide) wl_L_13 hce hcv hcl ?_
      refine lv_astore (lv' := [(4, .ref q9), (0, .ref (fw_ad X 352)), (1, .int a1), (2, .int a2), (3, .ref (fw_ad X 386))]) hx hb dL_isValidIn_24 hl (by decide) rfl (fun ls hl => ?_)
      refine lv_iconst (v := 2) hx hb dL_isValidIn_26 (by decide) ?_
      exact fr_iret C B hr rfl hlk rfl (Nat.le_of_ble_eq_true rfl) (Nat.le_of_ble_eq_true rfl) dL_isValidIn_27
  · intro r M1 H locs h B
    subst h
    have hF := Option.some.inj hF
    refine lv_if_eq (tgt := 15) hx hb dL_isValidIn_8 (by decide) (fun hc => ?_) (fun hc => ?_)
    · rw [if_pos hc] at hF
      refine lv_lconst (v := (0 : Int32).toInt64) hx hb dL_isValidIn_15 (by decide) ?_
      refine fr_ls (x := 0) C B dL_isValidIn_16 (fun H locs B => ?_)
      refine lv_goto (tgt := 28) hx hb dL_isValidIn_17 (by decide) ?_
      refine lv_iconst (v := 0) hx hb dL_isValidIn_28 (by decide) ?_
      exact fr_iret C B hr rfl hlk (by rw [← hF]) (Nat.le_of_ble_eq_true rfl) (Nat.le_of_ble_eq_true rfl) dL_isValidIn_29
    · rw [if_neg hc] at hF
      refine lv_lconst (v := (1 : Int32).toInt64) hx hb dL_isValidIn_11 (by decide) ?_
      refine lv_goto (tgt := 16) hx hb dL_isValidIn_12 (by decide) ?_
      refine fr_ls (x := 1) C B dL_isValidIn_16 (fun H locs B => ?_)
      refine lv_goto (tgt := 28) hx hb dL_isValidIn_17 (by decide) ?_
      refine lv_iconst (v := 0) hx hb dL_isValidIn_28 (by decide) ?_
      exact fr_iret C B hr rfl hlk (by rw [← hF]) (Nat.le_of_ble_eq_true rfl) (Nat.le_of_ble_eq_true rfl) dL_isValidIn_29
