def F_L_addStop (M : fw_M) (a1 : Int32) : Option (Int32 × fw_M) := wr_l (F_X8_addStop M a1) [1, 2]
set_option maxHeartbeats 4000000 in
set_option maxRecDepth 100000 in
theorem cm_L_addStop {l : Launch} {X : fw_X} {M : fw_M} {a1 : Int32} {o : Int32 × fw_M} (hlt : l.stackTraces = false) (hF : F_L_addStop M a1 = some o) : ct_h l X yL_addStop cL_addStop 4 [(0, 9, 12, 13), (0, 9, 15, 15)] ({ frames := 9, cells := 1, slots := 6, locals := 171 } : Room) M [.ref (fw_ad X 352), .int a1, .ref (fw_ad X 386)] (.inl o.1, o.2) := by
  refine fw_openH rfl (Nat.le_of_ble_eq_true rfl) (fun p e s m below meth c ls C hr hlk hT hl B => ?_)
  have C : fr_C X p c cL_addStop 4 RL s m ([.ref (fw_ad X 352), .int a1, .ref (fw_ad X 386)] : List Value).toArray := C
  have hx := C.1.1
  have hb := C.1.2.1
  have hl : lv_has ls 4 [(0, .ref (fw_ad X 352)), (1, .int a1), (2, .ref (fw_ad X 386))] := hl
  unfold F_L_addStop at hF
  obtain ⟨oc, hn, hF⟩ := wl_e hF
  refine lv_aload_n hx hb dL_addStop_0 rfl (lv_at hl 2 rfl) ?_
  refine lv_iconst (v := 0) hx hb dL_addStop_1 (by decide) ?_
  refine lv_aload_n hx hb dL_addStop_2 rfl (lv_at hl 0 rfl) ?_
  refine lv_iload_n hx hb dL_addStop_3 rfl (lv_at hl 1 rfl) ?_
  refine fr_cVi (As := [.int a1]) (rest := [.int 0, .ref (fw_ad X 386)]) C B (cm_X8_addStop hlt hn) ob_8 rfl yw_X8_addStop wm_L_7 rfl hl.1 rfl (Nat.le_of_ble_eq_true rfl) ⟨Nat.le_of_ble_eq_true rfl, Nat.le_of_ble_eq_true rfl⟩ ⟨Nat.le_of_ble_eq_true rfl, Nat.le_of_ble_eq_true rfl⟩ dL_addStop_4 ?_ ?_
  · intro e9 M1 ce q9 H1 locs1 h B hce hcv hcl
    subst h
    obtain ⟨hm, rfl⟩ := wl_r hF
    rcases (show e9 = 1 ∨ e9 = 2 by simpa using hm) with rfl | rfl
    · refine fr_catch (e9 := 1) C [] ⟨0, 9, 12, 13⟩ [⟨0, 9, 15, 15⟩] (hT.trans rfl) (fun q hq => nomatch hq) (by decide) rfl (by decide) wl_L_13 hce hcv hcl ?_
      refine lv_astore_n (lv' := [(3, .ref q9), (0, .ref (fw_ad X 352)), (1, .int a1), (2, .ref (fw_ad X 386))]) hx hb dL_addStop_12 rfl hl (by decide) rfl (fun ls hl => ?_)
      refine lv_iconst (v := 1) hx hb dL_addStop_13 (by decide) ?_
      exact fr_iret C B hr rfl hlk rfl (Nat.le_of_ble_eq_true rfl) (Nat.le_of_ble_eq_true rfl) dL_addStop_14
    · refine fr_catch (e9 := 2) C [(⟨0, 9, 12, 13⟩, 1)] ⟨0, 9, 15, 15⟩ [] (hT.trans rfl) (List.forall_mem_cons.mpr ⟨⟨by decide, by decide, by decide, wl_L_13⟩, (fun q hq => nomatch hq)⟩) (by decide) rfl (by decide) wl_L_15 hce hcv hcl ?_
      refine lv_astore_n (lv' := [(3, .ref q9), (0, .ref (fw_ad X 352)), (1, .int a1), (2, .ref (fw_ad X 386))]) hx hb dL_addStop_15 rfl hl (by decide) rfl (fun ls hl => ?_)
      refine lv_iconst (v := 2) hx hb dL_addStop_16 (by decide) ?_
      exact fr_iret C B hr rfl hlk rfl (Nat.le_of_ble_eq_true rfl) (Nat.le_of_ble_eq_true rfl) dL_addStop_17
  · intro r M1 H locs h B
    subst h
    have hF := Option.some.inj hF
    refine lv_i2l hx hb dL_addStop_7 rfl ?_
    refine fr_ls (x := r) C B dL_addStop_8 (fun H locs B => ?_)
    refine lv_goto (tgt := 18) hx hb dL_addStop_9 (by decide) ?_
    refine lv_iconst (v := 0) hx hb dL_addStop_18 (by decide) ?_
    exact fr_iret C B hr rfl hlk (by rw [← hF]) (Nat.le_of_ble_eq_true rfl) (Nat.le_of_ble_eq_true rfl) dL_addStop_19
def F_L_addLine (M : fw_M) (a1 : Int32) (a2 : Int32) : Option (Int32 × fw_M) := wr_l (F_X8_addLine M a1 a2) [0, 1, 2]
set_option maxHeartbeats 4000000 in
set_option maxRecDepth 100000 in
theorem cm_L_addLine {l : Launch} {X : fw_X} {M : fw_M} {a1 : Int32} {a2 : Int32} {o : Int32 × fw_M} (hlt : l.stackTraces = false) (hF : F_L_addLine M a1 a2 = some o) : ct_h l X yL_addLine cL_addLine 5 [(0, 10, 13, 21), (0, 10, 17, 13), (0, 10, 21, 15)] ({ frames := 9, cells := 1, slots := 6, locals := 172 } : Room) M [.ref (fw_ad X 352), .int a1, .int a2, .ref (fw_ad X 386)] (.inl o.1, o.2) := by
  refine fw_openH rfl (Nat.le_of_ble_eq_true rfl) (fun p e s m below meth c ls C hr hlk hT hl B => ?_)
  have C : fr_C X p c cL_addLine 5 RL s m ([.ref (fw_ad X 352), .int a1, .int a2, .ref (fw_ad X 386)] : List Value).toArray := C
  have hx := C.1.1
  have hb := C.1.2.1
  have hl : lv_has ls 5 [(0, .ref (fw_ad X 352)), (1, .int a1), (2, .int a2), (3, .ref (fw_ad X 386))] := hl
  unfold F_L_addLine at hF
  obtain ⟨oc, hn, hF⟩ := wl_e hF
  refine lv_aload_n hx hb dL_addLine_0 rfl (lv_at hl 3 rfl) ?_
  refine lv_iconst (v := 0) hx hb dL_addLine_1 (by decide) ?_
  refine lv_aload_n hx hb dL_addLine_2 rfl (lv_at hl 0 rfl) ?_
  refine lv_iload_n hx hb dL_addLine_3 rfl (lv_at hl 1 rfl) ?_
  refine lv_iload_n hx hb dL_addLine_4 rfl (lv_at hl 2 rfl) ?_
  refine fr_cVi (As := [.int a1, .int a2]) (rest := [.int 0, .ref (fw_ad X 386)]) C B (cm_X8_addLine hlt hn) ob_8 rfl yw_X8_addLine wm_L_17 rfl hl.1 rfl (Nat.le_of_ble_eq_true rfl) ⟨Nat.le_of_ble_eq_true rfl, Nat.le_of_ble_eq_true rfl⟩ ⟨Nat.le_of_ble_eq_true rfl, Nat.le_of_ble_eq_true rfl⟩ dL_addLine_5 ?_ ?_
  · intro e9 M1 ce q9 H1 locs1 h B hce hcv hcl
    subst h
    obtain ⟨hm, rfl⟩ := wl_r hF
    rcases (show e9 = 0 ∨ e9 = 1 ∨ e9 = 2 by simpa using hm) with rfl | rfl | rfl
    · refine fr_catch (e9 := 0) C [] ⟨0, 10, 13, 21⟩ [⟨0, 10, 17, 13⟩, ⟨0, 10, 21, 15⟩] (hT.trans rfl) (fun q hq => nomatch hq) (by decide) rfl (by decide) wl_L_21 hce hcv hcl ?_
      refine lv_astore (lv' := [(4, .ref q9), (0, .ref (fw_ad X 352)), (1, .int a1), (2, .int a2), (3, .ref (fw_ad X 386))]) hx hb dL_addLine_13 hl (by decide) rfl (fun ls hl => ?_)
      refine lv_iconst (v := 1) hx hb dL_addLine_15 (by decide) ?_
      exact fr_iret C B hr rfl hlk rfl (Nat.le_of_ble_eq_true rfl) (Nat.le_of_ble_eq_true rfl) dL_addLine_16
    · refine fr_catch (e9 := 1) C [(⟨0, 10, 13, 21⟩, 0)] ⟨0, 10, 17, 13⟩ [⟨0, 10, 21, 15⟩] (hT.trans rfl) (List.forall_mem_cons.mpr ⟨⟨by decide, by decide, by decide, wl_L_21⟩, (fun q hq => nomatch hq)⟩) (by decide) rfl (by decide) wl_L_13 hce hcv hcl ?_
      refine lv_astore (lv' := [(4, .ref q9), (0, .ref (fw_ad X 352)), (1, .int a1), (2, .int a2), (3, .ref (fw_ad X 386))]) hx hb dL_addLine_17 hl (by decide) rfl (fun ls hl => ?_)
      refine lv_iconst (v := 2) hx hb dL_addLine_19 (by decide) ?_
      exact fr_iret C B hr rfl hlk rfl (Nat.le_of_ble_eq_true rfl) (Nat.le_of_ble_eq_true rfl) dL_addLine_20
    · refine fr_catch (e9 := 2) C [(⟨0, 10, 13, 21⟩, 0), (⟨0, 10, 17, 13⟩, 1)] ⟨0, 10, 21, 15⟩ [] (hT.trans rfl) (List.forall_mem_cons.mpr ⟨⟨by decide, by decide, by decide, wl_L_21⟩, (List.forall_mem_cons.mpr ⟨⟨by decide, by decide, by decide, wl_L_13⟩, (fun q hq => nomatch hq)⟩)⟩) (by decide) rfl (by decide) wl_L_15 hce hcv hcl ?_
      refine lv_astore (lv' := [(4, .ref q9), (0, .ref (fw_ad X 352)), (1, .int a1), (2, .int a2), (3, .ref (fw_ad X 386))]) hx hb dL_addLine_21 hl (by decide) rfl (fun ls hl => ?_)
      refine lv_iconst (v := 3) hx hb dL_addLine_23 (by decide) ?_
      exact fr_iret C B hr rfl hlk rfl (Nat.le_of_ble_eq_true rfl) (Nat.le_of_ble_eq_true rfl) dL_addLine_24
  · intro r M1 H locs h B
    subst h
    have hF := Option.some.inj hF
    refine lv_i2l hx hb dL_addLine_8 rfl ?_
    refine fr_ls (x := r) C B dL_addLine_9 (fun H locs B => ?_)
    refine lv_goto (tgt := 25) hx hb dL_addLine_10 (by decide) ?_
    refine lv_iconst (v := 0) hx hb dL_addLine_25 (by decide) ?_
    exact fr_iret C B hr rfl hlk (by rw [← hF]) (Nat.le_of_ble_eq_true rfl) (Nat.le_of_ble_eq_true rfl) dL_addLine_26
def F_L_extendLine (M : fw_M) (a1 : Int32) (a2 : Int32) : Option (Int32 × fw_M) := wr_l (F_X8_extendLine M a1 a2) [0, 1, 2]
set_option maxHeartbeats 4000000 in
set_option maxRecDepth 100000 in
theorem cm_L_extendLine {l : Launch} {X : fw_X} {M : fw_M} {a1 : Int32} {a2 : Int32} {o : Int32 × fw_M} (hlt : l.stackTraces = false) (hF : F_L_extendLine M a1 a2 = some o) : ct_h l X yL_extendLine cL_extendLine 5 [(0, 10, 13, 21), (0, 10, 17, 13), (0, 10, 21, 15)] ({ frames := 9, cells := 1, slots := 6, locals := 172 } : Room) M [.ref (fw_ad X 352), .int a1, .int a2, .ref (fw_ad X 386)] (.inl o.1, o.2) := by
  refine fw_openH rfl (Nat.le_of_ble_eq_true rfl) (fun p e s m below meth c ls C hr hlk hT hl B => ?_)
  have C : fr_C X p c cL_extendLine 5 RL s m ([.ref (fw_ad X 352), .int a1, .int a2, .ref (fw_ad X 386)] : List Value).toArray := C
  have hx := C.1.1
  have hb := C.1.2.1
  have hl : lv_has ls 5 [(0, .ref (fw_ad X 352)), (1, .int a1), (2, .int a2), (3, .ref (fw_ad X 386))] := hl
  unfold F_L_extendLine at hF
  obtain ⟨oc, hn, hF⟩ := wl_e hF
  refine lv_aload_n hx hb dL_extendLine_0 rfl (lv_at hl 3 rfl) ?_
  refine lv_iconst (v := 0) hx hb dL_extendLine_1 (by decide) ?_
  refine lv_aload_n hx hb dL_extendLine_2 rfl (lv_at hl 0 rfl) ?_
  refine lv_iload_n hx hb dL_extendLine_3 rfl (lv_at hl 1 rfl) ?_
  refine lv_iload_n hx hb dL_extendLine_4 rfl (lv_at hl 2 rfl) ?_
  refine fr_cVi (As := [.int a1, .int a2]) (rest := [.int 0, .ref (fw_ad X 386)]) C B (cm_X8_extendLine hlt hn) ob_8 rfl yw_X8_extendLine wm_L_23 rfl hl.1 rfl (Nat.le_of_ble_eq_true rfl) ⟨Nat.le_of_ble_eq_true rfl, Nat.le_of_ble_eq_true rfl⟩ ⟨Nat.le_of_ble_eq_true rfl, Nat.le_of_ble_eq_true rfl⟩ dL_extendLine_5 ?_ ?_
  · intro e9 M1 ce q9 H1 locs1 h B hce hcv hcl
    subst h
    obtain ⟨hm, rfl⟩ := wl_r hF
    rcases (show e9 = 0 ∨ e9 = 1 ∨ e9 = 2 by simpa using hm) with rfl | rfl | rfl
    · refine fr_catch (e9 := 0) C [] ⟨0, 10, 13, 21⟩ [⟨0, 10, 17, 13⟩, ⟨0, 10, 21, 15⟩] (hT.trans rfl) (fun q hq => nomatch hq) (by decide) rfl (by decide) wl_L_21 hce hcv hcl ?_
      refine lv_astore (lv' := [(4, .ref q9), (0, .ref (fw_ad X 352)), (1, .int a1), (2, .int a2), (3, .ref (fw_ad X 386))]) hx hb dL_extendLine_13 hl (by decide) rfl (fun ls hl => ?_)
      refine lv_iconst (v := 1) hx hb dL_extendLine_15 (by decide) ?_
      exact fr_iret C B hr rfl hlk rfl (Nat.le_of_ble_eq_true rfl) (Nat.le_of_ble_eq_true rfl) dL_extendLine_16
    · refine fr_catch (e9 := 1) C [(⟨0, 10, 13, 21⟩, 0)] ⟨0, 10, 17, 13⟩ [⟨0, 10, 21, 15⟩] (hT.trans rfl) (List.forall_mem_cons.mpr ⟨⟨by decide, by decide, by decide, wl_L_21⟩, (fun q hq => nomatch hq)⟩) (by decide) rfl (by decide) wl_L_13 hce hcv hcl ?_
      refine lv_astore (lv' := [(4, .ref q9), (0, .ref (fw_ad X 352)), (1, .int a1), (2, .int a2), (3, .ref (fw_ad X 386))]) hx hb dL_extendLine_17 hl (by decide) rfl (fun ls hl => ?_)
      refine lv_iconst (v := 2) hx hb dL_extendLine_19 (by decide) ?_
      exact fr_iret C B hr rfl hlk rfl (Nat.le_of_ble_eq_true rfl) (Nat.le_of_ble_eq_true rfl) dL_extendLine_20
    · refine fr_catch (e9 := 2) C [(⟨0, 10, 13, 21⟩, 0), (⟨0, 10, 17, 13⟩, 1)] ⟨0, 10, 21, 15⟩ [] (hT.trans rfl) (List.forall_mem_cons.mpr ⟨⟨by decide, by decide, by decide, wl_L_21⟩, (List.forall_mem_cons.mpr ⟨⟨by decide, by decide, by decide, wl_L_13⟩, (fun q hq => nomatch hq)⟩)⟩) (by decide) rfl (by decide) wl_L_15 hce hcv hcl ?_
      refine lv_astore (lv' := [(4, .ref q9), (0, .ref (fw_ad X 352)), (1, .int a1), (2, .int a2), (3, .ref (fw_ad X 386))]) hx hb dL_extendLine_21 hl (by decide) rfl (fun ls hl => ?_)
      refine lv_iconst (v := 3) hx hb dL_extendLine_23 (by decide) ?_
      exact fr_iret C B hr rfl hlk rfl (Nat.le_of_ble_eq_true rfl) (Nat.le_of_ble_eq_true rfl) dL_extendLine_24
  · intro r M1 H locs h B
    subst h
    have hF := Option.some.inj hF
    refine lv_i2l hx hb dL_extendLine_8 rfl ?_
    refine fr_ls (x := r) C B dL_extendLine_9 (fun H locs B => ?_)
    refine lv_goto (tgt := 25) hx hb dL_extendLine_10 (by decide) ?_
    refine lv_iconst (v := 0) hx hb dL_extendLine_25 (by decide) ?_
    exact fr_iret C B hr rfl hlk (by rw [← hF]) (Nat.le_of_ble_eq_true rfl) (Nat.le_of_ble_eq_true rfl) dL_extendLine_26
def F_L_zoneOf (M : fw_M) (a1 : Int32) : Option (Int32 × fw_M) := wr_l (F_X8_zoneOf M a1) [0]
set_option maxHeartbeats 4000000 in
set_option maxRecDepth 100000 in
theorem cm_L_zoneOf {l : Launch} {X : fw_X} {M : fw_M} {a1 : Int32} {o : Int32 × fw_M} (hlt : l.stackTraces = false) (hF : F_L_zoneOf M a1 = some o) : ct_h l X yL_zoneOf cL_zoneOf 4 [(0, 9, 12, 21)] ({ frames := 9, cells := 1, slots := 6, locals := 172 } : Room) M [.ref (fw_ad X 352), .int a1, .ref (fw_ad X 386)] (.inl o.1, o.2) := by
  refine fw_openH rfl (Nat.le_of_ble_eq_true rfl) (fun p e s m below meth c ls C hr hlk hT hl B => ?_)
  have C : fr_C X p c cL_zoneOf 4 RL s m ([.ref (fw_ad X 352), .int a1, .ref (fw_ad X 386)] : List Value).toArray := C
  have hx := C.1.1
  have hb := C.1.2.1
  have hl : lv_has ls 4 [(0, .ref (fw_ad X 352)), (1, .int a1), (2, .ref (fw_ad X 386))] := hl
  unfold F_L_zoneOf at hF
  obtain ⟨oc, hn, hF⟩ := wl_e hF
  refine lv_aload_n hx hb dL_zoneOf_0 rfl (lv_at hl 2 rfl) ?_
  refine lv_iconst (v := 0) hx hb dL_zoneOf_1 (by decide) ?_
  refine lv_aload_n hx hb dL_zoneOf_2 rfl (lv_at hl 0 rfl) ?_
  refine lv_iload_n hx hb dL_zoneOf_3 rfl (lv_at hl 1 rfl) ?_
  refine fr_cVi (As := [.int a1]) (rest := [.int 0, .ref (fw_ad X 386)]) C B (cm_X8_zoneOf hlt hn) ob_8 rfl yw_X8_zoneOf wm_L_26 rfl hl.1 rfl (Nat.le_of_ble_eq_true rfl) ⟨Nat.le_of_ble_eq_true rfl, Nat.le_of_ble_eq_true rfl⟩ ⟨Nat.le_of_ble_eq_true rfl, Nat.le_of_ble_eq_true rfl⟩ dL_zoneOf_4 ?_ ?_
  · intro e9 M1 ce q9 H1 locs1 h B hce hcv hcl
    subst h
    obtain ⟨hm, rfl⟩ := wl_r hF
    rcases (show e9 = 0 by simpa using hm) with rfl
    · refine fr_catch (e9 := 0) C [] ⟨0, 9, 12, 21⟩ [] (hT.trans rfl) (fun q hq => nomatch hq) (by decide) rfl (by decide) wl_L_21 hce hcv hcl ?_
      refine lv_astore_n (lv' := [(3, .ref q9), (0, .ref (fw_ad X 352)), (1, .int a1), (2, .ref (fw_ad X 386))]) hx hb dL_zoneOf_12 rfl hl (by decide) rfl (fun ls hl => ?_)
      refine lv_iconst (v := 1) hx hb dL_zoneOf_13 (by decide) ?_
      exact fr_iret C B hr rfl hlk rfl (Nat.le_of_ble_eq_true rfl) (Nat.le_of_ble_eq_true rfl) dL_zoneOf_14
  · intro r M1 H locs h B
    subst h
    have hF := Option.some.inj hF
    refine lv_i2l hx hb dL_zoneOf_7 rfl ?_
    refine fr_ls (x := r) C B dL_zoneOf_8 (fun H locs B => ?_)
    refine lv_goto (tgt := 15) hx hb dL_zoneOf_9 (by decide) ?_
    refine lv_iconst (v := 0) hx hb dL_zoneOf_15 (by decide) ?_
    exact fr_iret C B hr rfl hlk (by rw [← hF]) (Nat.le_of_ble_eq_true rfl) (Nat.le_of_ble_eq_true rfl) dL_zoneOf_16
def F_L_isTerminus (M : fw_M) (a1 : Int32) : Option (Int32 × fw_M) := wr_b (F_X8_isTerminus M a1) [0]
set_option maxHeartbeats 4000000 in
set_option maxRecDepth 100000 in
theorem cm_L_isTerminus {l : Launch} {X : fw_X} {M : fw_M} {a1 : Int32} {o : Int32 × fw_M} (hlt : l.stackTraces = false) (hF : F_L_isTerminus M a1 = some o) : ct_h l X yL_isTerminus cL_isTerminus 4 [(0, 16, 19, 21)] ({ frames := 9, cells := 1, slots := 6, locals := 172 } : Room) M [.ref (fw_ad X 352), .int a1, .ref (fw_ad X 386)] (.inl o.1, o.2) := by
  refine fw_openH rfl (Nat.le_of_ble_eq_true rfl) (fun p e s m below meth c ls C hr hlk hT hl B => ?_)
  have C : fr_C X p c cL_isTerminus 4 RL s m ([.ref (fw_ad X 352), .int a1, .ref (fw_ad X 386)] : List Value).toArray := C
  have hx := C.1.1
  have hb := C.1.2.1
  have hl : lv_has ls 4 [(0, .ref (fw_ad X 352)), (1, .int a1), (2, .ref (fw_ad X 386))] := hl
  unfold F_L_isTerminus at hF
  obtain ⟨oc, hn, hF⟩ := wb_e hF
  refine lv_aload_n hx hb dL_isTerminus_0 rfl (lv_at hl 2 rfl) ?_
  refine lv_iconst (v := 0) hx hb dL_isTerminus_1 (by decide) ?_
  refine lv_aload_n hx hb dL_isTerminus_2 rfl (lv_at hl 0 rfl) ?_
  refine lv_iload_n hx hb dL_isTerminus_3 rfl (lv_at hl 1 rfl) ?_
  refine fr_cVi (As := [.int a1]) (rest := [.int 0, .ref (fw_ad X 386)]) C B (cm_X8_isTerminus hlt hn) ob_8 rfl yw_X8_isTerminus wm_L_29 rfl hl.1 rfl (Nat.le_of_ble_eq_true rfl) ⟨Nat.le_of_ble_eq_true rfl, Nat.le_of_ble_eq_true rfl⟩ ⟨Nat.le_of_ble_eq_true rfl, Nat.le_of_ble_eq_true rfl⟩ dL_isTerminus_4 ?_ ?_
  · intro e9 M1 ce q9 H1 locs1 h B hce hcv hcl
    subst h
    obtain ⟨hm, rfl⟩ := wb_r hF
    rcases (show e9 = 0 by simpa using hm) with rfl
    · refine fr_catch (e9 := 0) C [] ⟨0, 16, 19, 21⟩ [] (hT.trans rfl) (fun q hq => nomatch hq) (by decide) rfl (by decide) wl_L_21 hce hcv hcl ?_
      refine lv_astore_n (lv' := [(3, .ref q9), (0, .ref (fw_ad X 352)), (1, .int a1), (2, .ref (fw_ad X 386))]) hx hb dL_isTerminus_19 rfl hl (by decide) rfl (fun ls hl => ?_)
      refine lv_iconst (v := 1) hx hb dL_isTerminus_20 (by decide) ?_
      exact fr_iret C B hr rfl hlk rfl (Nat.le_of_ble_eq_true rfl) (Nat.le_of_ble_eq_true rfl) dL_isTerminus_21
  · intro r M1 H locs h B
    subst h
    have hF := Option.some.inj hF
    refine lv_if_eq (tgt := 14) hx hb dL_isTerminus_7 (by decide) (fun hc => ?_) (fun hc => ?_)
    · rw [if_pos hc] at hF
      refine lv_lconst (v := (0 : Int32).toInt64) hx hb dL_isTerminus_14 (by decide) ?_
      refine fr_ls (x := 0) C B dL_isTerminus_15 (fun H locs B => ?_)
      refine lv_goto (tgt := 22) hx hb dL_isTerminus_16 (by decide) ?_
      refine lv_iconst (v := 0) hx hb dL_isTerminus_22 (by decide) ?_
      exact fr_iret C B hr rfl hlk (by rw [← hF]) (Nat.le_of_ble_eq_true rfl) (Nat.le_of_ble_eq_true rfl) dL_isTerminus_23
    · rw [if_neg hc] at hF
      refine lv_lconst (v := (1 : Int32).toInt64) hx hb dL_isTerminus_10 (by decide) ?_
      refine lv_goto (tgt := 15) hx hb dL_isTerminus_11 (by decide) ?_
      refine fr_ls (x := 1) C B dL_isTerminus_15 (fun H locs B => ?_)
      refine lv_goto (tgt := 22) hx hb dL_isTerminus_16 (by decide) ?_
      refine lv_iconst (v := 0) hx hb dL_isTerminus_22 (by decide) ?_
      exact fr_iret C B hr rfl hlk (by rw [← hF]) (Nat.le_of_ble_eq_true rfl) (Nat.le_of_ble_eq_true rfl) dL_isTerminus_23
def F_L_lineLength (M : fw_M) (a1 : Int32) : Option (Int32 × fw_M) := wr_l (F_X8_lineLength M a1) [0]
set_option maxHeartbeats 4000000 in
set_option maxRecDepth 100000 in
theorem cm_L_lineLength {l : Launch} {X : fw_X} {M : fw_M} {a1 : Int32} {o : Int32 × fw_M} (hlt : l.stackTraces = false) (hF : F_L_lineLength M a1 = some o) : ct_h l X yL_lineLength cL_lineLength 4 [(0, 9, 12, 21)] ({ frames := 9, cells := 1, slots := 6, locals := 172 } : Room) M [.ref (fw_ad X 352), .int a1, .ref (fw_ad X 386)] (.inl o.1, o.2) := by
  refine fw_openH rfl (Nat.le_of_ble_eq_true rfl) (fun p e s m below meth c ls C hr hlk hT hl B => ?_)
  have C : fr_C X p c cL_lineLength 4 RL s m ([.ref (fw_ad X 352), .int a1, .ref (fw_ad X 386)] : List Value).toArray := C
  have hx := C.1.1
  have hb := C.1.2.1
  have hl : lv_has ls 4 [(0, .ref (fw_ad X 352)), (1, .int a1), (2, .ref (fw_ad X 386))] := hl
  unfold F_L_lineLength at hF
  obtain ⟨oc, hn, hF⟩ := wl_e hF
  refine lv_aload_n hx hb dL_lineLength_0 rfl (lv_at hl 2 rfl) ?_
  refine lv_iconst (v := 0) hx hb dL_lineLength_1 (by decide) ?_
  refine lv_aload_n hx hb dL_lineLength_2 rfl (lv_at hl 0 rfl) ?_
  refine lv_iload_n hx hb dL_lineLength_3 rfl (lv_at hl 1 rfl) ?_
  refine fr_cVi (As := [.int a1]) (rest := [.int 0, .ref (fw_ad X 386)]) C B (cm_X8_lineLength hlt hn) ob_8 rfl yw_X8_lineLength wm_L_33 rfl hl.1 rfl (Nat.le_of_ble_eq_true rfl) ⟨Nat.le_of_ble_eq_true rfl, Nat.le_of_ble_eq_true rfl⟩ ⟨Nat.le_of_ble_eq_true rfl, Nat.le_of_ble_eq_true rfl⟩ dL_lineLength_4 ?_ ?_
  · intro e9 M1 ce q9 H1 locs1 h B hce hcv hcl
    subst h
    obtain ⟨hm, rfl⟩ := wl_r hF
    rcases (show e9 = 0 by simpa using hm) with rfl
    · refine fr_catch (e9 := 0) C [] ⟨0, 9, 12, 21⟩ [] (hT.trans rfl) (fun q hq => nomatch hq) (by decide) rfl (by decide) wl_L_21 hce hcv hcl ?_
      refine lv_astore_n (lv' := [(3, .ref q9), (0, .ref (fw_ad X 352)), (1, .int a1), (2, .ref (fw_ad X 386))]) hx hb dL_lineLength_12 rfl hl (by decide) rfl (fun ls hl => ?_)
      refine lv_iconst (v := 1) hx hb dL_lineLength_13 (by decide) ?_
      exact fr_iret C B hr rfl hlk rfl (Nat.le_of_ble_eq_true rfl) (Nat.le_of_ble_eq_true rfl) dL_lineLength_14
  · intro r M1 H locs h B
    subst h
    have hF := Option.some.inj hF
    refine lv_i2l hx hb dL_lineLength_7 rfl ?_
    refine fr_ls (x := r) C B dL_lineLength_8 (fun H locs B => ?_)
    refine lv_goto (tgt := 15) hx hb dL_lineLength_9 (by decide) ?_
    refine lv_iconst (v := 0) hx hb dL_lineLength_15 (by decide) ?_
    exact fr_iret C B hr rfl hlk (by rw [← hF]) (Nat.le_of_ble_eq_true rfl) (Nat.le_of_ble_eq_true rfl) dL_lineLength_16
def F_L_stopAt (M : fw_M) (a1 : Int32) (a2 : Int32) : Option (Int32 × fw_M) := wr_l (F_X8_stopAt M a1 a2) [0, 3]
set_option maxHeartbeats 4000000 in
set_option maxRecDepth 100000 in
theorem cm_L_stopAt {l : Launch} {X : fw_X} {M : fw_M} {a1 : Int32} {a2 : Int32} {o : Int32 × fw_M} (hlt : l.stackTraces = false) (hF : F_L_stopAt M a1 a2 = some o) : ct_h l X yL_stopAt cL_stopAt 5 [(0, 10, 13, 21), (0, 10, 17, 39)] ({ frames := 9, cells := 2, slots := 12, locals := 173 } : Room) M [.ref (fw_ad X 352), .int a1, .int a2, .ref (fw_ad X 386)] (.inl o.1, o.2) := by
  refine fw_openH rfl (Nat.le_of_ble_eq_true rfl) (fun p e s m below meth c ls C hr hlk hT hl B => ?_)
  have C : fr_C X p c cL_stopAt 5 RL s m ([.ref (fw_ad X 352), .int a1, .int a2, .ref (fw_ad X 386)] : List Value).toArray := C
  have hx := C.1.1
  have hb := C.1.2.1
  have hl : lv_has ls 5 [(0, .ref (fw_ad X 352)), (1, .int a1), (2, .int a2), (3, .ref (fw_ad X 386))] := hl
  unfold F_L_stopAt at hF
  obtain ⟨oc, hn, hF⟩ := wl_e hF
  refine lv_aload_n hx hb dL_stopAt_0 rfl (lv_at hl 3 rfl) ?_
  refine lv_iconst (v := 0) hx hb dL_stopAt_1 (by decide) ?_
  refine lv_aload_n hx hb dL_stopAt_2 rfl (lv_at hl 0 rfl) ?_
  refine lv_iload_n hx hb dL_stopAt_3 rfl (lv_at hl 1 rfl) ?_
  refine lv_iload_n hx hb dL_stopAt_4 rfl (lv_at hl 2 rfl) ?_
  refine fr_cVi (As := [.int a1, .int a2]) (rest := [.int 0, .ref (fw_ad X 386)]) C B (cm_X8_stopAt hlt hn) ob_8 rfl yw_X8_stopAt wm_L_36 rfl hl.1 rfl (Nat.le_of_ble_eq_true rfl) ⟨Nat.le_of_ble_eq_true rfl, Nat.le_of_ble_eq_true rfl⟩ ⟨Nat.le_of_ble_eq_true rfl, Nat.le_of_ble_eq_true rfl⟩ dL_stopAt_5 ?_ ?_
  · intro e9 M1 ce q9 H1 locs1 h B hce hcv hcl
    subst h
    obtain ⟨hm, rfl⟩ := wl_r hF
    rcases (show e9 = 0 ∨ e9 = 3 by simpa using hm) with rfl | rfl
    · refine fr_catch (e9 := 0) C [] ⟨0, 10, 13, 21⟩ [⟨0, 10, 17, 39⟩] (hT.trans rfl) (fun q hq => nomatch hq) (by decide) rfl (by decide) wl_L_21 hce hcv hcl ?_
      refine lv_astore (lv' := [(4, .ref q9), (0, .ref (fw_ad X 352)), (1, .int a1), (2, .int a2), (3, .ref (fw_ad X 386))]) hx hb dL_stopAt_13 hl (by decide) rfl (fun ls hl => ?_)
      refine lv_iconst (v := 1) hx hb dL_stopAt_15 (by decide) ?_
      exact fr_iret C B hr rfl hlk rfl (Nat.le_of_ble_eq_true rfl) (Nat.le_of_ble_eq_true rfl) dL_stopAt_16
    · refine fr_catch (e9 := 3) C [(⟨0, 10, 13, 21⟩, 0)] ⟨0, 10, 17, 39⟩ [] (hT.trans rfl) (List.forall_mem_cons.mpr ⟨⟨by decide, by decide, by decide, wl_L_21⟩, (fun q hq => nomatch hq)⟩) (by decide) rfl (by decide) wl_L_39 hce hcv hcl ?_
      refine lv_astore (lv' := [(4, .ref q9), (0, .ref (fw_ad X 352)), (1, .int a1), (2, .int a2), (3, .ref (fw_ad X 386))]) hx hb dL_stopAt_17 hl (by decide) rfl (fun ls hl => ?_)
      refine lv_iconst (v := 2) hx hb dL_stopAt_19 (by decide) ?_
      exact fr_iret C B hr rfl hlk rfl (Nat.le_of_ble_eq_true rfl) (Nat.le_of_ble_eq_true rfl) dL_stopAt_20
  · intro r M1 H locs h B
    subst h
    have hF := Option.some.inj hF
    refine lv_i2l hx hb dL_stopAt_8 rfl ?_
    refine fr_ls (x := r) C B dL_stopAt_9 (fun H locs B => ?_)
    refine lv_goto (tgt := 21) hx hb dL_stopAt_10 (by decide) ?_
    refine lv_iconst (v := 0) hx hb dL_stopAt_21 (by decide) ?_
    exact fr_iret C B hr rfl hlk (by rw [← hF]) (Nat.le_of_ble_eq_true rfl) (Nat.le_of_ble_eq_true rfl) dL_stopAt_22
def F_L_commonStops (M : fw_M) (a1 : Int32) (a2 : Int32) : Option (Int32 × fw_M) := wr_l (F_X8_commonStops M a1 a2) [0]
set_option maxHeartbeats 4000000 in
set_option maxRecDepth 100000 in
theorem cm_L_commonStops {l : Launch} {X : fw_X} {M : fw_M} {a1 : Int32} {a2 : Int32} {o : Int32 × fw_M} (hlt : l.stackTraces = false) (hF : F_L_commonStops M a1 a2 = some o) : ct_h l X yL_commonStops cL_commonStops 5 [(0, 10, 13, 21)] ({ frames := 9, cells := 2, slots := 12, locals := 173 } : Room) M [.ref (fw_ad X 352), .int a1, .int a2, .ref (fw_ad X 386)] (.inl o.1, o.2) := by
  refine fw_openH rfl (Nat.le_of_ble_eq_true rfl) (fun p e s m below meth c ls C hr hlk hT hl B => ?_)
  have C : fr_C X p c cL_commonStops 5 RL s m ([.ref (fw_ad X 352), .int a1, .int a2, .ref (fw_ad X 386)] : List Value).toArray := C
  have hx := C.1.1
  have hb := C.1.2.1
  have hl : lv_has ls 5 [(0, .ref (fw_ad X 352)), (1, .int a1), (2, .int a2), (3, .ref (fw_ad X 386))] := hl
  unfold F_L_commonStops at hF
  obtain ⟨oc, hn, hF⟩ := wl_e hF
  refine lv_aload_n hx hb dL_commonStops_0 rfl (lv_at hl 3 rfl) ?_
  refine lv_iconst (v := 0) hx hb dL_commonStops_1 (by decide) ?_
  refine lv_aload_n hx hb dL_commonStops_2 rfl (lv_at hl 0 rfl) ?_
  refine lv_iload_n hx hb dL_commonStops_3 rfl (lv_at hl 1 rfl) ?_
  refine lv_iload_n hx hb dL_commonStops_4 rfl (lv_at hl 2 rfl) ?_
  refine fr_cVi (As := [.int a1, .int a2]) (rest := [.int 0, .ref (fw_ad X 386)]) C B (cm_X8_commonStops hlt hn) ob_8 rfl yw_X8_commonStops wm_L_41 rfl hl.1 rfl (Nat.le_of_ble_eq_true rfl) ⟨Nat.le_of_ble_eq_true rfl, Nat.le_of_ble_eq_true rfl⟩ ⟨Nat.le_of_ble_eq_true rfl, Nat.le_of_ble_eq_true rfl⟩ dL_commonStops_5 ?_ ?_
  · intro e9 M1 ce q9 H1 locs1 h B hce hcv hcl
    subst h
    obtain ⟨hm, rfl⟩ := wl_r hF
    rcases (show e9 = 0 by simpa using hm) with rfl
    · refine fr_catch (e9 := 0) C [] ⟨0, 10, 13, 21⟩ [] (hT.trans rfl) (fun q hq => nomatch hq) (by decide) rfl (by decide) wl_L_21 hce hcv hcl ?_
      refine lv_astore (lv' := [(4, .ref q9), (0, .ref (fw_ad X 352)), (1, .int a1), (2, .int a2), (3, .ref (fw_ad X 386))]) hx hb dL_commonStops_13 hl (by decide) rfl (fun ls hl => ?_)
      refine lv_iconst (v := 1) hx hb dL_commonStops_15 (by decide) ?_
      exact fr_iret C B hr rfl hlk rfl (Nat.le_of_ble_eq_true rfl) (Nat.le_of_ble_eq_true rfl) dL_commonStops_16
  · intro r M1 H locs h B
    subst h
    have hF := Option.some.inj hF
    refine lv_i2l hx hb dL_commonStops_8 rfl ?_
    refine fr_ls (x := r) C B dL_commonStops_9 (fun H locs B => ?_)
    refine lv_goto (tgt := 17) hx hb dL_commonStops_10 (by decide) ?_
    refine lv_iconst (v := 0) hx hb dL_commonStops_17 (by decide) ?_
    exact fr_iret C B hr rfl hlk (by rw [← hF]) (Nat.le_of_ble_eq_true rfl) (Nat.le_of_ble_eq_true rfl) dL_commonStops_18
def F_L_addTram (M : fw_M) (a1 : Int32) : Option (Int32 × fw_M) := wr_l (F_X8_addTram M a1) [0, 2]
set_option maxHeartbeats 4000000 in
set_option maxRecDepth 100000 in
theorem cm_L_addTram {l : Launch} {X : fw_X} {M : fw_M} {a1 : Int32} {o : Int32 × fw_M} (hlt : l.stackTraces = false) (hF : F_L_addTram M a1 = some o) : ct_h l X yL_addTram cL_addTram 4 [(0, 9, 12, 21), (0, 9, 15, 15)] ({ frames := 9, cells := 1, slots := 6, locals := 171 } : Room) M [.ref (fw_ad X 352), .int a1, .ref (fw_ad X 386)] (.inl o.1, o.2) := by
  refine fw_openH rfl (Nat.le_of_ble_eq_true rfl) (fun p e s m below meth c ls C hr hlk hT hl B => ?_)
  have C : fr_C X p c cL_addTram 4 RL s m ([.ref (fw_ad X 352), .int a1, .ref (fw_ad X 386)] : List Value).toArray := C
  have hx := C.1.1
  have hb := C.1.2.1
  have hl : lv_has ls 4 [(0, .ref (fw_ad X 352)), (1, .int a1), (2, .ref (fw_ad X 386))] := hl
  unfold F_L_addTram at hF
  obtain ⟨oc, hn, hF⟩ := wl_e hF
  refine lv_aload_n hx hb dL_addTram_0 rfl (lv_at hl 2 rfl) ?_
  refine lv_iconst (v := 0) hx hb dL_addTram_1 (by decide) ?_
  refine lv_aload_n hx hb dL_addTram_2 rfl (lv_at hl 0 rfl) ?_
  refine lv_iload_n hx hb dL_addTram_3 rfl (lv_at hl 1 rfl) ?_
  refine fr_cVi (As := [.int a1]) (rest := [.int 0, .ref (fw_ad X 386)]) C B (cm_X8_addTram hlt hn) ob_8 rfl yw_X8_addTram wm_L_44 rfl hl.1 rfl (Nat.le_of_ble_eq_true rfl) ⟨Nat.le_of_ble_eq_true rfl, Nat.le_of_ble_eq_true rfl⟩ ⟨Nat.le_of_ble_eq_true rfl, Nat.le_of_ble_eq_true rfl⟩ dL_addTram_4 ?_ ?_
  · intro e9 M1 ce q9 H1 locs1 h B hce hcv hcl
    subst h
    obtain ⟨hm, rfl⟩ := wl_r hF
    rcases (show e9 = 0 ∨ e9 = 2 by simpa using hm) with rfl | rfl
    · refine fr_catch (e9 := 0) C [] ⟨0, 9, 12, 21⟩ [⟨0, 9, 15, 15⟩] (hT.trans rfl) (fun q hq => nomatch hq) (by decide) rfl (by decide) wl_L_21 hce hcv hcl ?_
      refine lv_astore_n (lv' := [(3, .ref q9), (0, .ref (fw_ad X 352)), (1, .int a1), (2, .ref (fw_ad X 386))]) hx hb dL_addTram_12 rfl hl (by decide) rfl (fun ls hl => ?_)
      refine lv_iconst (v := 1) hx hb dL_addTram_13 (by decide) ?_
      exact fr_iret C B hr rfl hlk rfl (Nat.le_of_ble_eq_true rfl) (Nat.le_of_ble_eq_true rfl) dL_addTram_14
    · refine fr_catch (e9 := 2) C [(⟨0, 9, 12, 21⟩, 0)] ⟨0, 9, 15, 15⟩ [] (hT.trans rfl) (List.forall_mem_cons.mpr ⟨⟨by decide, by decide, by decide, wl_L_21⟩, (fun q hq => nomatch hq)⟩) (by decide) rfl (by decide) wl_L_15 hce hcv hcl ?_
      refine lv_astore_n (lv' := [(3, .ref q9), (0, .ref (fw_ad X 352)), (1, .int a1), (2, .ref (fw_ad X 386))]) hx hb dL_addTram_15 rfl hl (by decide) rfl (fun ls hl => ?_)
      refine lv_iconst (v := 2) hx hb dL_addTram_16 (by decide) ?_
      exact fr_iret C B hr rfl hlk rfl (Nat.le_of_ble_eq_true rfl) (Nat.le_of_ble_eq_true rfl) dL_addTram_17
  · intro r M1 H locs h B
    subst h
    have hF := Option.some.inj hF
    refine lv_i2l hx hb dL_addTram_7 rfl ?_
    refine fr_ls (x := r) C B dL_addTram_8 (fun H locs B => ?_)
    refine lv_goto (tgt := 18) hx hb dL_addTram_9 (by decide) ?_
    refine lv_iconst (v := 0) hx hb dL_addTram_18 (by decide) ?_
    exact fr_iret C B hr rfl hlk (by rw [← hF]) (Nat.le_of_ble_eq_true rfl) (Nat.le_of_ble_eq_true rfl) dL_addTram_19
def F_L_lineOfTram (M : fw_M) (a1 : Int32) : Option (Int32 × fw_M) := wr_l (F_X8_lineOfTram M a1) [0]
set_option maxHeartbeats 4000000 in
set_option maxRecDepth 100000 in
theorem cm_L_lineOfTram {l : Launch} {X : fw_X} {M : fw_M} {a1 : Int32} {o : Int32 × fw_M} (hlt : l.stackTraces = false) (hF : F_L_lineOfTram M a1 = some o) : ct_h l X yL_lineOfTram cL_lineOfTram 4 [(0, 9, 12, 21)] ({ frames := 9, cells := 1, slots := 6, locals := 172 } : Room) M [.ref (fw_ad X 352), .int a1, .ref (fw_ad X 386)] (.inl o.1, o.2) := by
  refine fw_openH rfl (Nat.le_of_ble_eq_true rfl) (fun p e s m below meth c ls C hr hlk hT hl B => ?_)
  have C : fr_C X p c cL_lineOfTram 4 RL s m ([.ref (fw_ad X 352), .int a1, .ref (fw_ad X 386)] : List Value).toArray := C
  have hx := C.1.1
  have hb := C.1.2.1
  have hl : lv_has ls 4 [(0, .ref (fw_ad X 352)), (1, .int a1), (2, .ref (fw_ad X 386))] := hl
  unfold F_L_lineOfTram at hF
  obtain ⟨oc, hn, hF⟩ := wl_e hF
  refine lv_aload_n hx hb dL_lineOfTram_0 rfl (lv_at hl 2 rfl) ?_
  refine lv_iconst (v := 0) hx hb dL_lineOfTram_1 (by decide) ?_
  refine lv_aload_n hx hb dL_lineOfTram_2 rfl (lv_at hl 0 rfl) ?_
  refine lv_iload_n hx hb dL_lineOfTram_3 rfl (lv_at hl 1 rfl) ?_
  refine fr_cVi (As := [.int a1]) (rest := [.int 0, .ref (fw_ad X 386)]) C B (cm_X8_lineOfTram hlt hn) ob_8 rfl yw_X8_lineOfTram wm_L_47 rfl hl.1 rfl (Nat.le_of_ble_eq_true rfl) ⟨Nat.le_of_ble_eq_true rfl, Nat.le_of_ble_eq_true rfl⟩ ⟨Nat.le_of_ble_eq_true rfl, Nat.le_of_ble_eq_true rfl⟩ dL_lineOfTram_4 ?_ ?_
  · intro e9 M1 ce q9 H1 locs1 h B hce hcv hcl
    subst h
    obtain ⟨hm, rfl⟩ := wl_r hF
    rcases (show e9 = 0 by simpa using hm) with rfl
    · refine fr_catch (e9 := 0) C [] ⟨0, 9, 12, 21⟩ [] (hT.trans rfl) (fun q hq => nomatch hq) (by decide) rfl (by decide) wl_L_21 hce hcv hcl ?_
      refine lv_astore_n (lv' := [(3, .ref q9), (0, .ref (fw_ad X 352)), (1, .int a1), (2, .ref (fw_ad X 386))]) hx hb dL_lineOfTram_12 rfl hl (by decide) rfl (fun ls hl => ?_)
      refine lv_iconst (v := 1) hx hb dL_lineOfTram_13 (by decide) ?_
      exact fr_iret C B hr rfl hlk rfl (Nat.le_of_ble_eq_true rfl) (Nat.le_of_ble_eq_true rfl) dL_lineOfTram_14
  · intro r M1 H locs h B
    subst h
    have hF := Option.some.inj hF
    refine lv_i2l hx hb dL_lineOfTram_7 rfl ?_
    refine fr_ls (x := r) C B dL_lineOfTram_8 (fun H locs B => ?_)
    refine lv_goto (tgt := 15) hx hb dL_lineOfTram_9 (by decide) ?_
    refine lv_iconst (v := 0) hx hb dL_lineOfTram_15 (by decide) ?_
    exact fr_iret C B hr rfl hlk (by rw [← hF]) (Nat.le_of_ble_eq_true rfl) (Nat.le_of_ble_eq_true rfl) dL_lineOfTram_16
def F_L_stopOfTram (M : fw_M) (a1 : Int32) : Option (Int32 × fw_M) := wr_l (F_X8_stopOfTram M a1) [0]
set_option maxHeartbeats 4000000 in
set_option maxRecDepth 100000 in
theorem cm_L_stopOfTram {l : Launch} {X : fw_X} {M : fw_M} {a1 : Int32} {o : Int32 × fw_M} (hlt : l.stackTraces = false) (hF : F_L_stopOfTram M a1 = some o) : ct_h l X yL_stopOfTram cL_stopOfTram 4 [(0, 9, 12, 21)] ({ frames := 9, cells := 1, slots := 6, locals := 172 } : Room) M [.ref (fw_ad X 352), .int a1, .ref (fw_ad X 386)] (.inl o.1, o.2) := by
  refine fw_openH rfl (Nat.le_of_ble_eq_true rfl) (fun p e s m below meth c ls C hr hlk hT hl B => ?_)
  have C : fr_C X p c cL_stopOfTram 4 RL s m ([.ref (fw_ad X 352), .int a1, .ref (fw_ad X 386)] : List Value).toArray := C
  have hx := C.1.1
  have hb := C.1.2.1
  have hl : lv_has ls 4 [(0, .ref (fw_ad X 352)), (1, .int a1), (2, .ref (fw_ad X 386))] := hl
  unfold F_L_stopOfTram at hF
  obtain ⟨oc, hn, hF⟩ := wl_e hF
  refine lv_aload_n hx hb dL_stopOfTram_0 rfl (lv_at hl 2 rfl) ?_
  refine lv_iconst (v := 0) hx hb dL_stopOfTram_1 (by decide) ?_
  refine lv_aload_n hx hb dL_stopOfTram_2 rfl (lv_at hl 0 rfl) ?_
  refine lv_iload_n hx hb dL_stopOfTram_3 rfl (lv_at hl 1 rfl) ?_
  refine fr_cVi (As := [.int a1]) (rest := [.int 0, .ref (fw_ad X 386)]) C B (cm_X8_stopOfTram hlt hn) ob_8 rfl yw_X8_stopOfTram wm_L_50 rfl hl.1 rfl (Nat.le_of_ble_eq_true rfl) ⟨Nat.le_of_ble_eq_true rfl, Nat.le_of_ble_eq_true rfl⟩ ⟨Nat.le_of_ble_eq_true rfl, Nat.le_of_ble_eq_true rfl⟩ dL_stopOfTram_4 ?_ ?_
  · intro e9 M1 ce q9 H1 locs1 h B hce hcv hcl
    subst h
    obtain ⟨hm, rfl⟩ := wl_r hF
    rcases (show e9 = 0 by simpa using hm) with rfl
    · refine fr_catch (e9 := 0) C [] ⟨0, 9, 12, 21⟩ [] (hT.trans rfl) (fun q hq => nomatch hq) (by decide) rfl (by decide) wl_L_21 hce hcv hcl ?_
      refine lv_astore_n (lv' := [(3, .ref q9), (0, .ref (fw_ad X 352)), (1, .int a1), (2, .ref (fw_ad X 386))]) hx hb dL_stopOfTram_12 rfl hl (by decide) rfl (fun ls hl => ?_)
      refine lv_iconst (v := 1) hx hb dL_stopOfTram_13 (by decide) ?_
      exact fr_iret C B hr rfl hlk rfl (Nat.le_of_ble_eq_true rfl) (Nat.le_of_ble_eq_true rfl) dL_stopOfTram_14
  · intro r M1 H locs h B
    subst h
    have hF := Option.some.inj hF
    refine lv_i2l hx hb dL_stopOfTram_7 rfl ?_
    refine fr_ls (x := r) C B dL_stopOfTram_8 (fun H locs B => ?_)
    refine lv_goto (tgt := 15) hx hb dL_stopOfTram_9 (by decide) ?_
    refine lv_iconst (v := 0) hx hb dL_stopOfTram_15 (by decide) ?_
    exact fr_iret C B hr rfl hlk (by rw [← hF]) (Nat.le_of_ble_eq_true rfl) (Nat.le_of_ble_eq_true rfl) dL_stopOfTram_16
def F_L_isForward (M : fw_M) (a1 : Int32) : Option (Int32 × fw_M) := wr_b (F_X8_isForward M a1) [0]
set_option maxHeartbeats 4000000 in
set_option maxRecDepth 100000 in
theorem cm_L_isForward {l : Launch} {X : fw_X} {M : fw_M} {a1 : Int32} {o : Int32 × fw_M} (hlt : l.stackTraces = false) (hF : F_L_isForward M a1 = some o) : ct_h l X yL_isForward cL_isForward 4 [(0, 16, 19, 21)] ({ frames := 9, cells := 1, slots := 6, locals := 172 } : Room) M [.ref (fw_ad X 352), .int a1, .ref (fw_ad X 386)] (.inl o.1, o.2) := by
  refine fw_openH rfl (Nat.le_of_ble_eq_true rfl) (fun p e s m below meth c ls C hr hlk hT hl B => ?_)
  have C : fr_C X p c cL_isForward 4 RL s m ([.ref (fw_ad X 352), .int a1, .ref (fw_ad X 386)] : List Value).toArray := C
  have hx := C.1.1
  have hb := C.1.2.1
  have hl : lv_has ls 4 [(0, .ref (fw_ad X 352)), (1, .int a1), (2, .ref (fw_ad X 386))] := hl
  unfold F_L_isForward at hF
  obtain ⟨oc, hn, hF⟩ := wb_e hF
  refine lv_aload_n hx hb dL_isForward_0 rfl (lv_at hl 2 rfl) ?_
  refine lv_iconst (v := 0) hx hb dL_isForward_1 (by decide) ?_
  refine lv_aload_n hx hb dL_isForward_2 rfl (lv_at hl 0 rfl) ?_
  refine lv_iload_n hx hb dL_isForward_3 rfl (lv_at hl 1 rfl) ?_
  refine fr_cVi (As := [.int a1]) (rest := [.int 0, .ref (fw_ad X 386)]) C B (cm_X8_isForward hlt hn) ob_8 rfl yw_X8_isForward wm_L_53 rfl hl.1 rfl (Nat.le_of_ble_eq_true rfl) ⟨Nat.le_of_ble_eq_true rfl, Nat.le_of_ble_eq_true rfl⟩ ⟨Nat.le_of_ble_eq_true rfl, Nat.le_of_ble_eq_true rfl⟩ dL_isForward_4 ?_ ?_
  · intro e9 M1 ce q9 H1 locs1 h B hce hcv hcl
    subst h
    obtain ⟨hm, rfl⟩ := wb_r hF
    rcases (show e9 = 0 by simpa using hm) with rfl
    · refine fr_catch (e9 := 0) C [] ⟨0, 16, 19, 21⟩ [] (hT.trans rfl) (fun q hq => nomatch hq) (by decide) rfl (by decide) wl_L_21 hce hcv hcl ?_
      refine lv_astore_n (lv' := [(3, .ref q9), (0, .ref (fw_ad X 352)), (1, .int a1), (2, .ref (fw_ad X 386))]) hx hb dL_isForward_19 rfl hl (by decide) rfl (fun ls hl => ?_)
      refine lv_iconst (v := 1) hx hb dL_isForward_20 (by decide) ?_
      exact fr_iret C B hr rfl hlk rfl (Nat.le_of_ble_eq_true rfl) (Nat.le_of_ble_eq_true rfl) dL_isForward_21
  · intro r M1 H locs h B
    subst h
    have hF := Option.some.inj hF
    refine lv_if_eq (tgt := 14) hx hb dL_isForward_7 (by decide) (fun hc => ?_) (fun hc => ?_)
    · rw [if_pos hc] at hF
      refine lv_lconst (v := (0 : Int32).toInt64) hx hb dL_isForward_14 (by decide) ?_
      refine fr_ls (x := 0) C B dL_isForward_15 (fun H locs B => ?_)
      refine lv_goto (tgt := 22) hx hb dL_isForward_16 (by decide) ?_
      refine lv_iconst (v := 0) hx hb dL_isForward_22 (by decide) ?_
      exact fr_iret C B hr rfl hlk (by rw [← hF]) (Nat.le_of_ble_eq_true rfl) (Nat.le_of_ble_eq_true rfl) dL_isForward_23
    · rw [if_neg hc] at hF
      refine lv_lconst (v := (1 : Int32).toInt64) hx hb dL_isForward_10 (by decide) ?_
      refine lv_goto (tgt := 15) hx hb dL_isForward_11 (by decide) ?_
      refine fr_ls (x := 1) C B dL_isForward_15 (fun H locs B => ?_)
      refine lv_goto (tgt := 22) hx hb dL_isForward_16 (by decide) ?_
      refine lv_iconst (v := 0) hx hb dL_isForward_22 (by decide) ?_
      exact fr_iret C B hr rfl hlk (by rw [← hF]) (Nat.le_of_ble_eq_true rfl) (Nat.le_of_ble_eq_true rfl) dL_isForward_23
