def F_L_canBoard (M : fw_M) (a1 : Int32) (a2 : Int32) : Option (Int32 × fw_M) := wr_b (F_X8_canBoard M a1 a2) [0]
set_option maxHeartbeats 4000000 in
set_option maxRecDepth 100000 in
theorem cm_L_canBoard {l : Launch} {X : fw_X} {M : fw_M} {a1 : Int32} {a2 : Int32} {o : Int32 × fw_M} (hlt : l.stackTraces = false) (hF : F_L_canBoard M a1 a2 = some o) : ct_h l X yL_canBoard cL_canBoard 5 [(0, 17, 20, 21)] ({ frames := 9, cells := 2, slots := 12, locals := 173 } : Room) M [.ref (fw_ad X 352), .int a1, .int a2, .ref (fw_ad X 386)] (.inl o.1, o.2) := by
  refine fw_openH rfl (Nat.le_of_ble_eq_true rfl) (fun p e s m below meth c ls C hr hlk hT hl B => ?_)
  have C : fr_C X p c cL_canBoard 5 RL s m ([.ref (fw_ad X 352), .int a1, .int a2, .ref (fw_ad X 386)] : List Value).toArray := C
  have hx := C.1.1
  have hb := C.1.2.1
  have hl : lv_has ls 5 [(0, .ref (fw_ad X 352)), (1, .int a1), (2, .int a2), (3, .ref (fw_ad X 386))] := hl
  unfold F_L_canBoard at hF
  obtain ⟨oc, hn, hF⟩ := wb_e hF
  refine lv_aload_n hx hb dL_canBoard_0 rfl (lv_at hl 3 rfl) ?_
  refine lv_iconst (v := 0) hx hb dL_canBoard_1 (by decide) ?_
  refine lv_aload_n hx hb dL_canBoard_2 rfl (lv_at hl 0 rfl) ?_
  refine lv_iload_n hx hb dL_canBoard_3 rfl (lv_at hl 1 rfl) ?_
  refine lv_iload_n hx hb dL_canBoard_4 rfl (lv_at hl 2 rfl) ?_
  refine fr_cVi (As := [.int a1, .int a2]) (rest := [.int 0, .ref (fw_ad X 386)]) C B (cm_X8_canBoard hlt hn) ob_8 rfl yw_X8_canBoard wm_L_97 rfl hl.1 rfl (Nat.le_of_ble_eq_true rfl) ⟨Nat.le_of_ble_eq_true rfl, Nat.le_of_ble_eq_true rfl⟩ ⟨Nat.le_of_ble_eq_true rfl, Nat.le_of_ble_eq_true rfl⟩ dL_canBoard_5 ?_ ?_
  · intro e9 M1 ce q9 H1 locs1 h B hce hcv hcl
    subst h
    obtain ⟨hm, rfl⟩ := wb_r hF
    rcases (show e9 = 0 by simpa using hm) with rfl
    · refine fr_catch (e9 := 0) C [] ⟨0, 17, 20, 21⟩ [] (hT.trans rfl) (fun q hq => nomatch hq) (by decide) rfl (by decide) wl_L_21 hce hcv hcl ?_
      refine lv_astore (lv' := [(4, .ref q9), (0, .ref (fw_ad X 352)), (1, .int a1), (2, .int a2), (3, .ref (fw_ad X 386))]) hx hb dL_canBoard_20 hl (by decide) rfl (fun ls hl => ?_)
      refine lv_iconst (v := 1) hx hb dL_canBoard_22 (by decide) ?_
      exact fr_iret C B hr rfl hlk rfl (Nat.le_of_ble_eq_true rfl) (Nat.le_of_ble_eq_true rfl) dL_canBoard_23
  · intro r M1 H locs h B
    subst h
    have hF := Option.some.inj hF
    refine lv_if_eq (tgt := 15) hx hb dL_canBoard_8 (by decide) (fun hc => ?_) (fun hc => ?_)
    · rw [if_pos hc] at hF
      refine lv_lconst (v := (0 : Int32).toInt64) hx hb dL_canBoard_15 (by decide) ?_
      refine fr_ls (x := 0) C B dL_canBoard_16 (fun H locs B => ?_)
      refine lv_goto (tgt := 24) hx hb dL_canBoard_17 (by decide) ?_
      refine lv_iconst (v := 0) hx hb dL_canBoard_24 (by decide) ?_
      exact fr_iret C B hr rfl hlk (by rw [← hF]) (Nat.le_of_ble_eq_true rfl) (Nat.le_of_ble_eq_true rfl) dL_canBoard_25
    · rw [if_neg hc] at hF
      refine lv_lconst (v := (1 : Int32).toInt64) hx hb dL_canBoard_11 (by decide) ?_
      refine lv_goto (tgt := 16) hx hb dL_canBoard_12 (by decide) ?_
      refine fr_ls (x := 1) C B dL_canBoard_16 (fun H locs B => ?_)
      refine lv_goto (tgt := 24) hx hb dL_canBoard_17 (by decide) ?_
      refine lv_iconst (v := 0) hx hb dL_canBoard_24 (by decide) ?_
      exact fr_iret C B hr rfl hlk (by rw [← hF]) (Nat.le_of_ble_eq_true rfl) (Nat.le_of_ble_eq_true rfl) dL_canBoard_25
def F_L_isTransfer (M : fw_M) (a1 : Int32) (a2 : Int32) : Option (Int32 × fw_M) := wr_b (F_X8_isTransfer M a1 a2) [0]
set_option maxHeartbeats 4000000 in
set_option maxRecDepth 100000 in
theorem cm_L_isTransfer {l : Launch} {X : fw_X} {M : fw_M} {a1 : Int32} {a2 : Int32} {o : Int32 × fw_M} (hlt : l.stackTraces = false) (hF : F_L_isTransfer M a1 a2 = some o) : ct_h l X yL_isTransfer cL_isTransfer 5 [(0, 17, 20, 21)] ({ frames := 9, cells := 2, slots := 12, locals := 173 } : Room) M [.ref (fw_ad X 352), .int a1, .int a2, .ref (fw_ad X 386)] (.inl o.1, o.2) := by
  refine fw_openH rfl (Nat.le_of_ble_eq_true rfl) (fun p e s m below meth c ls C hr hlk hT hl B => ?_)
  have C : fr_C X p c cL_isTransfer 5 RL s m ([.ref (fw_ad X 352), .int a1, .int a2, .ref (fw_ad X 386)] : List Value).toArray := C
  have hx := C.1.1
  have hb := C.1.2.1
  have hl : lv_has ls 5 [(0, .ref (fw_ad X 352)), (1, .int a1), (2, .int a2), (3, .ref (fw_ad X 386))] := hl
  unfold F_L_isTransfer at hF
  obtain ⟨oc, hn, hF⟩ := wb_e hF
  refine lv_aload_n hx hb dL_isTransfer_0 rfl (lv_at hl 3 rfl) ?_
  refine lv_iconst (v := 0) hx hb dL_isTransfer_1 (by decide) ?_
  refine lv_aload_n hx hb dL_isTransfer_2 rfl (lv_at hl 0 rfl) ?_
  refine lv_iload_n hx hb dL_isTransfer_3 rfl (lv_at hl 1 rfl) ?_
  refine lv_iload_n hx hb dL_isTransfer_4 rfl (lv_at hl 2 rfl) ?_
  refine fr_cVi (As := [.int a1, .int a2]) (rest := [.int 0, .ref (fw_ad X 386)]) C B (cm_X8_isTransfer hlt hn) ob_8 rfl yw_X8_isTransfer wm_L_100 rfl hl.1 rfl (Nat.le_of_ble_eq_true rfl) ⟨Nat.le_of_ble_eq_true rfl, Nat.le_of_ble_eq_true rfl⟩ ⟨Nat.le_of_ble_eq_true rfl, Nat.le_of_ble_eq_true rfl⟩ dL_isTransfer_5 ?_ ?_
  · intro e9 M1 ce q9 H1 locs1 h B hce hcv hcl
    subst h
    obtain ⟨hm, rfl⟩ := wb_r hF
    rcases (show e9 = 0 by simpa using hm) with rfl
    · refine fr_catch (e9 := 0) C [] ⟨0, 17, 20, 21⟩ [] (hT.trans rfl) (fun q hq => nomatch hq) (by decide) rfl (by decide) wl_L_21 hce hcv hcl ?_
      refine lv_astore (lv' := [(4, .ref q9), (0, .ref (fw_ad X 352)), (1, .int a1), (2, .int a2), (3, .ref (fw_ad X 386))]) hx hb dL_isTransfer_20 hl (by decide) rfl (fun ls hl => ?_)
      refine lv_iconst (v := 1) hx hb dL_isTransfer_22 (by decide) ?_
      exact fr_iret C B hr rfl hlk rfl (Nat.le_of_ble_eq_true rfl) (Nat.le_of_ble_eq_true rfl) dL_isTransfer_23
  · intro r M1 H locs h B
    subst h
    have hF := Option.some.inj hF
    refine lv_if_eq (tgt := 15) hx hb dL_isTransfer_8 (by decide) (fun hc => ?_) (fun hc => ?_)
    · rw [if_pos hc] at hF
      refine lv_lconst (v := (0 : Int32).toInt64) hx hb dL_isTransfer_15 (by decide) ?_
      refine fr_ls (x := 0) C B dL_isTransfer_16 (fun H locs B => ?_)
      refine lv_goto (tgt := 24) hx hb dL_isTransfer_17 (by decide) ?_
      refine lv_iconst (v := 0) hx hb dL_isTransfer_24 (by decide) ?_
      exact fr_iret C B hr rfl hlk (by rw [← hF]) (Nat.le_of_ble_eq_true rfl) (Nat.le_of_ble_eq_true rfl) dL_isTransfer_25
    · rw [if_neg hc] at hF
      refine lv_lconst (v := (1 : Int32).toInt64) hx hb dL_isTransfer_11 (by decide) ?_
      refine lv_goto (tgt := 16) hx hb dL_isTransfer_12 (by decide) ?_
      refine fr_ls (x := 1) C B dL_isTransfer_16 (fun H locs B => ?_)
      refine lv_goto (tgt := 24) hx hb dL_isTransfer_17 (by decide) ?_
      refine lv_iconst (v := 0) hx hb dL_isTransfer_24 (by decide) ?_
      exact fr_iret C B hr rfl hlk (by rw [← hF]) (Nat.le_of_ble_eq_true rfl) (Nat.le_of_ble_eq_true rfl) dL_isTransfer_25
def F_L_addSecret (M : fw_M) (a1 : Int32) : Option (Int32 × fw_M) := wr_l (F_X8_addSecret M a1) [0, 2]
set_option maxHeartbeats 4000000 in
set_option maxRecDepth 100000 in
theorem cm_L_addSecret {l : Launch} {X : fw_X} {M : fw_M} {a1 : Int32} {o : Int32 × fw_M} (hlt : l.stackTraces = false) (hF : F_L_addSecret M a1 = some o) : ct_h l X yL_addSecret cL_addSecret 4 [(0, 9, 12, 21), (0, 9, 15, 15)] ({ frames := 9, cells := 1, slots := 6, locals := 171 } : Room) M [.ref (fw_ad X 352), .int a1, .ref (fw_ad X 386)] (.inl o.1, o.2) := by
  refine fw_openH rfl (Nat.le_of_ble_eq_true rfl) (fun p e s m below meth c ls C hr hlk hT hl B => ?_)
  have C : fr_C X p c cL_addSecret 4 RL s m ([.ref (fw_ad X 352), .int a1, .ref (fw_ad X 386)] : List Value).toArray := C
  have hx := C.1.1
  have hb := C.1.2.1
  have hl : lv_has ls 4 [(0, .ref (fw_ad X 352)), (1, .int a1), (2, .ref (fw_ad X 386))] := hl
  unfold F_L_addSecret at hF
  obtain ⟨oc, hn, hF⟩ := wl_e hF
  refine lv_aload_n hx hb dL_addSecret_0 rfl (lv_at hl 2 rfl) ?_
  refine lv_iconst (v := 0) hx hb dL_addSecret_1 (by decide) ?_
  refine lv_aload_n hx hb dL_addSecret_2 rfl (lv_at hl 0 rfl) ?_
  refine lv_iload_n hx hb dL_addSecret_3 rfl (lv_at hl 1 rfl) ?_
  refine fr_cVi (As := [.int a1]) (rest := [.int 0, .ref (fw_ad X 386)]) C B (cm_X8_addSecret hlt hn) ob_8 rfl yw_X8_addSecret wm_L_103 rfl hl.1 rfl (Nat.le_of_ble_eq_true rfl) ⟨Nat.le_of_ble_eq_true rfl, Nat.le_of_ble_eq_true rfl⟩ ⟨Nat.le_of_ble_eq_true rfl, Nat.le_of_ble_eq_true rfl⟩ dL_addSecret_4 ?_ ?_
  · intro e9 M1 ce q9 H1 locs1 h B hce hcv hcl
    subst h
    obtain ⟨hm, rfl⟩ := wl_r hF
    rcases (show e9 = 0 ∨ e9 = 2 by simpa using hm) with rfl | rfl
    · refine fr_catch (e9 := 0) C [] ⟨0, 9, 12, 21⟩ [⟨0, 9, 15, 15⟩] (hT.trans rfl) (fun q hq => nomatch hq) (by decide) rfl (by decide) wl_L_21 hce hcv hcl ?_
      refine lv_astore_n (lv' := [(3, .ref q9), (0, .ref (fw_ad X 352)), (1, .int a1), (2, .ref (fw_ad X 386))]) hx hb dL_addSecret_12 rfl hl (by decide) rfl (fun ls hl => ?_)
      refine lv_iconst (v := 1) hx hb dL_addSecret_13 (by decide) ?_
      exact fr_iret C B hr rfl hlk rfl (Nat.le_of_ble_eq_true rfl) (Nat.le_of_ble_eq_true rfl) dL_addSecret_14
    · refine fr_catch (e9 := 2) C [(⟨0, 9, 12, 21⟩, 0)] ⟨0, 9, 15, 15⟩ [] (hT.trans rfl) (List.forall_mem_cons.mpr ⟨⟨by decide, by decide, by decide, wl_L_21⟩, (fun q hq => nomatch hq)⟩) (by decide) rfl (by decide) wl_L_15 hce hcv hcl ?_
      refine lv_astore_n (lv' := [(3, .ref q9), (0, .ref (fw_ad X 352)), (1, .int a1), (2, .ref (fw_ad X 386))]) hx hb dL_addSecret_15 rfl hl (by decide) rfl (fun ls hl => ?_)
      refine lv_iconst (v := 2) hx hb dL_addSecret_16 (by decide) ?_
      exact fr_iret C B hr rfl hlk rfl (Nat.le_of_ble_eq_true rfl) (Nat.le_of_ble_eq_true rfl) dL_addSecret_17
  · intro r M1 H locs h B
    subst h
    have hF := Option.some.inj hF
    refine lv_i2l hx hb dL_addSecret_7 rfl ?_
    refine fr_ls (x := r) C B dL_addSecret_8 (fun H locs B => ?_)
    refine lv_goto (tgt := 18) hx hb dL_addSecret_9 (by decide) ?_
    refine lv_iconst (v := 0) hx hb dL_addSecret_18 (by decide) ?_
    exact fr_iret C B hr rfl hlk (by rw [← hF]) (Nat.le_of_ble_eq_true rfl) (Nat.le_of_ble_eq_true rfl) dL_addSecret_19
def F_L_whisper (M : fw_M) (a1 : Int32) (a2 : Int32) : Option (Int32 × fw_M) := wr_l (F_X8_whisper M a1 a2) [0, 2, 4]
set_option maxHeartbeats 4000000 in
set_option maxRecDepth 100000 in
theorem cm_L_whisper {l : Launch} {X : fw_X} {M : fw_M} {a1 : Int32} {a2 : Int32} {o : Int32 × fw_M} (hlt : l.stackTraces = false) (hF : F_L_whisper M a1 a2 = some o) : ct_h l X yL_whisper cL_whisper 5 [(0, 10, 13, 21), (0, 10, 17, 15), (0, 10, 21, 80)] ({ frames := 9, cells := 1, slots := 6, locals := 172 } : Room) M [.ref (fw_ad X 352), .int a1, .int a2, .ref (fw_ad X 386)] (.inl o.1, o.2) := by
  refine fw_openH rfl (Nat.le_of_ble_eq_true rfl) (fun p e s m below meth c ls C hr hlk hT hl B => ?_)
  have C : fr_C X p c cL_whisper 5 RL s m ([.ref (fw_ad X 352), .int a1, .int a2, .ref (fw_ad X 386)] : List Value).toArray := C
  have hx := C.1.1
  have hb := C.1.2.1
  have hl : lv_has ls 5 [(0, .ref (fw_ad X 352)), (1, .int a1), (2, .int a2), (3, .ref (fw_ad X 386))] := hl
  unfold F_L_whisper at hF
  obtain ⟨oc, hn, hF⟩ := wl_e hF
  refine lv_aload_n hx hb dL_whisper_0 rfl (lv_at hl 3 rfl) ?_
  refine lv_iconst (v := 0) hx hb dL_whisper_1 (by decide) ?_
  refine lv_aload_n hx hb dL_whisper_2 rfl (lv_at hl 0 rfl) ?_
  refine lv_iload_n hx hb dL_whisper_3 rfl (lv_at hl 1 rfl) ?_
  refine lv_iload_n hx hb dL_whisper_4 rfl (lv_at hl 2 rfl) ?_
  refine fr_cVi (As := [.int a1, .int a2]) (rest := [.int 0, .ref (fw_ad X 386)]) C B (cm_X8_whisper hlt hn) ob_8 rfl yw_X8_whisper wm_L_106 rfl hl.1 rfl (Nat.le_of_ble_eq_true rfl) ⟨Nat.le_of_ble_eq_true rfl, Nat.le_of_ble_eq_true rfl⟩ ⟨Nat.le_of_ble_eq_true rfl, Nat.le_of_ble_eq_true rfl⟩ dL_whisper_5 ?_ ?_
  · intro e9 M1 ce q9 H1 locs1 h B hce hcv hcl
    subst h
    obtain ⟨hm, rfl⟩ := wl_r hF
    rcases (show e9 = 0 ∨ e9 = 2 ∨ e9 = 4 by simpa using hm) with rfl | rfl | rfl
    · refine fr_catch (e9 := 0) C [] ⟨0, 10, 13, 21⟩ [⟨0, 10, 17, 15⟩, ⟨0, 10, 21, 80⟩] (hT.trans rfl) (fun q hq => nomatch hq) (by decide) rfl (by decide) wl_L_21 hce hcv hcl ?_
      refine lv_astore (lv' := [(4, .ref q9), (0, .ref (fw_ad X 352)), (1, .int a1), (2, .int a2), (3, .ref (fw_ad X 386))]) hx hb dL_whisper_13 hl (by decide) rfl (fun ls hl => ?_)
      refine lv_iconst (v := 1) hx hb dL_whisper_15 (by decide) ?_
      exact fr_iret C B hr rfl hlk rfl (Nat.le_of_ble_eq_true rfl) (Nat.le_of_ble_eq_true rfl) dL_whisper_16
    · refine fr_catch (e9 := 2) C [(⟨0, 10, 13, 21⟩, 0)] ⟨0, 10, 17, 15⟩ [⟨0, 10, 21, 80⟩] (hT.trans rfl) (List.forall_mem_cons.mpr ⟨⟨by decide, by decide, by decide, wl_L_21⟩, (fun q hq => nomatch hq)⟩) (by decide) rfl (by decide) wl_L_15 hce hcv hcl ?_
      refine lv_astore (lv' := [(4, .ref q9), (0, .ref (fw_ad X 352)), (1, .int a1), (2, .int a2), (3, .ref (fw_ad X 386))]) hx hb dL_whisper_17 hl (by decide) rfl (fun ls hl => ?_)
      refine lv_iconst (v := 2) hx hb dL_whisper_19 (by decide) ?_
      exact fr_iret C B hr rfl hlk rfl (Nat.le_of_ble_eq_true rfl) (Nat.le_of_ble_eq_true rfl) dL_whisper_20
    · refine fr_catch (e9 := 4) C [(⟨0, 10, 13, 21⟩, 0), (⟨0, 10, 17, 15⟩, 2)] ⟨0, 10, 21, 80⟩ [] (hT.trans rfl) (List.forall_mem_cons.mpr ⟨⟨by decide, by decide, by decide, wl_L_21⟩, (List.forall_mem_cons.mpr ⟨⟨by decide, by decide, by decide, wl_L_15⟩, (fun q hq => nomatch hq)⟩)⟩) (by decide) rfl (by decide) wl_L_80 hce hcv hcl ?_
      refine lv_astore (lv' := [(4, .ref q9), (0, .ref (fw_ad X 352)), (1, .int a1), (2, .int a2), (3, .ref (fw_ad X 386))]) hx hb dL_whisper_21 hl (by decide) rfl (fun ls hl => ?_)
      refine lv_iconst (v := 3) hx hb dL_whisper_23 (by decide) ?_
      exact fr_iret C B hr rfl hlk rfl (Nat.le_of_ble_eq_true rfl) (Nat.le_of_ble_eq_true rfl) dL_whisper_24
  · intro r M1 H locs h B
    subst h
    have hF := Option.some.inj hF
    refine lv_i2l hx hb dL_whisper_8 rfl ?_
    refine fr_ls (x := r) C B dL_whisper_9 (fun H locs B => ?_)
    refine lv_goto (tgt := 25) hx hb dL_whisper_10 (by decide) ?_
    refine lv_iconst (v := 0) hx hb dL_whisper_25 (by decide) ?_
    exact fr_iret C B hr rfl hlk (by rw [← hF]) (Nat.le_of_ble_eq_true rfl) (Nat.le_of_ble_eq_true rfl) dL_whisper_26
def F_L_carrierOf (M : fw_M) (a1 : Int32) : Option (Int32 × fw_M) := wr_l (F_X8_carrierOf M a1) [0]
set_option maxHeartbeats 4000000 in
set_option maxRecDepth 100000 in
theorem cm_L_carrierOf {l : Launch} {X : fw_X} {M : fw_M} {a1 : Int32} {o : Int32 × fw_M} (hlt : l.stackTraces = false) (hF : F_L_carrierOf M a1 = some o) : ct_h l X yL_carrierOf cL_carrierOf 4 [(0, 9, 12, 21)] ({ frames := 9, cells := 1, slots := 6, locals := 172 } : Room) M [.ref (fw_ad X 352), .int a1, .ref (fw_ad X 386)] (.inl o.1, o.2) := by
  refine fw_openH rfl (Nat.le_of_ble_eq_true rfl) (fun p e s m below meth c ls C hr hlk hT hl B => ?_)
  have C : fr_C X p c cL_carrierOf 4 RL s m ([.ref (fw_ad X 352), .int a1, .ref (fw_ad X 386)] : List Value).toArray := C
  have hx := C.1.1
  have hb := C.1.2.1
  have hl : lv_has ls 4 [(0, .ref (fw_ad X 352)), (1, .int a1), (2, .ref (fw_ad X 386))] := hl
  unfold F_L_carrierOf at hF
  obtain ⟨oc, hn, hF⟩ := wl_e hF
  refine lv_aload_n hx hb dL_carrierOf_0 rfl (lv_at hl 2 rfl) ?_
  refine lv_iconst (v := 0) hx hb dL_carrierOf_1 (by decide) ?_
  refine lv_aload_n hx hb dL_carrierOf_2 rfl (lv_at hl 0 rfl) ?_
  refine lv_iload_n hx hb dL_carrierOf_3 rfl (lv_at hl 1 rfl) ?_
  refine fr_cVi (As := [.int a1]) (rest := [.int 0, .ref (fw_ad X 386)]) C B (cm_X8_carrierOf hlt hn) ob_8 rfl yw_X8_carrierOf wm_L_109 rfl hl.1 rfl (Nat.le_of_ble_eq_true rfl) ⟨Nat.le_of_ble_eq_true rfl, Nat.le_of_ble_eq_true rfl⟩ ⟨Nat.le_of_ble_eq_true rfl, Nat.le_of_ble_eq_true rfl⟩ dL_carrierOf_4 ?_ ?_
  · intro e9 M1 ce q9 H1 locs1 h B hce hcv hcl
    subst h
    obtain ⟨hm, rfl⟩ := wl_r hF
    rcases (show e9 = 0 by simpa using hm) with rfl
    · refine fr_catch (e9 := 0) C [] ⟨0, 9, 12, 21⟩ [] (hT.trans rfl) (fun q hq => nomatch hq) (by decide) rfl (by decide) wl_L_21 hce hcv hcl ?_
      refine lv_astore_n (lv' := [(3, .ref q9), (0, .ref (fw_ad X 352)), (1, .int a1), (2, .ref (fw_ad X 386))]) hx hb dL_carrierOf_12 rfl hl (by decide) rfl (fun ls hl => ?_)
      refine lv_iconst (v := 1) hx hb dL_carrierOf_13 (by decide) ?_
      exact fr_iret C B hr rfl hlk rfl (Nat.le_of_ble_eq_true rfl) (Nat.le_of_ble_eq_true rfl) dL_carrierOf_14
  · intro r M1 H locs h B
    subst h
    have hF := Option.some.inj hF
    refine lv_i2l hx hb dL_carrierOf_7 rfl ?_
    refine fr_ls (x := r) C B dL_carrierOf_8 (fun H locs B => ?_)
    refine lv_goto (tgt := 15) hx hb dL_carrierOf_9 (by decide) ?_
    refine lv_iconst (v := 0) hx hb dL_carrierOf_15 (by decide) ?_
    exact fr_iret C B hr rfl hlk (by rw [← hF]) (Nat.le_of_ble_eq_true rfl) (Nat.le_of_ble_eq_true rfl) dL_carrierOf_16
def F_L_isTruth (M : fw_M) (a1 : Int32) : Option (Int32 × fw_M) := wr_b (F_X8_isTruth M a1) [0]
set_option maxHeartbeats 4000000 in
set_option maxRecDepth 100000 in
theorem cm_L_isTruth {l : Launch} {X : fw_X} {M : fw_M} {a1 : Int32} {o : Int32 × fw_M} (hlt : l.stackTraces = false) (hF : F_L_isTruth M a1 = some o) : ct_h l X yL_isTruth cL_isTruth 4 [(0, 16, 19, 21)] ({ frames := 9, cells := 1, slots := 6, locals := 172 } : Room) M [.ref (fw_ad X 352), .int a1, .ref (fw_ad X 386)] (.inl o.1, o.2) := by
  refine fw_openH rfl (Nat.le_of_ble_eq_true rfl) (fun p e s m below meth c ls C hr hlk hT hl B => ?_)
  have C : fr_C X p c cL_isTruth 4 RL s m ([.ref (fw_ad X 352), .int a1, .ref (fw_ad X 386)] : List Value).toArray := C
  have hx := C.1.1
  have hb := C.1.2.1
  have hl : lv_has ls 4 [(0, .ref (fw_ad X 352)), (1, .int a1), (2, .ref (fw_ad X 386))] := hl
  unfold F_L_isTruth at hF
  obtain ⟨oc, hn, hF⟩ := wb_e hF
  refine lv_aload_n hx hb dL_isTruth_0 rfl (lv_at hl 2 rfl) ?_
  refine lv_iconst (v := 0) hx hb dL_isTruth_1 (by decide) ?_
  refine lv_aload_n hx hb dL_isTruth_2 rfl (lv_at hl 0 rfl) ?_
  refine lv_iload_n hx hb dL_isTruth_3 rfl (lv_at hl 1 rfl) ?_
  refine fr_cVi (As := [.int a1]) (rest := [.int 0, .ref (fw_ad X 386)]) C B (cm_X8_isTruth hlt hn) ob_8 rfl yw_X8_isTruth wm_L_112 rfl hl.1 rfl (Nat.le_of_ble_eq_true rfl) ⟨Nat.le_of_ble_eq_true rfl, Nat.le_of_ble_eq_true rfl⟩ ⟨Nat.le_of_ble_eq_true rfl, Nat.le_of_ble_eq_true rfl⟩ dL_isTruth_4 ?_ ?_
  · intro e9 M1 ce q9 H1 locs1 h B hce hcv hcl
    subst h
    obtain ⟨hm, rfl⟩ := wb_r hF
    rcases (show e9 = 0 by simpa using hm) with rfl
    · refine fr_catch (e9 := 0) C [] ⟨0, 16, 19, 21⟩ [] (hT.trans rfl) (fun q hq => nomatch hq) (by decide) rfl (by decide) wl_L_21 hce hcv hcl ?_
      refine lv_astore_n (lv' := [(3, .ref q9), (0, .ref (fw_ad X 352)), (1, .int a1), (2, .ref (fw_ad X 386))]) hx hb dL_isTruth_19 rfl hl (by decide) rfl (fun ls hl => ?_)
      refine lv_iconst (v := 1) hx hb dL_isTruth_20 (by decide) ?_
      exact fr_iret C B hr rfl hlk rfl (Nat.le_of_ble_eq_true rfl) (Nat.le_of_ble_eq_true rfl) dL_isTruth_21
  · intro r M1 H locs h B
    subst h
    have hF := Option.some.inj hF
    refine lv_if_eq (tgt := 14) hx hb dL_isTruth_7 (by decide) (fun hc => ?_) (fun hc => ?_)
    · rw [if_pos hc] at hF
      refine lv_lconst (v := (0 : Int32).toInt64) hx hb dL_isTruth_14 (by decide) ?_
      refine fr_ls (x := 0) C B dL_isTruth_15 (fun H locs B => ?_)
      refine lv_goto (tgt := 22) hx hb dL_isTruth_16 (by decide) ?_
      refine lv_iconst (v := 0) hx hb dL_isTruth_22 (by decide) ?_
      exact fr_iret C B hr rfl hlk (by rw [← hF]) (Nat.le_of_ble_eq_true rfl) (Nat.le_of_ble_eq_true rfl) dL_isTruth_23
    · rw [if_neg hc] at hF
      refine lv_lconst (v := (1 : Int32).toInt64) hx hb dL_isTruth_10 (by decide) ?_
      refine lv_goto (tgt := 15) hx hb dL_isTruth_11 (by decide) ?_
      refine fr_ls (x := 1) C B dL_isTruth_15 (fun H locs B => ?_)
      refine lv_goto (tgt := 22) hx hb dL_isTruth_16 (by decide) ?_
      refine lv_iconst (v := 0) hx hb dL_isTruth_22 (by decide) ?_
      exact fr_iret C B hr rfl hlk (by rw [← hF]) (Nat.le_of_ble_eq_true rfl) (Nat.le_of_ble_eq_true rfl) dL_isTruth_23
def F_L_knows (M : fw_M) (a1 : Int32) (a2 : Int32) : Option (Int32 × fw_M) := wr_b (F_X8_knows M a1 a2) [0]
set_option maxHeartbeats 4000000 in
set_option maxRecDepth 100000 in
theorem cm_L_knows {l : Launch} {X : fw_X} {M : fw_M} {a1 : Int32} {a2 : Int32} {o : Int32 × fw_M} (hlt : l.stackTraces = false) (hF : F_L_knows M a1 a2 = some o) : ct_h l X yL_knows cL_knows 5 [(0, 17, 20, 21)] ({ frames := 9, cells := 2, slots := 12, locals := 173 } : Room) M [.ref (fw_ad X 352), .int a1, .int a2, .ref (fw_ad X 386)] (.inl o.1, o.2) := by
  refine fw_openH rfl (Nat.le_of_ble_eq_true rfl) (fun p e s m below meth c ls C hr hlk hT hl B => ?_)
  have C : fr_C X p c cL_knows 5 RL s m ([.ref (fw_ad X 352), .int a1, .int a2, .ref (fw_ad X 386)] : List Value).toArray := C
  have hx := C.1.1
  have hb := C.1.2.1
  have hl : lv_has ls 5 [(0, .ref (fw_ad X 352)), (1, .int a1), (2, .int a2), (3, .ref (fw_ad X 386))] := hl
  unfold F_L_knows at hF
  obtain ⟨oc, hn, hF⟩ := wb_e hF
  refine lv_aload_n hx hb dL_knows_0 rfl (lv_at hl 3 rfl) ?_
  refine lv_iconst (v := 0) hx hb dL_knows_1 (by decide) ?_
  refine lv_aload_n hx hb dL_knows_2 rfl (lv_at hl 0 rfl) ?_
  refine lv_iload_n hx hb dL_knows_3 rfl (lv_at hl 1 rfl) ?_
  refine lv_iload_n hx hb dL_knows_4 rfl (lv_at hl 2 rfl) ?_
  refine fr_cVi (As := [.int a1, .int a2]) (rest := [.int 0, .ref (fw_ad X 386)]) C B (cm_X8_knows hlt hn) ob_8 rfl yw_X8_knows wm_L_115 rfl hl.1 rfl (Nat.le_of_ble_eq_true rfl) ⟨Nat.le_of_ble_eq_true rfl, Nat.le_of_ble_eq_true rfl⟩ ⟨Nat.le_of_ble_eq_true rfl, Nat.le_of_ble_eq_true rfl⟩ dL_knows_5 ?_ ?_
  · intro e9 M1 ce q9 H1 locs1 h B hce hcv hcl
    subst h
    obtain ⟨hm, rfl⟩ := wb_r hF
    rcases (show e9 = 0 by simpa using hm) with rfl
    · refine fr_catch (e9 := 0) C [] ⟨0, 17, 20, 21⟩ [] (hT.trans rfl) (fun q hq => nomatch hq) (by decide) rfl (by decide) wl_L_21 hce hcv hcl ?_
      refine lv_astore (lv' := [(4, .ref q9), (0, .ref (fw_ad X 352)), (1, .int a1), (2, .int a2), (3, .ref (fw_ad X 386))]) hx hb dL_knows_20 hl (by decide) rfl (fun ls hl => ?_)
      refine lv_iconst (v := 1) hx hb dL_knows_22 (by decide) ?_
      exact fr_iret C B hr rfl hlk rfl (Nat.le_of_ble_eq_true rfl) (Nat.le_of_ble_eq_true rfl) dL_knows_23
  · intro r M1 H locs h B
    subst h
    have hF := Option.some.inj hF
    refine lv_if_eq (tgt := 15) hx hb dL_knows_8 (by decide) (fun hc => ?_) (fun hc => ?_)
    · rw [if_pos hc] at hF
      refine lv_lconst (v := (0 : Int32).toInt64) hx hb dL_knows_15 (by decide) ?_
      refine fr_ls (x := 0) C B dL_knows_16 (fun H locs B => ?_)
      refine lv_goto (tgt := 24) hx hb dL_knows_17 (by decide) ?_
      refine lv_iconst (v := 0) hx hb dL_knows_24 (by decide) ?_
      exact fr_iret C B hr rfl hlk (by rw [← hF]) (Nat.le_of_ble_eq_true rfl) (Nat.le_of_ble_eq_true rfl) dL_knows_25
    · rw [if_neg hc] at hF
      refine lv_lconst (v := (1 : Int32).toInt64) hx hb dL_knows_11 (by decide) ?_
      refine lv_goto (tgt := 16) hx hb dL_knows_12 (by decide) ?_
      refine fr_ls (x := 1) C B dL_knows_16 (fun H locs B => ?_)
      refine lv_goto (tgt := 24) hx hb dL_knows_17 (by decide) ?_
      refine lv_iconst (v := 0) hx hb dL_knows_24 (by decide) ?_
      exact fr_iret C B hr rfl hlk (by rw [← hF]) (Nat.le_of_ble_eq_true rfl) (Nat.le_of_ble_eq_true rfl) dL_knows_25
def F_L_knowerCount (M : fw_M) (a1 : Int32) : Option (Int32 × fw_M) := wr_l (F_X8_knowerCount M a1) [0]
set_option maxHeartbeats 4000000 in
set_option maxRecDepth 100000 in
theorem cm_L_knowerCount {l : Launch} {X : fw_X} {M : fw_M} {a1 : Int32} {o : Int32 × fw_M} (hlt : l.stackTraces = false) (hF : F_L_knowerCount M a1 = some o) : ct_h l X yL_knowerCount cL_knowerCount 4 [(0, 9, 12, 21)] ({ frames := 9, cells := 1, slots := 6, locals := 172 } : Room) M [.ref (fw_ad X 352), .int a1, .ref (fw_ad X 386)] (.inl o.1, o.2) := by
  refine fw_openH rfl (Nat.le_of_ble_eq_true rfl) (fun p e s m below meth c ls C hr hlk hT hl B => ?_)
  have C : fr_C X p c cL_knowerCount 4 RL s m ([.ref (fw_ad X 352), .int a1, .ref (fw_ad X 386)] : List Value).toArray := C
  have hx := C.1.1
  have hb := C.1.2.1
  have hl : lv_has ls 4 [(0, .ref (fw_ad X 352)), (1, .int a1), (2, .ref (fw_ad X 386))] := hl
  unfold F_L_knowerCount at hF
  obtain ⟨oc, hn, hF⟩ := wl_e hF
  refine lv_aload_n hx hb dL_knowerCount_0 rfl (lv_at hl 2 rfl) ?_
  refine lv_iconst (v := 0) hx hb dL_knowerCount_1 (by decide) ?_
  refine lv_aload_n hx hb dL_knowerCount_2 rfl (lv_at hl 0 rfl) ?_
  refine lv_iload_n hx hb dL_knowerCount_3 rfl (lv_at hl 1 rfl) ?_
  refine fr_cVi (As := [.int a1]) (rest := [.int 0, .ref (fw_ad X 386)]) C B (cm_X8_knowerCount hlt hn) ob_8 rfl yw_X8_knowerCount wm_L_118 rfl hl.1 rfl (Nat.le_of_ble_eq_true rfl) ⟨Nat.le_of_ble_eq_true rfl, Nat.le_of_ble_eq_true rfl⟩ ⟨Nat.le_of_ble_eq_true rfl, Nat.le_of_ble_eq_true rfl⟩ dL_knowerCount_4 ?_ ?_
  · intro e9 M1 ce q9 H1 locs1 h B hce hcv hcl
    subst h
    obtain ⟨hm, rfl⟩ := wl_r hF
    rcases (show e9 = 0 by simpa using hm) with rfl
    · refine fr_catch (e9 := 0) C [] ⟨0, 9, 12, 21⟩ [] (hT.trans rfl) (fun q hq => nomatch hq) (by decide) rfl (by decide) wl_L_21 hce hcv hcl ?_
      refine lv_astore_n (lv' := [(3, .ref q9), (0, .ref (fw_ad X 352)), (1, .int a1), (2, .ref (fw_ad X 386))]) hx hb dL_knowerCount_12 rfl hl (by decide) rfl (fun ls hl => ?_)
      refine lv_iconst (v := 1) hx hb dL_knowerCount_13 (by decide) ?_
      exact fr_iret C B hr rfl hlk rfl (Nat.le_of_ble_eq_true rfl) (Nat.le_of_ble_eq_true rfl) dL_knowerCount_14
  · intro r M1 H locs h B
    subst h
    have hF := Option.some.inj hF
    refine lv_i2l hx hb dL_knowerCount_7 rfl ?_
    refine fr_ls (x := r) C B dL_knowerCount_8 (fun H locs B => ?_)
    refine lv_goto (tgt := 15) hx hb dL_knowerCount_9 (by decide) ?_
    refine lv_iconst (v := 0) hx hb dL_knowerCount_15 (by decide) ?_
    exact fr_iret C B hr rfl hlk (by rw [← hF]) (Nat.le_of_ble_eq_true rfl) (Nat.le_of_ble_eq_true rfl) dL_knowerCount_16
def F_L_wisestPassenger (M : fw_M) (a1 : Int32) : Option (Int32 × fw_M) := wr_l (F_X8_wisestPassenger M a1) [3]
set_option maxHeartbeats 4000000 in
set_option maxRecDepth 100000 in
theorem cm_L_wisestPassenger {l : Launch} {X : fw_X} {M : fw_M} {a1 : Int32} {o : Int32 × fw_M} (hlt : l.stackTraces = false) (hF : F_L_wisestPassenger M a1 = some o) : ct_h l X yL_wisestPassenger cL_wisestPassenger 4 [(0, 9, 12, 39)] ({ frames := 8, cells := 1, slots := 6, locals := 152 } : Room) M [.ref (fw_ad X 352), .int a1, .ref (fw_ad X 386)] (.inl o.1, o.2) := by
  refine fw_openH rfl (Nat.le_of_ble_eq_true rfl) (fun p e s m below meth c ls C hr hlk hT hl B => ?_)
  have C : fr_C X p c cL_wisestPassenger 4 RL s m ([.ref (fw_ad X 352), .int a1, .ref (fw_ad X 386)] : List Value).toArray := C
  have hx := C.1.1
  have hb := C.1.2.1
  have hl : lv_has ls 4 [(0, .ref (fw_ad X 352)), (1, .int a1), (2, .ref (fw_ad X 386))] := hl
  unfold F_L_wisestPassenger at hF
  obtain ⟨oc, hn, hF⟩ := wl_e hF
  refine lv_aload_n hx hb dL_wisestPassenger_0 rfl (lv_at hl 2 rfl) ?_
  refine lv_iconst (v := 0) hx hb dL_wisestPassenger_1 (by decide) ?_
  refine lv_aload_n hx hb dL_wisestPassenger_2 rfl (lv_at hl 0 rfl) ?_
  refine lv_iload_n hx hb dL_wisestPassenger_3 rfl (lv_at hl 1 rfl) ?_
  refine fr_cVi (As := [.int a1]) (rest := [.int 0, .ref (fw_ad X 386)]) C B (cm_X8_wisestPassenger hlt hn) ob_8 rfl yw_X8_wisestPassenger wm_L_121 rfl hl.1 rfl (Nat.le_of_ble_eq_true rfl) ⟨Nat.le_of_ble_eq_true rfl, Nat.le_of_ble_eq_true rfl⟩ ⟨Nat.le_of_ble_eq_true rfl, Nat.le_of_ble_eq_true rfl⟩ dL_wisestPassenger_4 ?_ ?_
  · intro e9 M1 ce q9 H1 locs1 h B hce hcv hcl
    subst h
    obtain ⟨hm, rfl⟩ := wl_r hF
    rcases (show e9 = 3 by simpa using hm) with rfl
    · refine fr_catch (e9 := 3) C [] ⟨0, 9, 12, 39⟩ [] (hT.trans rfl) (fun q hq => nomatch hq) (by decide) rfl (by decide) wl_L_39 hce hcv hcl ?_
      refine lv_astore_n (lv' := [(3, .ref q9), (0, .ref (fw_ad X 352)), (1, .int a1), (2, .ref (fw_ad X 386))]) hx hb dL_wisestPassenger_12 rfl hl (by decide) rfl (fun ls hl => ?_)
      refine lv_iconst (v := 1) hx hb dL_wisestPassenger_13 (by decide) ?_
      exact fr_iret C B hr rfl hlk rfl (Nat.le_of_ble_eq_true rfl) (Nat.le_of_ble_eq_true rfl) dL_wisestPassenger_14
  · intro r M1 H locs h B
    subst h
    have hF := Option.some.inj hF
    refine lv_i2l hx hb dL_wisestPassenger_7 rfl ?_
    refine fr_ls (x := r) C B dL_wisestPassenger_8 (fun H locs B => ?_)
    refine lv_goto (tgt := 15) hx hb dL_wisestPassenger_9 (by decide) ?_
    refine lv_iconst (v := 0) hx hb dL_wisestPassenger_15 (by decide) ?_
    exact fr_iret C B hr rfl hlk (by rw [← hF]) (Nat.le_of_ble_eq_true rfl) (Nat.le_of_ble_eq_true rfl) dL_wisestPassenger_16
def F_L_distance (M : fw_M) (a1 : Int32) (a2 : Int32) : Option (Int32 × fw_M) := wr_l (F_X8_distance M a1 a2) [0, 3]
set_option maxHeartbeats 4000000 in
set_option maxRecDepth 100000 in
theorem cm_L_distance {l : Launch} {X : fw_X} {M : fw_M} {a1 : Int32} {a2 : Int32} {o : Int32 × fw_M} (hlt : l.stackTraces = false) (hF : F_L_distance M a1 a2 = some o) : ct_h l X yL_distance cL_distance 5 [(0, 10, 13, 21), (0, 10, 17, 39)] ({ frames := 9, cells := 3, slots := 18, locals := 173 } : Room) M [.ref (fw_ad X 352), .int a1, .int a2, .ref (fw_ad X 386)] (.inl o.1, o.2) := by
  refine fw_openH rfl (Nat.le_of_ble_eq_true rfl) (fun p e s m below meth c ls C hr hlk hT hl B => ?_)
  have C : fr_C X p c cL_distance 5 RL s m ([.ref (fw_ad X 352), .int a1, .int a2, .ref (fw_ad X 386)] : List Value).toArray := C
  have hx := C.1.1
  have hb := C.1.2.1
  have hl : lv_has ls 5 [(0, .ref (fw_ad X 352)), (1, .int a1), (2, .int a2), (3, .ref (fw_ad X 386))] := hl
  unfold F_L_distance at hF
  obtain ⟨oc, hn, hF⟩ := wl_e hF
  refine lv_aload_n hx hb dL_distance_0 rfl (lv_at hl 3 rfl) ?_
  refine lv_iconst (v := 0) hx hb dL_distance_1 (by decide) ?_
  refine lv_aload_n hx hb dL_distance_2 rfl (lv_at hl 0 rfl) ?_
  refine lv_iload_n hx hb dL_distance_3 rfl (lv_at hl 1 rfl) ?_
  refine lv_iload_n hx hb dL_distance_4 rfl (lv_at hl 2 rfl) ?_
  refine fr_cVi (As := [.int a1, .int a2]) (rest := [.int 0, .ref (fw_ad X 386)]) C B (cm_X8_distance hlt hn) ob_8 rfl yw_X8_distance wm_L_124 rfl hl.1 rfl (Nat.le_of_ble_eq_true rfl) ⟨Nat.le_of_ble_eq_true rfl, Nat.le_of_ble_eq_true rfl⟩ ⟨Nat.le_of_ble_eq_true rfl, Nat.le_of_ble_eq_true rfl⟩ dL_distance_5 ?_ ?_
  · intro e9 M1 ce q9 H1 locs1 h B hce hcv hcl
    subst h
    obtain ⟨hm, rfl⟩ := wl_r hF
    rcases (show e9 = 0 ∨ e9 = 3 by simpa using hm) with rfl | rfl
    · refine fr_catch (e9 := 0) C [] ⟨0, 10, 13, 21⟩ [⟨0, 10, 17, 39⟩] (hT.trans rfl) (fun q hq => nomatch hq) (by decide) rfl (by decide) wl_L_21 hce hcv hcl ?_
      refine lv_astore (lv' := [(4, .ref q9), (0, .ref (fw_ad X 352)), (1, .int a1), (2, .int a2), (3, .ref (fw_ad X 386))]) hx hb dL_distance_13 hl (by decide) rfl (fun ls hl => ?_)
      refine lv_iconst (v := 1) hx hb dL_distance_15 (by decide) ?_
      exact fr_iret C B hr rfl hlk rfl (Nat.le_of_ble_eq_true rfl) (Nat.le_of_ble_eq_true rfl) dL_distance_16
    · refine fr_catch (e9 := 3) C [(⟨0, 10, 13, 21⟩, 0)] ⟨0, 10, 17, 39⟩ [] (hT.trans rfl) (List.forall_mem_cons.mpr ⟨⟨by decide, by decide, by decide, wl_L_21⟩, (fun q hq => nomatch hq)⟩) (by decide) rfl (by decide) wl_L_39 hce hcv hcl ?_
      refine lv_astore (lv' := [(4, .ref q9), (0, .ref (fw_ad X 352)), (1, .int a1), (2, .int a2), (3, .ref (fw_ad X 386))]) hx hb dL_distance_17 hl (by decide) rfl (fun ls hl => ?_)
      refine lv_iconst (v := 2) hx hb dL_distance_19 (by decide) ?_
      exact fr_iret C B hr rfl hlk rfl (Nat.le_of_ble_eq_true rfl) (Nat.le_of_ble_eq_true rfl) dL_distance_20
  · intro r M1 H locs h B
    subst h
    have hF := Option.some.inj hF
    refine lv_i2l hx hb dL_distance_8 rfl ?_
    refine fr_ls (x := r) C B dL_distance_9 (fun H locs B => ?_)
    refine lv_goto (tgt := 21) hx hb dL_distance_10 (by decide) ?_
    refine lv_iconst (v := 0) hx hb dL_distance_21 (by decide) ?_
    exact fr_iret C B hr rfl hlk (by rw [← hF]) (Nat.le_of_ble_eq_true rfl) (Nat.le_of_ble_eq_true rfl) dL_distance_22
def F_L_distanceByRelaxation (M : fw_M) (a1 : Int32) (a2 : Int32) : Option (Int32 × fw_M) := wr_l (F_X8_distanceByRelaxation M a1 a2) [0, 3]
set_option maxHeartbeats 4000000 in
set_option maxRecDepth 100000 in
theorem cm_L_distanceByRelaxation {l : Launch} {X : fw_X} {M : fw_M} {a1 : Int32} {a2 : Int32} {o : Int32 × fw_M} (hlt : l.stackTraces = false) (hF : F_L_distanceByRelaxation M a1 a2 = some o) : ct_h l X yL_distanceByRelaxation cL_distanceByRelaxation 5 [(0, 10, 13, 21), (0, 10, 17, 39)] ({ frames := 9, cells := 3, slots := 18, locals := 173 } : Room) M [.ref (fw_ad X 352), .int a1, .int a2, .ref (fw_ad X 386)] (.inl o.1, o.2) := by
  refine fw_openH rfl (Nat.le_of_ble_eq_true rfl) (fun p e s m below meth c ls C hr hlk hT hl B => ?_)
  have C : fr_C X p c cL_distanceByRelaxation 5 RL s m ([.ref (fw_ad X 352), .int a1, .int a2, .ref (fw_ad X 386)] : List Value).toArray := C
  have hx := C.1.1
  have hb := C.1.2.1
  have hl : lv_has ls 5 [(0, .ref (fw_ad X 352)), (1, .int a1), (2, .int a2), (3, .ref (fw_ad X 386))] := hl
  unfold F_L_distanceByRelaxation at hF
  obtain ⟨oc, hn, hF⟩ := wl_e hF
  refine lv_aload_n hx hb dL_distanceByRelaxation_0 rfl (lv_at hl 3 rfl) ?_
  refine lv_iconst (v := 0) hx hb dL_distanceByRelaxation_1 (by decide) ?_
  refine lv_aload_n hx hb dL_distanceByRelaxation_2 rfl (lv_at hl 0 rfl) ?_
  refine lv_iload_n hx hb dL_distanceByRelaxation_3 rfl (lv_at hl 1 rfl) ?_
  refine lv_iload_n hx hb dL_distanceByRelaxation_4 rfl (lv_at hl 2 rfl) ?_
  refine fr_cVi (As := [.int a1, .int a2]) (rest := [.int 0, .ref (fw_ad X 386)]) C B (cm_X8_distanceByRelaxation hlt hn) ob_8 rfl yw_X8_distanceByRelaxation wm_L_127 rfl hl.1 rfl (Nat.le_of_ble_eq_true rfl) ⟨Nat.le_of_ble_eq_true rfl, Nat.le_of_ble_eq_true rfl⟩ ⟨Nat.le_of_ble_eq_true rfl, Nat.le_of_ble_eq_true rfl⟩ dL_distanceByRelaxation_5 ?_ ?_
  · intro e9 M1 ce q9 H1 locs1 h B hce hcv hcl
    subst h
    obtain ⟨hm, rfl⟩ := wl_r hF
    rcases (show e9 = 0 ∨ e9 = 3 by simpa using hm) with rfl | rfl
    · refine fr_catch (e9 := 0) C [] ⟨0, 10, 13, 21⟩ [⟨0, 10, 17, 39⟩] (hT.trans rfl) (fun q hq => nomatch hq) (by decide) rfl (by decide) wl_L_21 hce hcv hcl ?_
      refine lv_astore (lv' := [(4, .ref q9), (0, .ref (fw_ad X 352)), (1, .int a1), (2, .int a2), (3, .ref (fw_ad X 386))]) hx hb dL_distanceByRelaxation_13 hl (by decide) rfl (fun ls hl => ?_)
      refine lv_iconst (v := 1) hx hb dL_distanceByRelaxation_15 (by decide) ?_
      exact fr_iret C B hr rfl hlk rfl (Nat.le_of_ble_eq_true rfl) (Nat.le_of_ble_eq_true rfl) dL_distanceByRelaxation_16
    · refine fr_catch (e9 := 3) C [(⟨0, 10, 13, 21⟩, 0)] ⟨0, 10, 17, 39⟩ [] (hT.trans rfl) (List.forall_mem_cons.mpr ⟨⟨by decide, by decide, by decide, wl_L_21⟩, (fun q hq => nomatch hq)⟩) (by decide) rfl (by decide) wl_L_39 hce hcv hcl ?_
      refine lv_astore (lv' := [(4, .ref q9), (0, .ref (fw_ad X 352)), (1, .int a1), (2, .int a2), (3, .ref (fw_ad X 386))]) hx hb dL_distanceByRelaxation_17 hl (by decide) rfl (fun ls hl => ?_)
      refine lv_iconst (v := 2) hx hb dL_distanceByRelaxation_19 (by decide) ?_
      exact fr_iret C B hr rfl hlk rfl (Nat.le_of_ble_eq_true rfl) (Nat.le_of_ble_eq_true rfl) dL_distanceByRelaxation_20
  · intro r M1 H locs h B
    subst h
    have hF := Option.some.inj hF
    refine lv_i2l hx hb dL_distanceByRelaxation_8 rfl ?_
    refine fr_ls (x := r) C B dL_distanceByRelaxation_9 (fun H locs B => ?_)
    refine lv_goto (tgt := 21) hx hb dL_distanceByRelaxation_10 (by decide) ?_
    refine lv_iconst (v := 0) hx hb dL_distanceByRelaxation_21 (by decide) ?_
    exact fr_iret C B hr rfl hlk (by rw [← hF]) (Nat.le_of_ble_eq_true rfl) (Nat.le_of_ble_eq_true rfl) dL_distanceByRelaxation_22
def F_L_changes (M : fw_M) (a1 : Int32) (a2 : Int32) : Option (Int32 × fw_M) := wr_l (F_X8_changes M a1 a2) [0, 3]
set_option maxHeartbeats 4000000 in
set_option maxRecDepth 100000 in
theorem cm_L_changes {l : Launch} {X : fw_X} {M : fw_M} {a1 : Int32} {a2 : Int32} {o : Int32 × fw_M} (hlt : l.stackTraces = false) (hF : F_L_changes M a1 a2 = some o) : ct_h l X yL_changes cL_changes 5 [(0, 10, 13, 21), (0, 10, 17, 39)] ({ frames := 9, cells := 3, slots := 18, locals := 173 } : Room) M [.ref (fw_ad X 352), .int a1, .int a2, .ref (fw_ad X 386)] (.inl o.1, o.2) := by
  refine fw_openH rfl (Nat.le_of_ble_eq_true rfl) (fun p e s m below meth c ls C hr hlk hT hl B => ?_)
  have C : fr_C X p c cL_changes 5 RL s m ([.ref (fw_ad X 352), .int a1, .int a2, .ref (fw_ad X 386)] : List Value).toArray := C
  have hx := C.1.1
  have hb := C.1.2.1
  have hl : lv_has ls 5 [(0, .ref (fw_ad X 352)), (1, .int a1), (2, .int a2), (3, .ref (fw_ad X 386))] := hl
  unfold F_L_changes at hF
  obtain ⟨oc, hn, hF⟩ := wl_e hF
  refine lv_aload_n hx hb dL_changes_0 rfl (lv_at hl 3 rfl) ?_
  refine lv_iconst (v := 0) hx hb dL_changes_1 (by decide) ?_
  refine lv_aload_n hx hb dL_changes_2 rfl (lv_at hl 0 rfl) ?_
  refine lv_iload_n hx hb dL_changes_3 rfl (lv_at hl 1 rfl) ?_
  refine lv_iload_n hx hb dL_changes_4 rfl (lv_at hl 2 rfl) ?_
  refine fr_cVi (As := [.int a1, .int a2]) (rest := [.int 0, .ref (fw_ad X 386)]) C B (cm_X8_changes hlt hn) ob_8 rfl yw_X8_changes wm_L_130 rfl hl.1 rfl (Nat.le_of_ble_eq_true rfl) ⟨Nat.le_of_ble_eq_true rfl, Nat.le_of_ble_eq_true rfl⟩ ⟨Nat.le_of_ble_eq_true rfl, Nat.le_of_ble_eq_true rfl⟩ dL_changes_5 ?_ ?_
  · intro e9 M1 ce q9 H1 locs1 h B hce hcv hcl
    subst h
    obtain ⟨hm, rfl⟩ := wl_r hF
    rcases (show e9 = 0 ∨ e9 = 3 by simpa using hm) with rfl | rfl
    · refine fr_catch (e9 := 0) C [] ⟨0, 10, 13, 21⟩ [⟨0, 10, 17, 39⟩] (hT.trans rfl) (fun q hq => nomatch hq) (by decide) rfl (by decide) wl_L_21 hce hcv hcl ?_
      refine lv_astore (lv' := [(4, .ref q9), (0, .ref (fw_ad X 352)), (1, .int a1), (2, .int a2), (3, .ref (fw_ad X 386))]) hx hb dL_changes_13 hl (by decide) rfl (fun ls hl => ?_)
      refine lv_iconst (v := 1) hx hb dL_changes_15 (by decide) ?_
      exact fr_iret C B hr rfl hlk rfl (Nat.le_of_ble_eq_true rfl) (Nat.le_of_ble_eq_true rfl) dL_changes_16
    · refine fr_catch (e9 := 3) C [(⟨0, 10, 13, 21⟩, 0)] ⟨0, 10, 17, 39⟩ [] (hT.trans rfl) (List.forall_mem_cons.mpr ⟨⟨by decide, by decide, by decide, wl_L_21⟩, (fun q hq => nomatch hq)⟩) (by decide) rfl (by decide) wl_L_39 hce hcv hcl ?_
      refine lv_astore (lv' := [(4, .ref q9), (0, .ref (fw_ad X 352)), (1, .int a1), (2, .int a2), (3, .ref (fw_ad X 386))]) hx hb dL_changes_17 hl (by decide) rfl (fun ls hl => ?_)
      refine lv_iconst (v := 2) hx hb dL_changes_19 (by decide) ?_
      exact fr_iret C B hr rfl hlk rfl (Nat.le_of_ble_eq_true rfl) (Nat.le_of_ble_eq_true rfl) dL_changes_20
  · intro r M1 H locs h B
    subst h
    have hF := Option.some.inj hF
    refine lv_i2l hx hb dL_changes_8 rfl ?_
    refine fr_ls (x := r) C B dL_changes_9 (fun H locs B => ?_)
    refine lv_goto (tgt := 21) hx hb dL_changes_10 (by decide) ?_
    refine lv_iconst (v := 0) hx hb dL_changes_21 (by decide) ?_
    exact fr_iret C B hr rfl hlk (by rw [← hF]) (Nat.le_of_ble_eq_true rfl) (Nat.le_of_ble_eq_true rfl) dL_changes_22
