def F_L_changesByGrowth (M : fw_M) (a1 : Int32) (a2 : Int32) : Option (Int32 × fw_M) := wr_l (F_X8_changesByGrowth M a1 a2) [0, 3]
set_option maxHeartbeats 4000000 in
set_option maxRecDepth 100000 in
theorem cm_L_changesByGrowth {l : Launch} {X : fw_X} {M : fw_M} {a1 : Int32} {a2 : Int32} {o : Int32 × fw_M} (hlt : l.stackTraces = false) (hF : F_L_changesByGrowth M a1 a2 = some o) : ct_h l X yL_changesByGrowth cL_changesByGrowth 5 [(0, 10, 13, 21), (0, 10, 17, 39)] ({ frames := 9, cells := 3, slots := 18, locals := 173 } : Room) M [.ref (fw_ad X 352), .int a1, .int a2, .ref (fw_ad X 386)] (.inl o.1, o.2) := by
  refine fw_openH rfl (Nat.le_of_ble_eq_true rfl) (fun p e s m below meth c ls C hr hlk hT hl B => ?_)
  have C : fr_C X p c cL_changesByGrowth 5 RL s m ([.ref (fw_ad X 352), .int a1, .int a2, .ref (fw_ad X 386)] : List Value).toArray := C
  have hx := C.1.1
  have hb := C.1.2.1
  have hl : lv_has ls 5 [(0, .ref (fw_ad X 352)), (1, .int a1), (2, .int a2), (3, .ref (fw_ad X 386))] := hl
  unfold F_L_changesByGrowth at hF
  obtain ⟨oc, hn, hF⟩ := wl_e hF
  refine lv_aload_n hx hb dL_changesByGrowth_0 rfl (lv_at hl 3 rfl) ?_
  refine lv_iconst (v := 0) hx hb dL_changesByGrowth_1 (by decide) ?_
  refine lv_aload_n hx hb dL_changesByGrowth_2 rfl (lv_at hl 0 rfl) ?_
  refine lv_iload_n hx hb dL_changesByGrowth_3 rfl (lv_at hl 1 rfl) ?_
  refine lv_iload_n hx hb dL_changesByGrowth_4 rfl (lv_at hl 2 rfl) ?_
  refine fr_cVi (As := [.int a1, .int a2]) (rest := [.int 0, .ref (fw_ad X 386)]) C B (cm_X8_changesByGrowth hlt hn) ob_8 rfl yw_X8_changesByGrowth wm_L_133 rfl hl.1 rfl (Nat.le_of_ble_eq_true rfl) ⟨Nat.le_of_ble_eq_true rfl, Nat.le_of_ble_eq_true rfl⟩ ⟨Nat.le_of_ble_eq_true rfl, Nat.le_of_ble_eq_true rfl⟩ dL_changesByGrowth_5 ?_ ?_
  · intro e9 M1 ce q9 H1 locs1 h B hce hcv hcl
    subst h
    obtain ⟨hm, rfl⟩ := wl_r hF
    rcases (show e9 = 0 ∨ e9 = 3 by simpa using hm) with rfl | rfl
    · refine fr_catch (e9 := 0) C [] ⟨0, 10, 13, 21⟩ [⟨0, 10, 17, 39⟩] (hT.trans rfl) (fun q hq => nomatch hq) (by decide) rfl (by decide) wl_L_21 hce hcv hcl ?_
      refine lv_astore (lv' := [(4, .ref q9), (0, .ref (fw_ad X 352)), (1, .int a1), (2, .int a2), (3, .ref (fw_ad X 386))]) hx hb dL_changesByGrowth_13 hl (by decide) rfl (fun ls hl => ?_)
      refine lv_iconst (v := 1) hx hb dL_changesByGrowth_15 (by decide) ?_
      exact fr_iret C B hr rfl hlk rfl (Nat.le_of_ble_eq_true rfl) (Nat.le_of_ble_eq_true rfl) dL_changesByGrowth_16
    · refine fr_catch (e9 := 3) C [(⟨0, 10, 13, 21⟩, 0)] ⟨0, 10, 17, 39⟩ [] (hT.trans rfl) (List.forall_mem_cons.mpr ⟨⟨by decide, by decide, by decide, wl_L_21⟩, (fun q hq => nomatch hq)⟩) (by decide) rfl (by decide) wl_L_39 hce hcv hcl ?_
      refine lv_astore (lv' := [(4, .ref q9), (0, .ref (fw_ad X 352)), (1, .int a1), (2, .int a2), (3, .ref (fw_ad X 386))]) hx hb dL_changesByGrowth_17 hl (by decide) rfl (fun ls hl => ?_)
      refine lv_iconst (v := 2) hx hb dL_changesByGrowth_19 (by decide) ?_
      exact fr_iret C B hr rfl hlk rfl (Nat.le_of_ble_eq_true rfl) (Nat.le_of_ble_eq_true rfl) dL_changesByGrowth_20
  · intro r M1 H locs h B
    subst h
    have hF := Option.some.inj hF
    refine lv_i2l hx hb dL_changesByGrowth_8 rfl ?_
    refine fr_ls (x := r) C B dL_changesByGrowth_9 (fun H locs B => ?_)
    refine lv_goto (tgt := 21) hx hb dL_changesByGrowth_10 (by decide) ?_
    refine lv_iconst (v := 0) hx hb dL_changesByGrowth_21 (by decide) ?_
    exact fr_iret C B hr rfl hlk (by rw [← hF]) (Nat.le_of_ble_eq_true rfl) (Nat.le_of_ble_eq_true rfl) dL_changesByGrowth_22
def F_L_writeLine (M : fw_M) (a1 : Int32) : Option (Int32 × fw_M) := wr_l (F_X8_writeLine M a1) [0]
set_option maxHeartbeats 4000000 in
set_option maxRecDepth 100000 in
theorem cm_L_writeLine {l : Launch} {X : fw_X} {M : fw_M} {a1 : Int32} {o : Int32 × fw_M} (hlt : l.stackTraces = false) (hF : F_L_writeLine M a1 = some o) : ct_h l X yL_writeLine cL_writeLine 4 [(0, 9, 12, 21)] ({ frames := 9, cells := 18, slots := 1706, locals := 248 } : Room) M [.ref (fw_ad X 352), .int a1, .ref (fw_ad X 386)] (.inl o.1, o.2) := by
  refine fw_openH rfl (Nat.le_of_ble_eq_true rfl) (fun p e s m below meth c ls C hr hlk hT hl B => ?_)
  have C : fr_C X p c cL_writeLine 4 RL s m ([.ref (fw_ad X 352), .int a1, .ref (fw_ad X 386)] : List Value).toArray := C
  have hx := C.1.1
  have hb := C.1.2.1
  have hl : lv_has ls 4 [(0, .ref (fw_ad X 352)), (1, .int a1), (2, .ref (fw_ad X 386))] := hl
  unfold F_L_writeLine at hF
  obtain ⟨oc, hn, hF⟩ := wl_e hF
  refine lv_aload_n hx hb dL_writeLine_0 rfl (lv_at hl 2 rfl) ?_
  refine lv_iconst (v := 0) hx hb dL_writeLine_1 (by decide) ?_
  refine lv_aload_n hx hb dL_writeLine_2 rfl (lv_at hl 0 rfl) ?_
  refine lv_iload_n hx hb dL_writeLine_3 rfl (lv_at hl 1 rfl) ?_
  refine fr_cVi (As := [.int a1]) (rest := [.int 0, .ref (fw_ad X 386)]) C B (cm_X8_writeLine hlt hn) ob_8 rfl yw_X8_writeLine wm_L_136 rfl hl.1 rfl (Nat.le_of_ble_eq_true rfl) ⟨Nat.le_of_ble_eq_true rfl, Nat.le_of_ble_eq_true rfl⟩ ⟨Nat.le_of_ble_eq_true rfl, Nat.le_of_ble_eq_true rfl⟩ dL_writeLine_4 ?_ ?_
  · intro e9 M1 ce q9 H1 locs1 h B hce hcv hcl
    subst h
    obtain ⟨hm, rfl⟩ := wl_r hF
    rcases (show e9 = 0 by simpa using hm) with rfl
    · refine fr_catch (e9 := 0) C [] ⟨0, 9, 12, 21⟩ [] (hT.trans rfl) (fun q hq => nomatch hq) (by decide) rfl (by decide) wl_L_21 hce hcv hcl ?_
      refine lv_astore_n (lv' := [(3, .ref q9), (0, .ref (fw_ad X 352)), (1, .int a1), (2, .ref (fw_ad X 386))]) hx hb dL_writeLine_12 rfl hl (by decide) rfl (fun ls hl => ?_)
      refine lv_iconst (v := 1) hx hb dL_writeLine_13 (by decide) ?_
      exact fr_iret C B hr rfl hlk rfl (Nat.le_of_ble_eq_true rfl) (Nat.le_of_ble_eq_true rfl) dL_writeLine_14
  · intro r M1 H locs h B
    subst h
    have hF := Option.some.inj hF
    refine lv_i2l hx hb dL_writeLine_7 rfl ?_
    refine fr_ls (x := r) C B dL_writeLine_8 (fun H locs B => ?_)
    refine lv_goto (tgt := 15) hx hb dL_writeLine_9 (by decide) ?_
    refine lv_iconst (v := 0) hx hb dL_writeLine_15 (by decide) ?_
    exact fr_iret C B hr rfl hlk (by rw [← hF]) (Nat.le_of_ble_eq_true rfl) (Nat.le_of_ble_eq_true rfl) dL_writeLine_16
def F_L_writePassenger (M : fw_M) (a1 : Int32) : Option (Int32 × fw_M) := wr_l (F_X8_writePassenger M a1) [0]
set_option maxHeartbeats 4000000 in
set_option maxRecDepth 100000 in
theorem cm_L_writePassenger {l : Launch} {X : fw_X} {M : fw_M} {a1 : Int32} {o : Int32 × fw_M} (hlt : l.stackTraces = false) (hF : F_L_writePassenger M a1 = some o) : ct_h l X yL_writePassenger cL_writePassenger 4 [(0, 9, 12, 21)] ({ frames := 9, cells := 23, slots := 2206, locals := 270 } : Room) M [.ref (fw_ad X 352), .int a1, .ref (fw_ad X 386)] (.inl o.1, o.2) := by
  refine fw_openH rfl (Nat.le_of_ble_eq_true rfl) (fun p e s m below meth c ls C hr hlk hT hl B => ?_)
  have C : fr_C X p c cL_writePassenger 4 RL s m ([.ref (fw_ad X 352), .int a1, .ref (fw_ad X 386)] : List Value).toArray := C
  have hx := C.1.1
  have hb := C.1.2.1
  have hl : lv_has ls 4 [(0, .ref (fw_ad X 352)), (1, .int a1), (2, .ref (fw_ad X 386))] := hl
  unfold F_L_writePassenger at hF
  obtain ⟨oc, hn, hF⟩ := wl_e hF
  refine lv_aload_n hx hb dL_writePassenger_0 rfl (lv_at hl 2 rfl) ?_
  refine lv_iconst (v := 0) hx hb dL_writePassenger_1 (by decide) ?_
  refine lv_aload_n hx hb dL_writePassenger_2 rfl (lv_at hl 0 rfl) ?_
  refine lv_iload_n hx hb dL_writePassenger_3 rfl (lv_at hl 1 rfl) ?_
  refine fr_cVi (As := [.int a1]) (rest := [.int 0, .ref (fw_ad X 386)]) C B (cm_X8_writePassenger hlt hn) ob_8 rfl yw_X8_writePassenger wm_L_139 rfl hl.1 rfl (Nat.le_of_ble_eq_true rfl) ⟨Nat.le_of_ble_eq_true rfl, Nat.le_of_ble_eq_true rfl⟩ ⟨Nat.le_of_ble_eq_true rfl, Nat.le_of_ble_eq_true rfl⟩ dL_writePassenger_4 ?_ ?_
  · intro e9 M1 ce q9 H1 locs1 h B hce hcv hcl
    subst h
    obtain ⟨hm, rfl⟩ := wl_r hF
    rcases (show e9 = 0 by simpa using hm) with rfl
    · refine fr_catch (e9 := 0) C [] ⟨0, 9, 12, 21⟩ [] (hT.trans rfl) (fun q hq => nomatch hq) (by decide) rfl (by decide) wl_L_21 hce hcv hcl ?_
      refine lv_astore_n (lv' := [(3, .ref q9), (0, .ref (fw_ad X 352)), (1, .int a1), (2, .ref (fw_ad X 386))]) hx hb dL_writePassenger_12 rfl hl (by decide) rfl (fun ls hl => ?_)
      refine lv_iconst (v := 1) hx hb dL_writePassenger_13 (by decide) ?_
      exact fr_iret C B hr rfl hlk rfl (Nat.le_of_ble_eq_true rfl) (Nat.le_of_ble_eq_true rfl) dL_writePassenger_14
  · intro r M1 H locs h B
    subst h
    have hF := Option.some.inj hF
    refine lv_i2l hx hb dL_writePassenger_7 rfl ?_
    refine fr_ls (x := r) C B dL_writePassenger_8 (fun H locs B => ?_)
    refine lv_goto (tgt := 15) hx hb dL_writePassenger_9 (by decide) ?_
    refine lv_iconst (v := 0) hx hb dL_writePassenger_15 (by decide) ?_
    exact fr_iret C B hr rfl hlk (by rw [← hF]) (Nat.le_of_ble_eq_true rfl) (Nat.le_of_ble_eq_true rfl) dL_writePassenger_16
def F_L_textAt (M : fw_M) (a1 : Int32) : Option (Int32 × fw_M) := wr_l (F_X8_textAt M a1) [0]
set_option maxHeartbeats 4000000 in
set_option maxRecDepth 100000 in
theorem cm_L_textAt {l : Launch} {X : fw_X} {M : fw_M} {a1 : Int32} {o : Int32 × fw_M} (hlt : l.stackTraces = false) (hF : F_L_textAt M a1 = some o) : ct_h l X yL_textAt cL_textAt 4 [(0, 9, 12, 21)] ({ frames := 8, cells := 1, slots := 6, locals := 151 } : Room) M [.ref (fw_ad X 352), .int a1, .ref (fw_ad X 386)] (.inl o.1, o.2) := by
  refine fw_openH rfl (Nat.le_of_ble_eq_true rfl) (fun p e s m below meth c ls C hr hlk hT hl B => ?_)
  have C : fr_C X p c cL_textAt 4 RL s m ([.ref (fw_ad X 352), .int a1, .ref (fw_ad X 386)] : List Value).toArray := C
  have hx := C.1.1
  have hb := C.1.2.1
  have hl : lv_has ls 4 [(0, .ref (fw_ad X 352)), (1, .int a1), (2, .ref (fw_ad X 386))] := hl
  unfold F_L_textAt at hF
  obtain ⟨oc, hn, hF⟩ := wl_e hF
  refine lv_aload_n hx hb dL_textAt_0 rfl (lv_at hl 2 rfl) ?_
  refine lv_iconst (v := 0) hx hb dL_textAt_1 (by decide) ?_
  refine lv_aload_n hx hb dL_textAt_2 rfl (lv_at hl 0 rfl) ?_
  refine lv_iload_n hx hb dL_textAt_3 rfl (lv_at hl 1 rfl) ?_
  refine fr_cVi (As := [.int a1]) (rest := [.int 0, .ref (fw_ad X 386)]) C B (cm_X8_textAt hlt hn) ob_8 rfl yw_X8_textAt wm_L_142 rfl hl.1 rfl (Nat.le_of_ble_eq_true rfl) ⟨Nat.le_of_ble_eq_true rfl, Nat.le_of_ble_eq_true rfl⟩ ⟨Nat.le_of_ble_eq_true rfl, Nat.le_of_ble_eq_true rfl⟩ dL_textAt_4 ?_ ?_
  · intro e9 M1 ce q9 H1 locs1 h B hce hcv hcl
    subst h
    obtain ⟨hm, rfl⟩ := wl_r hF
    rcases (show e9 = 0 by simpa using hm) with rfl
    · refine fr_catch (e9 := 0) C [] ⟨0, 9, 12, 21⟩ [] (hT.trans rfl) (fun q hq => nomatch hq) (by decide) rfl (by decide) wl_L_21 hce hcv hcl ?_
      refine lv_astore_n (lv' := [(3, .ref q9), (0, .ref (fw_ad X 352)), (1, .int a1), (2, .ref (fw_ad X 386))]) hx hb dL_textAt_12 rfl hl (by decide) rfl (fun ls hl => ?_)
      refine lv_iconst (v := 1) hx hb dL_textAt_13 (by decide) ?_
      exact fr_iret C B hr rfl hlk rfl (Nat.le_of_ble_eq_true rfl) (Nat.le_of_ble_eq_true rfl) dL_textAt_14
  · intro r M1 H locs h B
    subst h
    have hF := Option.some.inj hF
    refine lv_i2l hx hb dL_textAt_7 rfl ?_
    refine fr_ls (x := r) C B dL_textAt_8 (fun H locs B => ?_)
    refine lv_goto (tgt := 15) hx hb dL_textAt_9 (by decide) ?_
    refine lv_iconst (v := 0) hx hb dL_textAt_15 (by decide) ?_
    exact fr_iret C B hr rfl hlk (by rw [← hF]) (Nat.le_of_ble_eq_true rfl) (Nat.le_of_ble_eq_true rfl) dL_textAt_16
def F_L_meanRides (M : fw_M)  : Option (Int32 × fw_M) := wr_d (F_X8_meanRides M ) 
set_option maxHeartbeats 4000000 in
set_option maxRecDepth 100000 in
theorem cm_L_meanRides {l : Launch} {X : fw_X} {M : fw_M}  {o : Int32 × fw_M} (hlt : l.stackTraces = false) (hF : F_L_meanRides M  = some o) : ct_h l X yL_meanRides cL_meanRides 3 [(0, 7, 10, 150)] ({ frames := 8, cells := 1, slots := 6, locals := 153 } : Room) M [.ref (fw_ad X 352), .ref (fw_ad X 387)] (.inl o.1, o.2) := by
  refine fw_openH rfl (Nat.le_of_ble_eq_true rfl) (fun p e s m below meth c ls C hr hlk hT hl B => ?_)
  have C : fr_C X p c cL_meanRides 3 RL s m ([.ref (fw_ad X 352), .ref (fw_ad X 387)] : List Value).toArray := C
  have hx := C.1.1
  have hb := C.1.2.1
  have hl : lv_has ls 3 [(0, .ref (fw_ad X 352)), (1, .ref (fw_ad X 387))] := hl
  unfold F_L_meanRides at hF
  obtain ⟨oc, hn, hF⟩ := wd_e hF
  refine lv_aload_n hx hb dL_meanRides_0 rfl (lv_at hl 1 rfl) ?_
  refine lv_iconst (v := 0) hx hb dL_meanRides_1 (by decide) ?_
  refine lv_aload_n hx hb dL_meanRides_2 rfl (lv_at hl 0 rfl) ?_
  refine fr_cVd (As := []) (rest := [.int 0, .ref (fw_ad X 387)]) C B (cm_X8_meanRides hlt hn) ob_8 rfl yw_X8_meanRides wm_L_146 rfl hl.1 rfl (Nat.le_of_ble_eq_true rfl) ⟨Nat.le_of_ble_eq_true rfl, Nat.le_of_ble_eq_true rfl⟩ ⟨Nat.le_of_ble_eq_true rfl, Nat.le_of_ble_eq_true rfl⟩ dL_meanRides_3 ?_ ?_
  · intro e9 M1 ce q9 H1 locs1 h B hce hcv hcl
    obtain ⟨rfl, rfl⟩ := wd_r hF h
    · refine fr_catch (e9 := 5) C [] ⟨0, 7, 10, 150⟩ [] (hT.trans rfl) (fun q hq => nomatch hq) (by decide) rfl (by decide) wl_L_150 hce hcv hcl ?_
      refine lv_astore_n (lv' := [(2, .ref q9), (0, .ref (fw_ad X 352)), (1, .ref (fw_ad X 387))]) hx hb dL_meanRides_10 rfl hl (by decide) rfl (fun ls hl => ?_)
      refine lv_iconst (v := 1) hx hb dL_meanRides_11 (by decide) ?_
      exact fr_iret C B hr rfl hlk rfl (Nat.le_of_ble_eq_true rfl) (Nat.le_of_ble_eq_true rfl) dL_meanRides_12
  · intro r M1 H locs h B
    subst h
    have hF := Option.some.inj hF
    refine fr_ds (x := r) C B dL_meanRides_6 (fun H locs B => ?_)
    refine lv_goto (tgt := 13) hx hb dL_meanRides_7 (by decide) ?_
    refine lv_iconst (v := 0) hx hb dL_meanRides_13 (by decide) ?_
    exact fr_iret C B hr rfl hlk (by rw [← hF]) (Nat.le_of_ble_eq_true rfl) (Nat.le_of_ble_eq_true rfl) dL_meanRides_14
def F_L_truthShare (M : fw_M)  : Option (Int32 × fw_M) := wr_f (F_X8_truthShare M ) 
set_option maxHeartbeats 4000000 in
set_option maxRecDepth 100000 in
theorem cm_L_truthShare {l : Launch} {X : fw_X} {M : fw_M}  {o : Int32 × fw_M} (hlt : l.stackTraces = false) (hF : F_L_truthShare M  = some o) : ct_h l X yL_truthShare cL_truthShare 3 [(0, 8, 11, 150)] ({ frames := 8, cells := 1, slots := 6, locals := 153 } : Room) M [.ref (fw_ad X 352), .ref (fw_ad X 387)] (.inl o.1, o.2) := by
  refine fw_openH rfl (Nat.le_of_ble_eq_true rfl) (fun p e s m below meth c ls C hr hlk hT hl B => ?_)
  have C : fr_C X p c cL_truthShare 3 RL s m ([.ref (fw_ad X 352), .ref (fw_ad X 387)] : List Value).toArray := C
  have hx := C.1.1
  have hb := C.1.2.1
  have hl : lv_has ls 3 [(0, .ref (fw_ad X 352)), (1, .ref (fw_ad X 387))] := hl
  unfold F_L_truthShare at hF
  obtain ⟨oc, hn, hF⟩ := wf_e hF
  refine lv_aload_n hx hb dL_truthShare_0 rfl (lv_at hl 1 rfl) ?_
  refine lv_iconst (v := 0) hx hb dL_truthShare_1 (by decide) ?_
  refine lv_aload_n hx hb dL_truthShare_2 rfl (lv_at hl 0 rfl) ?_
  refine fr_cVf (As := []) (rest := [.int 0, .ref (fw_ad X 387)]) C B (cm_X8_truthShare hlt hn) ob_8 rfl yw_X8_truthShare wm_L_152 rfl hl.1 rfl (Nat.le_of_ble_eq_true rfl) ⟨Nat.le_of_ble_eq_true rfl, Nat.le_of_ble_eq_true rfl⟩ ⟨Nat.le_of_ble_eq_true rfl, Nat.le_of_ble_eq_true rfl⟩ dL_truthShare_3 ?_ ?_
  · intro e9 M1 ce q9 H1 locs1 h B hce hcv hcl
    obtain ⟨rfl, rfl⟩ := wf_r hF h
    · refine fr_catch (e9 := 5) C [] ⟨0, 8, 11, 150⟩ [] (hT.trans rfl) (fun q hq => nomatch hq) (by decide) rfl (by decide) wl_L_150 hce hcv hcl ?_
      refine lv_astore_n (lv' := [(2, .ref q9), (0, .ref (fw_ad X 352)), (1, .ref (fw_ad X 387))]) hx hb dL_truthShare_11 rfl hl (by decide) rfl (fun ls hl => ?_)
      refine lv_iconst (v := 1) hx hb dL_truthShare_12 (by decide) ?_
      exact fr_iret C B hr rfl hlk rfl (Nat.le_of_ble_eq_true rfl) (Nat.le_of_ble_eq_true rfl) dL_truthShare_13
  · intro r M1 H locs h B
    subst h
    obtain ⟨hv, hF⟩ := of_g (show (if vn_d (FP.f2d r) then some ((0 : Int32), fw_dw M1 (FP.f2d r)) else none) = some o from hF)
    have hF := Option.some.inj hF
    refine lv_f2d hx hb dL_truthShare_6 hv ?_
    refine fr_ds (x := (FP.f2d r)) C B dL_truthShare_7 (fun H locs B => ?_)
    refine lv_goto (tgt := 14) hx hb dL_truthShare_8 (by decide) ?_
    refine lv_iconst (v := 0) hx hb dL_truthShare_14 (by decide) ?_
    exact fr_iret C B hr rfl hlk (by rw [← hF]) (Nat.le_of_ble_eq_true rfl) (Nat.le_of_ble_eq_true rfl) dL_truthShare_15
def F_L_type (M : fw_M) (a1 : Int32) : Option (Int32 × fw_M) := wr_l (F_X8_type M a1) [1, 2]
set_option maxHeartbeats 4000000 in
set_option maxRecDepth 100000 in
theorem cm_L_type {l : Launch} {X : fw_X} {M : fw_M} {a1 : Int32} {o : Int32 × fw_M} (hlt : l.stackTraces = false) (hF : F_L_type M a1 = some o) : ct_h l X yL_type cL_type 4 [(0, 9, 12, 13), (0, 9, 15, 15)] ({ frames := 8, cells := 1, slots := 6, locals := 151 } : Room) M [.ref (fw_ad X 352), .int a1, .ref (fw_ad X 386)] (.inl o.1, o.2) := by
  refine fw_openH rfl (Nat.le_of_ble_eq_true rfl) (fun p e s m below meth c ls C hr hlk hT hl B => ?_)
  have C : fr_C X p c cL_type 4 RL s m ([.ref (fw_ad X 352), .int a1, .ref (fw_ad X 386)] : List Value).toArray := C
  have hx := C.1.1
  have hb := C.1.2.1
  have hl : lv_has ls 4 [(0, .ref (fw_ad X 352)), (1, .int a1), (2, .ref (fw_ad X 386))] := hl
  unfold F_L_type at hF
  obtain ⟨oc, hn, hF⟩ := wl_e hF
  refine lv_aload_n hx hb dL_type_0 rfl (lv_at hl 2 rfl) ?_
  refine lv_iconst (v := 0) hx hb dL_type_1 (by decide) ?_
  refine lv_aload_n hx hb dL_type_2 rfl (lv_at hl 0 rfl) ?_
  refine lv_iload_n hx hb dL_type_3 rfl (lv_at hl 1 rfl) ?_
  refine fr_cVi (As := [.int a1]) (rest := [.int 0, .ref (fw_ad X 386)]) C B (cm_X8_type hlt hn) ob_8 rfl yw_X8_type wm_L_156 rfl hl.1 rfl (Nat.le_of_ble_eq_true rfl) ⟨Nat.le_of_ble_eq_true rfl, Nat.le_of_ble_eq_true rfl⟩ ⟨Nat.le_of_ble_eq_true rfl, Nat.le_of_ble_eq_true rfl⟩ dL_type_4 ?_ ?_
  · intro e9 M1 ce q9 H1 locs1 h B hce hcv hcl
    subst h
    obtain ⟨hm, rfl⟩ := wl_r hF
    rcases (show e9 = 1 ∨ e9 = 2 by simpa using hm) with rfl | rfl
    · refine fr_catch (e9 := 1) C [] ⟨0, 9, 12, 13⟩ [⟨0, 9, 15, 15⟩] (hT.trans rfl) (fun q hq => nomatch hq) (by decide) rfl (by decide) wl_L_13 hce hcv hcl ?_
      refine lv_astore_n (lv' := [(3, .ref q9), (0, .ref (fw_ad X 352)), (1, .int a1), (2, .ref (fw_ad X 386))]) hx hb dL_type_12 rfl hl (by decide) rfl (fun ls hl => ?_)
      refine lv_iconst (v := 1) hx hb dL_type_13 (by decide) ?_
      exact fr_iret C B hr rfl hlk rfl (Nat.le_of_ble_eq_true rfl) (Nat.le_of_ble_eq_true rfl) dL_type_14
    · refine fr_catch (e9 := 2) C [(⟨0, 9, 12, 13⟩, 1)] ⟨0, 9, 15, 15⟩ [] (hT.trans rfl) (List.forall_mem_cons.mpr ⟨⟨by decide, by decide, by decide, wl_L_13⟩, (fun q hq => nomatch hq)⟩) (by decide) rfl (by decide) wl_L_15 hce hcv hcl ?_
      refine lv_astore_n (lv' := [(3, .ref q9), (0, .ref (fw_ad X 352)), (1, .int a1), (2, .ref (fw_ad X 386))]) hx hb dL_type_15 rfl hl (by decide) rfl (fun ls hl => ?_)
      refine lv_iconst (v := 2) hx hb dL_type_16 (by decide) ?_
      exact fr_iret C B hr rfl hlk rfl (Nat.le_of_ble_eq_true rfl) (Nat.le_of_ble_eq_true rfl) dL_type_17
  · intro r M1 H locs h B
    subst h
    have hF := Option.some.inj hF
    refine lv_i2l hx hb dL_type_7 rfl ?_
    refine fr_ls (x := r) C B dL_type_8 (fun H locs B => ?_)
    refine lv_goto (tgt := 18) hx hb dL_type_9 (by decide) ?_
    refine lv_iconst (v := 0) hx hb dL_type_18 (by decide) ?_
    exact fr_iret C B hr rfl hlk (by rw [← hF]) (Nat.le_of_ble_eq_true rfl) (Nat.le_of_ble_eq_true rfl) dL_type_19
def F_L_execute (M : fw_M)  : Option (Int32 × fw_M) := wr_l (F_X8_execute M ) [1, 2]
set_option maxHeartbeats 4000000 in
set_option maxRecDepth 100000 in
theorem cm_L_execute {l : Launch} {X : fw_X} {M : fw_M}  {o : Int32 × fw_M} (hlt : l.stackTraces = false) (hF : F_L_execute M  = some o) : ct_h l X yL_execute cL_execute 3 [(0, 8, 11, 13), (0, 8, 14, 15)] ({ frames := 9, cells := 1, slots := 6, locals := 197 } : Room) M [.ref (fw_ad X 352), .ref (fw_ad X 386)] (.inl o.1, o.2) := by
  refine fw_openH rfl (Nat.le_of_ble_eq_true rfl) (fun p e s m below meth c ls C hr hlk hT hl B => ?_)
  have C : fr_C X p c cL_execute 3 RL s m ([.ref (fw_ad X 352), .ref (fw_ad X 386)] : List Value).toArray := C
  have hx := C.1.1
  have hb := C.1.2.1
  have hl : lv_has ls 3 [(0, .ref (fw_ad X 352)), (1, .ref (fw_ad X 386))] := hl
  unfold F_L_execute at hF
  obtain ⟨oc, hn, hF⟩ := wl_e hF
  refine lv_aload_n hx hb dL_execute_0 rfl (lv_at hl 1 rfl) ?_
  refine lv_iconst (v := 0) hx hb dL_execute_1 (by decide) ?_
  refine lv_aload_n hx hb dL_execute_2 rfl (lv_at hl 0 rfl) ?_
  refine fr_cVi (As := []) (rest := [.int 0, .ref (fw_ad X 386)]) C B (cm_X8_execute hlt hn) ob_8 rfl yw_X8_execute wm_L_160 rfl hl.1 rfl (Nat.le_of_ble_eq_true rfl) ⟨Nat.le_of_ble_eq_true rfl, Nat.le_of_ble_eq_true rfl⟩ ⟨Nat.le_of_ble_eq_true rfl, Nat.le_of_ble_eq_true rfl⟩ dL_execute_3 ?_ ?_
  · intro e9 M1 ce q9 H1 locs1 h B hce hcv hcl
    subst h
    obtain ⟨hm, rfl⟩ := wl_r hF
    rcases (show e9 = 1 ∨ e9 = 2 by simpa using hm) with rfl | rfl
    · refine fr_catch (e9 := 1) C [] ⟨0, 8, 11, 13⟩ [⟨0, 8, 14, 15⟩] (hT.trans rfl) (fun q hq => nomatch hq) (by decide) rfl (by decide) wl_L_13 hce hcv hcl ?_
      refine lv_astore_n (lv' := [(2, .ref q9), (0, .ref (fw_ad X 352)), (1, .ref (fw_ad X 386))]) hx hb dL_execute_11 rfl hl (by decide) rfl (fun ls hl => ?_)
      refine lv_iconst (v := 1) hx hb dL_execute_12 (by decide) ?_
      exact fr_iret C B hr rfl hlk rfl (Nat.le_of_ble_eq_true rfl) (Nat.le_of_ble_eq_true rfl) dL_execute_13
    · refine fr_catch (e9 := 2) C [(⟨0, 8, 11, 13⟩, 1)] ⟨0, 8, 14, 15⟩ [] (hT.trans rfl) (List.forall_mem_cons.mpr ⟨⟨by decide, by decide, by decide, wl_L_13⟩, (fun q hq => nomatch hq)⟩) (by decide) rfl (by decide) wl_L_15 hce hcv hcl ?_
      refine lv_astore_n (lv' := [(2, .ref q9), (0, .ref (fw_ad X 352)), (1, .ref (fw_ad X 386))]) hx hb dL_execute_14 rfl hl (by decide) rfl (fun ls hl => ?_)
      refine lv_iconst (v := 2) hx hb dL_execute_15 (by decide) ?_
      exact fr_iret C B hr rfl hlk rfl (Nat.le_of_ble_eq_true rfl) (Nat.le_of_ble_eq_true rfl) dL_execute_16
  · intro r M1 H locs h B
    subst h
    have hF := Option.some.inj hF
    refine lv_i2l hx hb dL_execute_6 rfl ?_
    refine fr_ls (x := r) C B dL_execute_7 (fun H locs B => ?_)
    refine lv_goto (tgt := 17) hx hb dL_execute_8 (by decide) ?_
    refine lv_iconst (v := 0) hx hb dL_execute_17 (by decide) ?_
    exact fr_iret C B hr rfl hlk (by rw [← hF]) (Nat.le_of_ble_eq_true rfl) (Nat.le_of_ble_eq_true rfl) dL_execute_18
def F_L_errorPosition (M : fw_M)  : Option (Int32 × fw_M) := wr_l (F_X8_errorPosition M ) [3]
set_option maxHeartbeats 4000000 in
set_option maxRecDepth 100000 in
theorem cm_L_errorPosition {l : Launch} {X : fw_X} {M : fw_M}  {o : Int32 × fw_M} (hlt : l.stackTraces = false) (hF : F_L_errorPosition M  = some o) : ct_h l X yL_errorPosition cL_errorPosition 3 [(0, 8, 11, 39)] ({ frames := 9, cells := 1, slots := 6, locals := 170 } : Room) M [.ref (fw_ad X 352), .ref (fw_ad X 386)] (.inl o.1, o.2) := by
  refine fw_openH rfl (Nat.le_of_ble_eq_true rfl) (fun p e s m below meth c ls C hr hlk hT hl B => ?_)
  have C : fr_C X p c cL_errorPosition 3 RL s m ([.ref (fw_ad X 352), .ref (fw_ad X 386)] : List Value).toArray := C
  have hx := C.1.1
  have hb := C.1.2.1
  have hl : lv_has ls 3 [(0, .ref (fw_ad X 352)), (1, .ref (fw_ad X 386))] := hl
  unfold F_L_errorPosition at hF
  obtain ⟨oc, hn, hF⟩ := wl_e hF
  refine lv_aload_n hx hb dL_errorPosition_0 rfl (lv_at hl 1 rfl) ?_
  refine lv_iconst (v := 0) hx hb dL_errorPosition_1 (by decide) ?_
  refine lv_aload_n hx hb dL_errorPosition_2 rfl (lv_at hl 0 rfl) ?_
  refine fr_cVi (As := []) (rest := [.int 0, .ref (fw_ad X 386)]) C B (cm_X8_errorPosition hlt hn) ob_8 rfl yw_X8_errorPosition wm_L_163 rfl hl.1 rfl (Nat.le_of_ble_eq_true rfl) ⟨Nat.le_of_ble_eq_true rfl, Nat.le_of_ble_eq_true rfl⟩ ⟨Nat.le_of_ble_eq_true rfl, Nat.le_of_ble_eq_true rfl⟩ dL_errorPosition_3 ?_ ?_
  · intro e9 M1 ce q9 H1 locs1 h B hce hcv hcl
    subst h
    obtain ⟨hm, rfl⟩ := wl_r hF
    rcases (show e9 = 3 by simpa using hm) with rfl
    · refine fr_catch (e9 := 3) C [] ⟨0, 8, 11, 39⟩ [] (hT.trans rfl) (fun q hq => nomatch hq) (by decide) rfl (by decide) wl_L_39 hce hcv hcl ?_
      refine lv_astore_n (lv' := [(2, .ref q9), (0, .ref (fw_ad X 352)), (1, .ref (fw_ad X 386))]) hx hb dL_errorPosition_11 rfl hl (by decide) rfl (fun ls hl => ?_)
      refine lv_iconst (v := 1) hx hb dL_errorPosition_12 (by decide) ?_
      exact fr_iret C B hr rfl hlk rfl (Nat.le_of_ble_eq_true rfl) (Nat.le_of_ble_eq_true rfl) dL_errorPosition_13
  · intro r M1 H locs h B
    subst h
    have hF := Option.some.inj hF
    refine lv_i2l hx hb dL_errorPosition_6 rfl ?_
    refine fr_ls (x := r) C B dL_errorPosition_7 (fun H locs B => ?_)
    refine lv_goto (tgt := 14) hx hb dL_errorPosition_8 (by decide) ?_
    refine lv_iconst (v := 0) hx hb dL_errorPosition_14 (by decide) ?_
    exact fr_iret C B hr rfl hlk (by rw [← hF]) (Nat.le_of_ble_eq_true rfl) (Nat.le_of_ble_eq_true rfl) dL_errorPosition_15
def F_L_failedCommand (M : fw_M)  : Option (Int32 × fw_M) := wr_l (F_X8_failedCommand M ) [3]
set_option maxHeartbeats 4000000 in
set_option maxRecDepth 100000 in
theorem cm_L_failedCommand {l : Launch} {X : fw_X} {M : fw_M}  {o : Int32 × fw_M} (hlt : l.stackTraces = false) (hF : F_L_failedCommand M  = some o) : ct_h l X yL_failedCommand cL_failedCommand 3 [(0, 8, 11, 39)] ({ frames := 9, cells := 1, slots := 6, locals := 170 } : Room) M [.ref (fw_ad X 352), .ref (fw_ad X 386)] (.inl o.1, o.2) := by
  refine fw_openH rfl (Nat.le_of_ble_eq_true rfl) (fun p e s m below meth c ls C hr hlk hT hl B => ?_)
  have C : fr_C X p c cL_failedCommand 3 RL s m ([.ref (fw_ad X 352), .ref (fw_ad X 386)] : List Value).toArray := C
  have hx := C.1.1
  have hb := C.1.2.1
  have hl : lv_has ls 3 [(0, .ref (fw_ad X 352)), (1, .ref (fw_ad X 386))] := hl
  unfold F_L_failedCommand at hF
  obtain ⟨oc, hn, hF⟩ := wl_e hF
  refine lv_aload_n hx hb dL_failedCommand_0 rfl (lv_at hl 1 rfl) ?_
  refine lv_iconst (v := 0) hx hb dL_failedCommand_1 (by decide) ?_
  refine lv_aload_n hx hb dL_failedCommand_2 rfl (lv_at hl 0 rfl) ?_
  refine fr_cVi (As := []) (rest := [.int 0, .ref (fw_ad X 386)]) C B (cm_X8_failedCommand hlt hn) ob_8 rfl yw_X8_failedCommand wm_L_166 rfl hl.1 rfl (Nat.le_of_ble_eq_true rfl) ⟨Nat.le_of_ble_eq_true rfl, Nat.le_of_ble_eq_true rfl⟩ ⟨Nat.le_of_ble_eq_true rfl, Nat.le_of_ble_eq_true rfl⟩ dL_failedCommand_3 ?_ ?_
  · intro e9 M1 ce q9 H1 locs1 h B hce hcv hcl
    subst h
    obtain ⟨hm, rfl⟩ := wl_r hF
    rcases (show e9 = 3 by simpa using hm) with rfl
    · refine fr_catch (e9 := 3) C [] ⟨0, 8, 11, 39⟩ [] (hT.trans rfl) (fun q hq => nomatch hq) (by decide) rfl (by decide) wl_L_39 hce hcv hcl ?_
      refine lv_astore_n (lv' := [(2, .ref q9), (0, .ref (fw_ad X 352)), (1, .ref (fw_ad X 386))]) hx hb dL_failedCommand_11 rfl hl (by decide) rfl (fun ls hl => ?_)
      refine lv_iconst (v := 1) hx hb dL_failedCommand_12 (by decide) ?_
      exact fr_iret C B hr rfl hlk rfl (Nat.le_of_ble_eq_true rfl) (Nat.le_of_ble_eq_true rfl) dL_failedCommand_13
  · intro r M1 H locs h B
    subst h
    have hF := Option.some.inj hF
    refine lv_i2l hx hb dL_failedCommand_6 rfl ?_
    refine fr_ls (x := r) C B dL_failedCommand_7 (fun H locs B => ?_)
    refine lv_goto (tgt := 14) hx hb dL_failedCommand_8 (by decide) ?_
    refine lv_iconst (v := 0) hx hb dL_failedCommand_14 (by decide) ?_
    exact fr_iret C B hr rfl hlk (by rw [← hF]) (Nat.le_of_ble_eq_true rfl) (Nat.le_of_ble_eq_true rfl) dL_failedCommand_15
def F_L_undo (M : fw_M)  : Option (Int32 × fw_M) := wr_l (F_X8_undo M ) [2]
set_option maxHeartbeats 4000000 in
set_option maxRecDepth 100000 in
theorem cm_L_undo {l : Launch} {X : fw_X} {M : fw_M}  {o : Int32 × fw_M} (hlt : l.stackTraces = false) (hF : F_L_undo M  = some o) : ct_h l X yL_undo cL_undo 3 [(0, 8, 11, 15)] ({ frames := 8, cells := 1, slots := 6, locals := 150 } : Room) M [.ref (fw_ad X 352), .ref (fw_ad X 386)] (.inl o.1, o.2) := by
  refine fw_openH rfl (Nat.le_of_ble_eq_true rfl) (fun p e s m below meth c ls C hr hlk hT hl B => ?_)
  have C : fr_C X p c cL_undo 3 RL s m ([.ref (fw_ad X 352), .ref (fw_ad X 386)] : List Value).toArray := C
  have hx := C.1.1
  have hb := C.1.2.1
  have hl : lv_has ls 3 [(0, .ref (fw_ad X 352)), (1, .ref (fw_ad X 386))] := hl
  unfold F_L_undo at hF
  obtain ⟨oc, hn, hF⟩ := wl_e hF
  refine lv_aload_n hx hb dL_undo_0 rfl (lv_at hl 1 rfl) ?_
  refine lv_iconst (v := 0) hx hb dL_undo_1 (by decide) ?_
  refine lv_aload_n hx hb dL_undo_2 rfl (lv_at hl 0 rfl) ?_
  refine fr_cVi (As := []) (rest := [.int 0, .ref (fw_ad X 386)]) C B (cm_X8_undo hlt hn) ob_8 rfl yw_X8_undo wm_L_169 rfl hl.1 rfl (Nat.le_of_ble_eq_true rfl) ⟨Nat.le_of_ble_eq_true rfl, Nat.le_of_ble_eq_true rfl⟩ ⟨Nat.le_of_ble_eq_true rfl, Nat.le_of_ble_eq_true rfl⟩ dL_undo_3 ?_ ?_
  · intro e9 M1 ce q9 H1 locs1 h B hce hcv hcl
    subst h
    obtain ⟨hm, rfl⟩ := wl_r hF
    rcases (show e9 = 2 by simpa using hm) with rfl
    · refine fr_catch (e9 := 2) C [] ⟨0, 8, 11, 15⟩ [] (hT.trans rfl) (fun q hq => nomatch hq) (by decide) rfl (by decide) wl_L_15 hce hcv hcl ?_
      refine lv_astore_n (lv' := [(2, .ref q9), (0, .ref (fw_ad X 352)), (1, .ref (fw_ad X 386))]) hx hb dL_undo_11 rfl hl (by decide) rfl (fun ls hl => ?_)
      refine lv_iconst (v := 1) hx hb dL_undo_12 (by decide) ?_
      exact fr_iret C B hr rfl hlk rfl (Nat.le_of_ble_eq_true rfl) (Nat.le_of_ble_eq_true rfl) dL_undo_13
  · intro r M1 H locs h B
    subst h
    have hF := Option.some.inj hF
    refine lv_i2l hx hb dL_undo_6 rfl ?_
    refine fr_ls (x := r) C B dL_undo_7 (fun H locs B => ?_)
    refine lv_goto (tgt := 14) hx hb dL_undo_8 (by decide) ?_
    refine lv_iconst (v := 0) hx hb dL_undo_14 (by decide) ?_
    exact fr_iret C B hr rfl hlk (by rw [← hF]) (Nat.le_of_ble_eq_true rfl) (Nat.le_of_ble_eq_true rfl) dL_undo_15
def F_L_restore (M : fw_M)  : Option (Int32 × fw_M) := wr_l (F_X8_restore M ) [2]
set_option maxHeartbeats 4000000 in
set_option maxRecDepth 100000 in
theorem cm_L_restore {l : Launch} {X : fw_X} {M : fw_M}  {o : Int32 × fw_M} (hlt : l.stackTraces = false) (hF : F_L_restore M  = some o) : ct_h l X yL_restore cL_restore 3 [(0, 8, 11, 15)] ({ frames := 8, cells := 1, slots := 6, locals := 150 } : Room) M [.ref (fw_ad X 352), .ref (fw_ad X 386)] (.inl o.1, o.2) := by
  refine fw_openH rfl (Nat.le_of_ble_eq_true rfl) (fun p e s m below meth c ls C hr hlk hT hl B => ?_)
  have C : fr_C X p c cL_restore 3 RL s m ([.ref (fw_ad X 352), .ref (fw_ad X 386)] : List Value).toArray := C
  have hx := C.1.1
  have hb := C.1.2.1
  have hl : lv_has ls 3 [(0, .ref (fw_ad X 352)), (1, .ref (fw_ad X 386))] := hl
  unfold F_L_restore at hF
  obtain ⟨oc, hn, hF⟩ := wl_e hF
  refine lv_aload_n hx hb dL_restore_0 rfl (lv_at hl 1 rfl) ?_
  refine lv_iconst (v := 0) hx hb dL_restore_1 (by decide) ?_
  refine lv_aload_n hx hb dL_restore_2 rfl (lv_at hl 0 rfl) ?_
  refine fr_cVi (As := []) (rest := [.int 0, .ref (fw_ad X 386)]) C B (cm_X8_restore hlt hn) ob_8 rfl yw_X8_restore wm_L_172 rfl hl.1 rfl (Nat.le_of_ble_eq_true rfl) ⟨Nat.le_of_ble_eq_true rfl, Nat.le_of_ble_eq_true rfl⟩ ⟨Nat.le_of_ble_eq_true rfl, Nat.le_of_ble_eq_true rfl⟩ dL_restore_3 ?_ ?_
  · intro e9 M1 ce q9 H1 locs1 h B hce hcv hcl
    subst h
    obtain ⟨hm, rfl⟩ := wl_r hF
    rcases (show e9 = 2 by simpa using hm) with rfl
    · refine fr_catch (e9 := 2) C [] ⟨0, 8, 11, 15⟩ [] (hT.trans rfl) (fun q hq => nomatch hq) (by decide) rfl (by decide) wl_L_15 hce hcv hcl ?_
      refine lv_astore_n (lv' := [(2, .ref q9), (0, .ref (fw_ad X 352)), (1, .ref (fw_ad X 386))]) hx hb dL_restore_11 rfl hl (by decide) rfl (fun ls hl => ?_)
      refine lv_iconst (v := 1) hx hb dL_restore_12 (by decide) ?_
      exact fr_iret C B hr rfl hlk rfl (Nat.le_of_ble_eq_true rfl) (Nat.le_of_ble_eq_true rfl) dL_restore_13
  · intro r M1 H locs h B
    subst h
    have hF := Option.some.inj hF
    refine lv_i2l hx hb dL_restore_6 rfl ?_
    refine fr_ls (x := r) C B dL_restore_7 (fun H locs B => ?_)
    refine lv_goto (tgt := 14) hx hb dL_restore_8 (by decide) ?_
    refine lv_iconst (v := 0) hx hb dL_restore_14 (by decide) ?_
    exact fr_iret C B hr rfl hlk (by rw [← hF]) (Nat.le_of_ble_eq_true rfl) (Nat.le_of_ble_eq_true rfl) dL_restore_15
