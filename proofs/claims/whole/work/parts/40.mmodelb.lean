def F_X9_lineCount (M : fw_M) : Option (Int32 × fw_M) :=
  lt_x (fw_up M 378 6 0) fun M1 =>
  if ix_i 1 129 then
  some ((fw_ri M1 379 1), M1)
  else none
set_option maxHeartbeats 4000000 in
set_option maxRecDepth 100000 in
theorem cm_X9_lineCount {l : Launch} {X : fw_X} {M : fw_M}  {o : Int32 × fw_M} (hF : F_X9_lineCount M = some o) : ct_i l X yX9_lineCount cX9_lineCount 1 (some .int) ({ frames := 0, cells := 0, slots := 0, locals := 0 } : Room) M [.ref (fw_ad X 378)] (.inl o.1, o.2) := by
  refine fw_open rfl (Nat.le_of_ble_eq_true rfl) (fun p e s m below meth c ls C hr hlk hnm hex hl B => ?_)
  have C : fr_C X p c cX9_lineCount 1 RX9 s m ([.ref (fw_ad X 378)] : List Value).toArray := C
  have hx := C.1.1
  have hb := C.1.2.1
  have hl : lv_has ls 1 [(0, .ref (fw_ad X 378))] := hl
  unfold F_X9_lineCount at hF
  refine lv_aload_n hx hb dX9_lineCount_0 rfl (lv_at hl 0 rfl) ?_
  refine lv_iconst (v := 0) hx hb dX9_lineCount_1 (by decide) ?_
  refine pf_X9_39 C B dX9_lineCount_2 (fun H locs B => ?_)
  obtain ⟨M1, eM1, hF⟩ := lt_e hF
  rw [← eM1] at B
  refine lv_aload_n hx hb dX9_lineCount_5 rfl (lv_at hl 0 rfl) ?_
  refine gf_X9_9 C B dX9_lineCount_6 ?_
  refine lv_iconst (v := 1) hx hb dX9_lineCount_9 (by decide) ?_
  obtain ⟨c2, hF⟩ := of_g hF
  refine fr_ia C B ar_9_379 c2 dX9_lineCount_10 ?_
  exact fr_iret C B hr rfl hlk (by rw [← Option.some.inj hF]) (Nat.le_of_ble_eq_true rfl) (Nat.le_of_ble_eq_true rfl) dX9_lineCount_11
def F_X9_lineLength (M : fw_M) (a1 : Int32) : Option (Int32 × fw_M) :=
  bd_x (F_X9_isLine M a1) fun r2 =>
  bd_p (F_X9_isThere M r2) fun r5 M6 =>
  if r5 = 0 then
    some (0, M6)
  else
    bd_x (F_X9_lengthOf M6 a1) fun r9 =>
    some (r9, M6)
set_option maxHeartbeats 4000000 in
set_option maxRecDepth 100000 in
theorem cm_X9_lineLength {l : Launch} {X : fw_X} {M : fw_M} {a1 : Int32}  {o : Int32 × fw_M} (hF : F_X9_lineLength M a1 = some o) : ct_i l X yX9_lineLength cX9_lineLength 2 (some .int) ({ frames := 2, cells := 0, slots := 0, locals := 43 } : Room) M [.ref (fw_ad X 378), .int a1] (.inl o.1, o.2) := by
  refine fw_open rfl (Nat.le_of_ble_eq_true rfl) (fun p e s m below meth c ls C hr hlk hnm hex hl B => ?_)
  have C : fr_C X p c cX9_lineLength 2 RX9 s m ([.ref (fw_ad X 378), .int a1] : List Value).toArray := C
  have hx := C.1.1
  have hb := C.1.2.1
  have hl : lv_has ls 2 [(0, .ref (fw_ad X 378)), (1, .int a1)] := hl
  unfold F_X9_lineLength at hF
  refine lv_aload_n hx hb dX9_lineLength_0 rfl (lv_at hl 0 rfl) ?_
  refine lv_aload_n hx hb dX9_lineLength_1 rfl (lv_at hl 0 rfl) ?_
  refine lv_iload_n hx hb dX9_lineLength_2 rfl (lv_at hl 1 rfl) ?_
  obtain ⟨r2, hf1, hF⟩ := bx_e hF
  refine fr_cVi (As := [.int a1]) (rest := [.ref (fw_ad X 378)]) C B (cm_X9_isLine hf1) ob_9 rfl yw_X9_isLine wm_X9_82 rfl hl.1 rfl (Nat.le_of_ble_eq_true rfl) ⟨Nat.le_of_ble_eq_true rfl, Nat.le_of_ble_eq_true rfl⟩ ⟨Nat.le_of_ble_eq_true rfl, Nat.le_of_ble_eq_true rfl⟩ dX9_lineLength_3 (fr_nx rfl) (fun r9 M9 H locs ho9 B => ?_)
  obtain ⟨rfl, rfl⟩ := oi_e ho9
  obtain ⟨r5, M6, hf4, hF⟩ := bp_e hF
  refine fr_cVi (As := [.int r2]) (rest := []) C B (cm_X9_isThere hf4) ob_9 rfl yw_X9_isThere wm_X9_91 rfl hl.1 rfl (Nat.le_of_ble_eq_true rfl) ⟨Nat.le_of_ble_eq_true rfl, Nat.le_of_ble_eq_true rfl⟩ ⟨Nat.le_of_ble_eq_true rfl, Nat.le_of_ble_eq_true rfl⟩ dX9_lineLength_6 (fr_nx rfl) (fun r9 M9 H locs ho9 B => ?_)
  obtain ⟨rfl, rfl⟩ := oi_e ho9
  refine lv_if_eq (tgt := 20) hx hb dX9_lineLength_9 (by decide) (fun c7 => ?_) (fun c7 => ?_)
  · have hF := it_t hF c7
    refine lv_iconst (v := 0) hx hb dX9_lineLength_20 (by decide) ?_
    exact fr_iret C B hr rfl hlk (by rw [← Option.some.inj hF]) (Nat.le_of_ble_eq_true rfl) (Nat.le_of_ble_eq_true rfl) dX9_lineLength_21
  · have hF := it_f hF c7
    refine lv_aload_n hx hb dX9_lineLength_12 rfl (lv_at hl 0 rfl) ?_
    refine lv_iload_n hx hb dX9_lineLength_13 rfl (lv_at hl 1 rfl) ?_
    obtain ⟨r9, hf8, hF⟩ := bx_e hF
    refine fr_cVi (As := [.int a1]) (rest := []) C B (cm_X9_lengthOf hf8) ob_9 rfl yw_X9_lengthOf wm_X9_55 rfl hl.1 rfl (Nat.le_of_ble_eq_true rfl) ⟨Nat.le_of_ble_eq_true rfl, Nat.le_of_ble_eq_true rfl⟩ ⟨Nat.le_of_ble_eq_true rfl, Nat.le_of_ble_eq_true rfl⟩ dX9_lineLength_14 (fr_nx rfl) (fun r9 M9 H locs ho9 B => ?_)
    obtain ⟨rfl, rfl⟩ := oi_e ho9
    refine lv_goto (tgt := 21) hx hb dX9_lineLength_17 (by decide) ?_
    exact fr_iret C B hr rfl hlk (by rw [← Option.some.inj hF]) (Nat.le_of_ble_eq_true rfl) (Nat.le_of_ble_eq_true rfl) dX9_lineLength_21
def F_X9_stopAt (M : fw_M) (a1 : Int32) (a2 : Int32) : Option (Int32 × fw_M) :=
  bd_x (F_X9_isLine M a1) fun r2 =>
  if ¬ r2 = 0 then
    bd_x (F_X9_lengthOf M a1) fun r6 =>
    bd_x (F_X9_in M a2 0 (r6 - 1)) fun r9 =>
    if r9 = 0 then
      lt_x (fw_up M 378 6 2) fun M12 =>
      if (M12 378 6) ≤ 0 then
        bd_x (F_X9_stopOf M12 a1 a2) fun r15 =>
        some (r15, M12)
      else
        some (0, M12)
    else
      lt_x (fw_up M 378 6 0) fun M17 =>
      if (M17 378 6) ≤ 0 then
        bd_x (F_X9_stopOf M17 a1 a2) fun r20 =>
        some (r20, M17)
      else
        some (0, M17)
  else
    bd_p (F_X9_fails M 1) fun r23 M24 =>
    some (r23, M24)
set_option maxHeartbeats 4000000 in
set_option maxRecDepth 100000 in
theorem cm_X9_stopAt {l : Launch} {X : fw_X} {M : fw_M} {a1 : Int32} {a2 : Int32}  {o : Int32 × fw_M} (hF : F_X9_stopAt M a1 a2 = some o) : ct_i l X yX9_stopAt cX9_stopAt 3 (some .int) ({ frames := 2, cells := 0, slots := 0, locals := 43 } : Room) M [.ref (fw_ad X 378), .int a1, .int a2] (.inl o.1, o.2) := by
  refine fw_open rfl (Nat.le_of_ble_eq_true rfl) (fun p e s m below meth c ls C hr hlk hnm hex hl B => ?_)
  have C : fr_C X p c cX9_stopAt 3 RX9 s m ([.ref (fw_ad X 378), .int a1, .int a2] : List Value).toArray := C
  have hx := C.1.1
  have hb := C.1.2.1
  have hl : lv_has ls 3 [(0, .ref (fw_ad X 378)), (1, .int a1), (2, .int a2)] := hl
  unfold F_X9_stopAt at hF
  refine lv_aload_n hx hb dX9_stopAt_0 rfl (lv_at hl 0 rfl) ?_
  refine lv_iload_n hx hb dX9_stopAt_1 rfl (lv_at hl 1 rfl) ?_
  obtain ⟨r2, hf1, hF⟩ := bx_e hF
  refine fr_cVi (As := [.int a1]) (rest := []) C B (cm_X9_isLine hf1) ob_9 rfl yw_X9_isLine wm_X9_82 rfl hl.1 rfl (Nat.le_of_ble_eq_true rfl) ⟨Nat.le_of_ble_eq_true rfl, Nat.le_of_ble_eq_true rfl⟩ ⟨Nat.le_of_ble_eq_true rfl, Nat.le_of_ble_eq_true rfl⟩ dX9_stopAt_2 (fr_nx rfl) (fun r9 M9 H locs ho9 B => ?_)
  obtain ⟨rfl, rfl⟩ := oi_e ho9
  refine lv_if_ne (tgt := 14) hx hb dX9_stopAt_5 (by decide) (fun c4 => ?_) (fun c4 => ?_)
  · have hF := it_t hF c4
    refine lv_aload_n hx hb dX9_stopAt_14 rfl (lv_at hl 0 rfl) ?_
    refine lv_iload_n hx hb dX9_stopAt_15 rfl (lv_at hl 2 rfl) ?_
    refine lv_iconst (v := 0) hx hb dX9_stopAt_16 (by decide) ?_
    refine lv_aload_n hx hb dX9_stopAt_17 rfl (lv_at hl 0 rfl) ?_
    refine lv_iload_n hx hb dX9_stopAt_18 rfl (lv_at hl 1 rfl) ?_
    obtain ⟨r6, hf5, hF⟩ := bx_e hF
    refine fr_cVi (As := [.int a1]) (rest := [.int 0, .int a2, .ref (fw_ad X 378)]) C B (cm_X9_lengthOf hf5) ob_9 rfl yw_X9_lengthOf wm_X9_55 rfl hl.1 rfl (Nat.le_of_ble_eq_true rfl) ⟨Nat.le_of_ble_eq_true rfl, Nat.le_of_ble_eq_true rfl⟩ ⟨Nat.le_of_ble_eq_true rfl, Nat.le_of_ble_eq_true rfl⟩ dX9_stopAt_19 (fr_nx rfl) (fun r9 M9 H locs ho9 B => ?_)
    obtain ⟨rfl, rfl⟩ := oi_e ho9
    refine lv_iconst (v := 1) hx hb dX9_stopAt_22 (by decide) ?_
    refine lv_isub hx hb dX9_stopAt_23 ?_
    obtain ⟨r9, hf8, hF⟩ := bx_e hF
    refine fr_cSi (As := [.int a2, .int 0, .int (r6 - 1)]) (rest := [.ref (fw_ad X 378)]) C B (cm_X9_in hf8) yw_X9_in wm_X9_51 rfl hl.1 rfl (Nat.le_of_ble_eq_true rfl) ⟨Nat.le_of_ble_eq_true rfl, Nat.le_of_ble_eq_true rfl⟩ ⟨Nat.le_of_ble_eq_true rfl, Nat.le_of_ble_eq_true rfl⟩ dX9_stopAt_24 (fr_nx rfl) (fun r9 M9 H locs ho9 B => ?_)
    obtain ⟨rfl, rfl⟩ := oi_e ho9
    refine lv_if_eq (tgt := 34) hx hb dX9_stopAt_27 (by decide) (fun c11 => ?_) (fun c11 => ?_)
    · have hF := it_t hF c11
      refine lv_iconst (v := 2) hx hb dX9_stopAt_34 (by decide) ?_
      refine pf_X9_39 C B dX9_stopAt_35 (fun H locs B => ?_)
      obtain ⟨M12, eM12, hF⟩ := lt_e hF
      rw [← eM12] at B
      refine lv_aload_n hx hb dX9_stopAt_38 rfl (lv_at hl 0 rfl) ?_
      refine gf_X9_39 C B dX9_stopAt_39 ?_
      refine lv_if_le (tgt := 49) hx hb dX9_stopAt_42 (by decide) (fun c13 => ?_) (fun c13 => ?_)
      · have hF := it_t hF c13
        refine lv_aload_n hx hb dX9_stopAt_49 rfl (lv_at hl 0 rfl) ?_
        refine lv_iload_n hx hb dX9_stopAt_50 rfl (lv_at hl 1 rfl) ?_
        refine lv_iload_n hx hb dX9_stopAt_51 rfl (lv_at hl 2 rfl) ?_
        obtain ⟨r15, hf14, hF⟩ := bx_e hF
        refine fr_cVi (As := [.int a1, .int a2]) (rest := []) C B (cm_X9_stopOf hf14) ob_9 rfl yw_X9_stopOf wm_X9_59 rfl hl.1 rfl (Nat.le_of_ble_eq_true rfl) ⟨Nat.le_of_ble_eq_true rfl, Nat.le_of_ble_eq_true rfl⟩ ⟨Nat.le_of_ble_eq_true rfl, Nat.le_of_ble_eq_true rfl⟩ dX9_stopAt_52 (fr_nx rfl) (fun r9 M9 H locs ho9 B => ?_)
        obtain ⟨rfl, rfl⟩ := oi_e ho9
        exact fr_iret C B hr rfl hlk (by rw [← Option.some.inj hF]) (Nat.le_of_ble_eq_true rfl) (Nat.le_of_ble_eq_true rfl) dX9_stopAt_55
      · have hF := it_f hF c13
        refine lv_iconst (v := 0) hx hb dX9_stopAt_45 (by decide) ?_
        refine lv_goto (tgt := 55) hx hb dX9_stopAt_46 (by decide) ?_
        exact fr_iret C B hr rfl hlk (by rw [← Option.some.inj hF]) (Nat.le_of_ble_eq_true rfl) (Nat.le_of_ble_eq_true rfl) dX9_stopAt_55
    · have hF := it_f hF c11
      refine lv_iconst (v := 0) hx hb dX9_stopAt_30 (by decide) ?_
      refine lv_goto (tgt := 35) hx hb dX9_stopAt_31 (by decide) ?_
      refine pf_X9_39 C B dX9_stopAt_35 (fun H locs B => ?_)
      obtain ⟨M17, eM17, hF⟩ := lt_e hF
      rw [← eM17] at B
      refine lv_aload_n hx hb dX9_stopAt_38 rfl (lv_at hl 0 rfl) ?_
      refine gf_X9_39 C B dX9_stopAt_39 ?_
      refine lv_if_le (tgt := 49) hx hb dX9_stopAt_42 (by decide) (fun c18 => ?_) (fun c18 => ?_)
      · have hF := it_t hF c18
        refine lv_aload_n hx hb dX9_stopAt_49 rfl (lv_at hl 0 rfl) ?_
        refine lv_iload_n hx hb dX9_stopAt_50 rfl (lv_at hl 1 rfl) ?_
        refine lv_iload_n hx hb dX9_stopAt_51 rfl (lv_at hl 2 rfl) ?_
        obtain ⟨r20, hf19, hF⟩ := bx_e hF
        refine fr_cVi (As := [.int a1, .int a2]) (rest := []) C B (cm_X9_stopOf hf19) ob_9 rfl yw_X9_stopOf wm_X9_59 rfl hl.1 rfl (Nat.le_of_ble_eq_true rfl) ⟨Nat.le_of_ble_eq_true rfl, Nat.le_of_ble_eq_true rfl⟩ ⟨Nat.le_of_ble_eq_true rfl, Nat.le_of_ble_eq_true rfl⟩ dX9_stopAt_52 (fr_nx rfl) (fun r9 M9 H locs ho9 B => ?_)
        obtain ⟨rfl, rfl⟩ := oi_e ho9
        exact fr_iret C B hr rfl hlk (by rw [← Option.some.inj hF]) (Nat.le_of_ble_eq_true rfl) (Nat.le_of_ble_eq_true rfl) dX9_stopAt_55
      · have hF := it_f hF c18
        refine lv_iconst (v := 0) hx hb dX9_stopAt_45 (by decide) ?_
        refine lv_goto (tgt := 55) hx hb dX9_stopAt_46 (by decide) ?_
        exact fr_iret C B hr rfl hlk (by rw [← Option.some.inj hF]) (Nat.le_of_ble_eq_true rfl) (Nat.le_of_ble_eq_true rfl) dX9_stopAt_55
  · have hF := it_f hF (not_not_intro c4)
    refine lv_aload_n hx hb dX9_stopAt_8 rfl (lv_at hl 0 rfl) ?_
    refine lv_iconst (v := 1) hx hb dX9_stopAt_9 (by decide) ?_
    obtain ⟨r23, M24, hf22, hF⟩ := bp_e hF
    refine fr_cVi (As := [.int 1]) (rest := []) C B (cm_X9_fails hf22) ob_9 rfl yw_X9_fails wm_X9_63 rfl hl.1 rfl (Nat.le_of_ble_eq_true rfl) ⟨Nat.le_of_ble_eq_true rfl, Nat.le_of_ble_eq_true rfl⟩ ⟨Nat.le_of_ble_eq_true rfl, Nat.le_of_ble_eq_true rfl⟩ dX9_stopAt_10 (fr_nx rfl) (fun r9 M9 H locs ho9 B => ?_)
    obtain ⟨rfl, rfl⟩ := oi_e ho9
    exact fr_iret C B hr rfl hlk (by rw [← Option.some.inj hF]) (Nat.le_of_ble_eq_true rfl) (Nat.le_of_ble_eq_true rfl) dX9_stopAt_13
def F_X9_commonStops_33 (a1 : Int32) (a2 : Int32)  : Nat → Int32 → Int32 → fw_M → Option (Int32 × fw_M)
  | 0, _, _, _ => none
  | n + 1, x3, x4, M =>
    bd_x (F_X9_lengthOf M a1) fun r2 =>
    if r2 ≤ x4 then
      some (x3, M)
    else
      bd_x (F_X9_stopOf M a1 x4) fun r6 =>
      bd_x (F_X9_positionOf M a2 r6) fun r9 =>
      if r9 < 0 then
        F_X9_commonStops_33 a1 a2 n (x3 + 0) (x4 + 1) M
      else
        F_X9_commonStops_33 a1 a2 n (x3 + 1) (x4 + 1) M
def F_X9_commonStops (M : fw_M) (a1 : Int32) (a2 : Int32) : Option (Int32 × fw_M) :=
  bd_x (F_X9_isLine M a1) fun r13 =>
  if r13 = 0 then
    bd_p (F_X9_isThere M 0) fun r17 M18 =>
    if r17 = 0 then
      some (0, M18)
    else
      F_X9_commonStops_33 a1 a2 64 0 0 M18
  else
    bd_x (F_X9_isLine M a2) fun r21 =>
    if r21 = 0 then
      bd_p (F_X9_isThere M 0) fun r25 M26 =>
      if r25 = 0 then
        some (0, M26)
      else
        F_X9_commonStops_33 a1 a2 64 0 0 M26
    else
      bd_p (F_X9_isThere M 1) fun r29 M30 =>
      if r29 = 0 then
        some (0, M30)
      else
        F_X9_commonStops_33 a1 a2 64 0 0 M30
set_option maxHeartbeats 4000000 in
set_option maxRecDepth 100000 in
theorem cm_X9_commonStops {l : Launch} {X : fw_X} {M : fw_M} {a1 : Int32} {a2 : Int32}  {o : Int32 × fw_M} (hF : F_X9_commonStops M a1 a2 = some o) : ct_i l X yX9_commonStops cX9_commonStops 5 (some .int) ({ frames := 2, cells := 0, slots := 0, locals := 46 } : Room) M [.ref (fw_ad X 378), .int a1, .int a2] (.inl o.1, o.2) := by
  refine fw_open rfl (Nat.le_of_ble_eq_true rfl) (fun p e s m below meth c ls C hr hlk hnm hex hl B => ?_)
  have C : fr_C X p c cX9_commonStops 5 RX9 s m ([.ref (fw_ad X 378), .int a1, .int a2] : List Value).toArray := C
  have hx := C.1.1
  have hb := C.1.2.1
  have hl : lv_has ls 5 [(0, .ref (fw_ad X 378)), (1, .int a1), (2, .int a2)] := hl
  have hJ33 : ∀ (n : Nat), ∀ (x3 : Int32) (x4 : Int32) (M : fw_M) (H : Heap) (locs : List Loc) (ls : Array Slot), F_X9_commonStops_33 a1 a2 n x3 x4 M = some o → fr_H X s M H locs → lv_has ls 5 [(0, .ref (fw_ad X 378)), (1, .int a1), (2, .int a2), (3, .int x3), (4, .int x4)] → W p l e ({ frames := 2, cells := 0, slots := 0, locals := 46 } : Room) s m ([.ref (fw_ad X 378), .int a1, .int a2] : List Value).toArray below meth c H locs 0 0 (vx_MQ below (fw_Qi X (.inl o.1, o.2)) (fw_Qx X (.inl o.1, o.2)) ([.ref (fw_ad X 378), .int a1, .int a2] : List Value).toArray s 0 0 (fw_A X)) (F0 m 33 ls []) := by
    intro n
    induction n with
    | zero =>
      intro x3 x4 M H locs ls hF B hl
      exact absurd hF (by simp [F_X9_commonStops_33])
    | succ n ih =>
      intro x3 x4 M H locs ls hF B hl
      rw [F_X9_commonStops_33] at hF
      refine lv_iload hx hb dX9_commonStops_33 (lv_at hl 4 rfl) ?_
      refine lv_aload_n hx hb dX9_commonStops_35 rfl (lv_at hl 0 rfl) ?_
      refine lv_iload_n hx hb dX9_commonStops_36 rfl (lv_at hl 1 rfl) ?_
      obtain ⟨r2, hf1, hF⟩ := bx_e hF
      refine fr_cVi (As := [.int a1]) (rest := [.int x4]) C B (cm_X9_lengthOf hf1) ob_9 rfl yw_X9_lengthOf wm_X9_55 rfl hl.1 rfl (Nat.le_of_ble_eq_true rfl) ⟨Nat.le_of_ble_eq_true rfl, Nat.le_of_ble_eq_true rfl⟩ ⟨Nat.le_of_ble_eq_true rfl, Nat.le_of_ble_eq_true rfl⟩ dX9_commonStops_37 (fr_nx rfl) (fun r9 M9 H locs ho9 B => ?_)
      obtain ⟨rfl, rfl⟩ := oi_e ho9
      refine lv_icmp_ge (tgt := 72) hx hb dX9_commonStops_40 (by decide) (fun c4 => ?_) (fun c4 => ?_)
      · have hF := it_t hF c4
        refine lv_iload_n hx hb dX9_commonStops_72 rfl (lv_at hl 3 rfl) ?_
        exact fr_iret C B hr rfl hlk (by rw [← Option.some.inj hF]) (Nat.le_of_ble_eq_true rfl) (Nat.le_of_ble_eq_true rfl) dX9_commonStops_73
      · have hF := it_f hF c4
        refine lv_iload_n hx hb dX9_commonStops_43 rfl (lv_at hl 3 rfl) ?_
        refine lv_aload_n hx hb dX9_commonStops_44 rfl (lv_at hl 0 rfl) ?_
        refine lv_iload_n hx hb dX9_commonStops_45 rfl (lv_at hl 2 rfl) ?_
        refine lv_aload_n hx hb dX9_commonStops_46 rfl (lv_at hl 0 rfl) ?_
        refine lv_iload_n hx hb dX9_commonStops_47 rfl (lv_at hl 1 rfl) ?_
        refine lv_iload hx hb dX9_commonStops_48 (lv_at hl 4 rfl) ?_
        obtain ⟨r6, hf5, hF⟩ := bx_e hF
        refine fr_cVi (As := [.int a1, .int x4]) (rest := [.int a2, .ref (fw_ad X 378), .int x3]) C B (cm_X9_stopOf hf5) ob_9 rfl yw_X9_stopOf wm_X9_59 rfl hl.1 rfl (Nat.le_of_ble_eq_true rfl) ⟨Nat.le_of_ble_eq_true rfl, Nat.le_of_ble_eq_true rfl⟩ ⟨Nat.le_of_ble_eq_true rfl, Nat.le_of_ble_eq_true rfl⟩ dX9_commonStops_50 (fr_nx rfl) (fun r9 M9 H locs ho9 B => ?_)
        obtain ⟨rfl, rfl⟩ := oi_e ho9
        obtain ⟨r9, hf8, hF⟩ := bx_e hF
        refine fr_cVi (As := [.int a2, .int r6]) (rest := [.int x3]) C B (cm_X9_positionOf hf8) ob_9 rfl yw_X9_positionOf wm_X9_85 rfl hl.1 rfl (Nat.le_of_ble_eq_true rfl) ⟨Nat.le_of_ble_eq_true rfl, Nat.le_of_ble_eq_true rfl⟩ ⟨Nat.le_of_ble_eq_true rfl, Nat.le_of_ble_eq_true rfl⟩ dX9_commonStops_53 (fr_nx rfl) (fun r9 M9 H locs ho9 B => ?_)
        obtain ⟨rfl, rfl⟩ := oi_e ho9
        refine lv_if_lt (tgt := 63) hx hb dX9_commonStops_56 (by decide) (fun c11 => ?_) (fun c11 => ?_)
        · have hF := it_t hF c11
          refine lv_iconst (v := 0) hx hb dX9_commonStops_63 (by decide) ?_
          refine lv_iadd hx hb dX9_commonStops_64 ?_
          refine lv_istore_n (lv' := [(3, .int (x3 + 0)), (0, .ref (fw_ad X 378)), (1, .int a1), (2, .int a2), (4, .int x4)]) hx hb dX9_commonStops_65 rfl hl (by decide) rfl (fun ls hl => ?_)
          refine lv_iinc (v := (x4 + 1)) (lv' := [(4, .int (x4 + 1)), (3, .int (x3 + 0)), (0, .ref (fw_ad X 378)), (1, .int a1), (2, .int a2)]) hx hb dX9_commonStops_66 hl (k := 4) rfl rfl (by decide) rfl (fun ls hl => ?_)
          refine lv_goto (tgt := 33) hx hb dX9_commonStops_69 (by decide) ?_
          exact ih (x3 + 0) (x4 + 1) M _ _ _ hF B (lv_sub hl [2, 3, 4, 1, 0] rfl)
        · have hF := it_f hF c11
          refine lv_iconst (v := 1) hx hb dX9_commonStops_59 (by decide) ?_
          refine lv_goto (tgt := 64) hx hb dX9_commonStops_60 (by decide) ?_
          refine lv_iadd hx hb dX9_commonStops_64 ?_
          refine lv_istore_n (lv' := [(3, .int (x3 + 1)), (0, .ref (fw_ad X 378)), (1, .int a1), (2, .int a2), (4, .int x4)]) hx hb dX9_commonStops_65 rfl hl (by decide) rfl (fun ls hl => ?_)
          refine lv_iinc (v := (x4 + 1)) (lv' := [(4, .int (x4 + 1)), (3, .int (x3 + 1)), (0, .ref (fw_ad X 378)), (1, .int a1), (2, .int a2)]) hx hb dX9_commonStops_66 hl (k := 4) rfl rfl (by decide) rfl (fun ls hl => ?_)
          refine lv_goto (tgt := 33) hx hb dX9_commonStops_69 (by decide) ?_
          exact ih (x3 + 1) (x4 + 1) M _ _ _ hF B (lv_sub hl [2, 3, 4, 1, 0] rfl)
  unfold F_X9_commonStops at hF
  refine lv_iconst (v := 0) hx hb dX9_commonStops_0 (by decide) ?_
  refine lv_istore_n (lv' := [(3, .int 0), (0, .ref (fw_ad X 378)), (1, .int a1), (2, .int a2)]) hx hb dX9_commonStops_1 rfl hl (by decide) rfl (fun ls hl => ?_)
  refine lv_aload_n hx hb dX9_commonStops_2 rfl (lv_at hl 1 rfl) ?_
  refine lv_aload_n hx hb dX9_commonStops_3 rfl (lv_at hl 1 rfl) ?_
  refine lv_iload_n hx hb dX9_commonStops_4 rfl (lv_at hl 2 rfl) ?_
  obtain ⟨r13, hf12, hF⟩ := bx_e hF
  refine fr_cVi (As := [.int a1]) (rest := [.ref (fw_ad X 378)]) C B (cm_X9_isLine hf12) ob_9 rfl yw_X9_isLine wm_X9_82 rfl hl.1 rfl (Nat.le_of_ble_eq_true rfl) ⟨Nat.le_of_ble_eq_true rfl, Nat.le_of_ble_eq_true rfl⟩ ⟨Nat.le_of_ble_eq_true rfl, Nat.le_of_ble_eq_true rfl⟩ dX9_commonStops_5 (fr_nx rfl) (fun r9 M9 H locs ho9 B => ?_)
  obtain ⟨rfl, rfl⟩ := oi_e ho9
  refine lv_if_eq (tgt := 23) hx hb dX9_commonStops_8 (by decide) (fun c15 => ?_) (fun c15 => ?_)
  · have hF := it_t hF c15
    refine lv_iconst (v := 0) hx hb dX9_commonStops_23 (by decide) ?_
    obtain ⟨r17, M18, hf16, hF⟩ := bp_e hF
    refine fr_cVi (As := [.int 0]) (rest := []) C B (cm_X9_isThere hf16) ob_9 rfl yw_X9_isThere wm_X9_91 rfl hl.1 rfl (Nat.le_of_ble_eq_true rfl) ⟨Nat.le_of_ble_eq_true rfl, Nat.le_of_ble_eq_true rfl⟩ ⟨Nat.le_of_ble_eq_true rfl, Nat.le_of_ble_eq_true rfl⟩ dX9_commonStops_24 (fr_nx rfl) (fun r9 M9 H locs ho9 B => ?_)
    obtain ⟨rfl, rfl⟩ := oi_e ho9
    refine lv_if_eq (tgt := 72) hx hb dX9_commonStops_27 (by decide) (fun c19 => ?_) (fun c19 => ?_)
    · have hF := it_t hF c19
      refine lv_iload_n hx hb dX9_commonStops_72 rfl (lv_at hl 0 rfl) ?_
      exact fr_iret C B hr rfl hlk (by rw [← Option.some.inj hF]) (Nat.le_of_ble_eq_true rfl) (Nat.le_of_ble_eq_true rfl) dX9_commonStops_73
    · have hF := it_f hF c19
      refine lv_iconst (v := 0) hx hb dX9_commonStops_30 (by decide) ?_
      refine lv_istore (lv' := [(4, .int 0), (3, .int 0), (0, .ref (fw_ad X 378)), (1, .int a1), (2, .int a2)]) hx hb dX9_commonStops_31 hl (by decide) rfl (fun ls hl => ?_)
      exact hJ33 64 0 0 M18 _ _ _ hF B (lv_sub hl [2, 3, 4, 1, 0] rfl)
  · have hF := it_f hF c15
    refine lv_aload_n hx hb dX9_commonStops_11 rfl (lv_at hl 1 rfl) ?_
    refine lv_iload_n hx hb dX9_commonStops_12 rfl (lv_at hl 3 rfl) ?_
    obtain ⟨r21, hf20, hF⟩ := bx_e hF
    refine fr_cVi (As := [.int a2]) (rest := [.ref (fw_ad X 378)]) C B (cm_X9_isLine hf20) ob_9 rfl yw_X9_isLine wm_X9_82 rfl hl.1 rfl (Nat.le_of_ble_eq_true rfl) ⟨Nat.le_of_ble_eq_true rfl, Nat.le_of_ble_eq_true rfl⟩ ⟨Nat.le_of_ble_eq_true rfl, Nat.le_of_ble_eq_true rfl⟩ dX9_commonStops_13 (fr_nx rfl) (fun r9 M9 H locs ho9 B => ?_)
    obtain ⟨rfl, rfl⟩ := oi_e ho9
    refine lv_if_eq (tgt := 23) hx hb dX9_commonStops_16 (by decide) (fun c23 => ?_) (fun c23 => ?_)
    · have hF := it_t hF c23
      refine lv_iconst (v := 0) hx hb dX9_commonStops_23 (by decide) ?_
      obtain ⟨r25, M26, hf24, hF⟩ := bp_e hF
      refine fr_cVi (As := [.int 0]) (rest := []) C B (cm_X9_isThere hf24) ob_9 rfl yw_X9_isThere wm_X9_91 rfl hl.1 rfl (Nat.le_of_ble_eq_true rfl) ⟨Nat.le_of_ble_eq_true rfl, Nat.le_of_ble_eq_true rfl⟩ ⟨Nat.le_of_ble_eq_true rfl, Nat.le_of_ble_eq_true rfl⟩ dX9_commonStops_24 (fr_nx rfl) (fun r9 M9 H locs ho9 B => ?_)
      obtain ⟨rfl, rfl⟩ := oi_e ho9
      refine lv_if_eq (tgt := 72) hx hb dX9_commonStops_27 (by decide) (fun c27 => ?_) (fun c27 => ?_)
      · have hF := it_t hF c27
        refine lv_iload_n hx hb dX9_commonStops_72 rfl (lv_at hl 0 rfl) ?_
        exact fr_iret C B hr rfl hlk (by rw [← Option.some.inj hF]) (Nat.le_of_ble_eq_true rfl) (Nat.le_of_ble_eq_true rfl) dX9_commonStops_73
      · have hF := it_f hF c27
        refine lv_iconst (v := 0) hx hb dX9_commonStops_30 (by decide) ?_
        refine lv_istore (lv' := [(4, .int 0), (3, .int 0), (0, .ref (fw_ad X 378)), (1, .int a1), (2, .int a2)]) hx hb dX9_commonStops_31 hl (by decide) rfl (fun ls hl => ?_)
        exact hJ33 64 0 0 M26 _ _ _ hF B (lv_sub hl [2, 3, 4, 1, 0] rfl)
    · have hF := it_f hF c23
      refine lv_iconst (v := 1) hx hb dX9_commonStops_19 (by decide) ?_
      refine lv_goto (tgt := 24) hx hb dX9_commonStops_20 (by decide) ?_
      obtain ⟨r29, M30, hf28, hF⟩ := bp_e hF
      refine fr_cVi (As := [.int 1]) (rest := []) C B (cm_X9_isThere hf28) ob_9 rfl yw_X9_isThere wm_X9_91 rfl hl.1 rfl (Nat.le_of_ble_eq_true rfl) ⟨Nat.le_of_ble_eq_true rfl, Nat.le_of_ble_eq_true rfl⟩ ⟨Nat.le_of_ble_eq_true rfl, Nat.le_of_ble_eq_true rfl⟩ dX9_commonStops_24 (fr_nx rfl) (fun r9 M9 H locs ho9 B => ?_)
      obtain ⟨rfl, rfl⟩ := oi_e ho9
      refine lv_if_eq (tgt := 72) hx hb dX9_commonStops_27 (by decide) (fun c31 => ?_) (fun c31 => ?_)
      · have hF := it_t hF c31
        refine lv_iload_n hx hb dX9_commonStops_72 rfl (lv_at hl 0 rfl) ?_
        exact fr_iret C B hr rfl hlk (by rw [← Option.some.inj hF]) (Nat.le_of_ble_eq_true rfl) (Nat.le_of_ble_eq_true rfl) dX9_commonStops_73
      · have hF := it_f hF c31
        refine lv_iconst (v := 0) hx hb dX9_commonStops_30 (by decide) ?_
        refine lv_istore (lv' := [(4, .int 0), (3, .int 0), (0, .ref (fw_ad X 378)), (1, .int a1), (2, .int a2)]) hx hb dX9_commonStops_31 hl (by decide) rfl (fun ls hl => ?_)
        exact hJ33 64 0 0 M30 _ _ _ hF B (lv_sub hl [2, 3, 4, 1, 0] rfl)
def F_X9_ofTram (M : fw_M) (a1 : Int32) (a2 : Int32) : Option (Int32) :=
  if ix_i ((51 + (3 * a1)) + a2) 129 then
  some (fw_ri M 379 ((51 + (3 * a1)) + a2))
  else none
set_option maxHeartbeats 4000000 in
set_option maxRecDepth 100000 in
theorem cm_X9_ofTram {l : Launch} {X : fw_X} {M : fw_M} {a1 : Int32} {a2 : Int32}  {o : Int32} (hF : F_X9_ofTram M a1 a2 = some o) : ct_i l X yX9_ofTram cX9_ofTram 3 (some .int) ({ frames := 0, cells := 0, slots := 0, locals := 0 } : Room) M [.ref (fw_ad X 378), .int a1, .int a2] (.inl o, M) := by
  refine fw_open rfl (Nat.le_of_ble_eq_true rfl) (fun p e s m below meth c ls C hr hlk hnm hex hl B => ?_)
  have C : fr_C X p c cX9_ofTram 3 RX9 s m ([.ref (fw_ad X 378), .int a1, .int a2] : List Value).toArray := C
  have hx := C.1.1
  have hb := C.1.2.1
  have hl : lv_has ls 3 [(0, .ref (fw_ad X 378)), (1, .int a1), (2, .int a2)] := hl
  unfold F_X9_ofTram at hF
  refine lv_aload_n hx hb dX9_ofTram_0 rfl (lv_at hl 0 rfl) ?_
  refine gf_X9_9 C B dX9_ofTram_1 ?_
  refine lv_bipush (v := 51) hx hb dX9_ofTram_4 (by decide) ?_
  refine lv_iconst (v := 3) hx hb dX9_ofTram_6 (by decide) ?_
  refine lv_iload_n hx hb dX9_ofTram_7 rfl (lv_at hl 1 rfl) ?_
  refine lv_imul hx hb dX9_ofTram_8 ?_
  refine lv_iadd hx hb dX9_ofTram_9 ?_
  refine lv_iload_n hx hb dX9_ofTram_10 rfl (lv_at hl 2 rfl) ?_
  refine lv_iadd hx hb dX9_ofTram_11 ?_
  obtain ⟨c1, hF⟩ := of_g hF
  refine fr_ia C B ar_9_379 c1 dX9_ofTram_12 ?_
  exact fr_iret C B hr rfl hlk (by rw [← Option.some.inj hF]) (Nat.le_of_ble_eq_true rfl) (Nat.le_of_ble_eq_true rfl) dX9_ofTram_13
def F_X9_doAddTram (M : fw_M) (a1 : Int32) : Option (Int32 × fw_M) :=
  if ix_i 2 129 then
  bd_x (F_X9_isLine M a1) fun r3 =>
  if ¬ r3 = 0 then
    if ¬ (fw_ri M 379 2) = 6 then
      if ix_i (51 + (3 * (fw_ri M 379 2))) 129 then
      lt_x (fw_wi M 379 (51 + (3 * (fw_ri M 379 2))) a1) fun M8 =>
      if ix_i ((51 + (3 * (fw_ri M 379 2))) + 1) 129 then
      lt_x (fw_wi M8 379 ((51 + (3 * (fw_ri M 379 2))) + 1) 0) fun M10 =>
      if ix_i ((51 + (3 * (fw_ri M 379 2))) + 2) 129 then
      lt_x (fw_wi M10 379 ((51 + (3 * (fw_ri M 379 2))) + 2) 0) fun M12 =>
      lt_x (fw_wi M12 379 2 ((fw_ri M12 379 2) + 1)) fun M13 =>
      some ((fw_ri M 379 2), M13)
      else none
      else none
      else none
    else
      bd_p (F_X9_fails M 2) fun r15 M16 =>
      some (r15, M16)
  else
    bd_p (F_X9_fails M 1) fun r18 M19 =>
    some (r18, M19)
  else none
set_option maxHeartbeats 4000000 in
set_option maxRecDepth 100000 in
theorem cm_X9_doAddTram {l : Launch} {X : fw_X} {M : fw_M} {a1 : Int32}  {o : Int32 × fw_M} (hF : F_X9_doAddTram M a1 = some o) : ct_i l X yX9_doAddTram cX9_doAddTram 4 (some .int) ({ frames := 2, cells := 0, slots := 0, locals := 43 } : Room) M [.ref (fw_ad X 378), .int a1] (.inl o.1, o.2) := by
  refine fw_open rfl (Nat.le_of_ble_eq_true rfl) (fun p e s m below meth c ls C hr hlk hnm hex hl B => ?_)
  have C : fr_C X p c cX9_doAddTram 4 RX9 s m ([.ref (fw_ad X 378), .int a1] : List Value).toArray := C
  have hx := C.1.1
  have hb := C.1.2.1
  have hl : lv_has ls 4 [(0, .ref (fw_ad X 378)), (1, .int a1)] := hl
  unfold F_X9_doAddTram at hF
  refine lv_aload_n hx hb dX9_doAddTram_0 rfl (lv_at hl 0 rfl) ?_
  refine gf_X9_9 C B dX9_doAddTram_1 ?_
  refine lv_iconst (v := 2) hx hb dX9_doAddTram_4 (by decide) ?_
  obtain ⟨c1, hF⟩ := of_g hF
  refine fr_ia C B ar_9_379 c1 dX9_doAddTram_5 ?_
  refine lv_istore_n (lv' := [(2, .int (fw_ri M 379 2)), (0, .ref (fw_ad X 378)), (1, .int a1)]) hx hb dX9_doAddTram_6 rfl hl (by decide) rfl (fun ls hl => ?_)
  refine lv_aload_n hx hb dX9_doAddTram_7 rfl (lv_at hl 1 rfl) ?_
  refine lv_iload_n hx hb dX9_doAddTram_8 rfl (lv_at hl 2 rfl) ?_
  obtain ⟨r3, hf2, hF⟩ := bx_e hF
  refine fr_cVi (As := [.int a1]) (rest := []) C B (cm_X9_isLine hf2) ob_9 rfl yw_X9_isLine wm_X9_82 rfl hl.1 rfl (Nat.le_of_ble_eq_true rfl) ⟨Nat.le_of_ble_eq_true rfl, Nat.le_of_ble_eq_true rfl⟩ ⟨Nat.le_of_ble_eq_true rfl, Nat.le_of_ble_eq_true rfl⟩ dX9_doAddTram_9 (fr_nx rfl) (fun r9 M9 H locs ho9 B => ?_)
  obtain ⟨rfl, rfl⟩ := oi_e ho9
  refine lv_if_ne (tgt := 21) hx hb dX9_doAddTram_12 (by decide) (fun c5 => ?_) (fun c5 => ?_)
  · have hF := it_t hF c5
    refine lv_iload_n hx hb dX9_doAddTram_21 rfl (lv_at hl 0 rfl) ?_
    refine lv_bipush (v := 6) hx hb dX9_doAddTram_22 (by decide) ?_
    refine lv_icmp_ne (tgt := 33) hx hb dX9_doAddTram_24 (by decide) (fun c6 => ?_) (fun c6 => ?_)
    · have hF := it_t hF c6
      refine lv_bipush (v := 51) hx hb dX9_doAddTram_33 (by decide) ?_
      refine lv_iconst (v := 3) hx hb dX9_doAddTram_35 (by decide) ?_
      refine lv_iload_n hx hb dX9_doAddTram_36 rfl (lv_at hl 0 rfl) ?_
      refine lv_imul hx hb dX9_doAddTram_37 ?_
      refine lv_iadd hx hb dX9_doAddTram_38 ?_
      refine lv_istore_n (lv' := [(3, .int (51 + (3 * (fw_ri M 379 2)))), (2, .int (fw_ri M 379 2)), (0, .ref (fw_ad X 378)), (1, .int a1)]) hx hb dX9_doAddTram_39 rfl hl (by decide) rfl (fun ls hl => ?_)
      refine lv_aload_n hx hb dX9_doAddTram_40 rfl (lv_at hl 2 rfl) ?_
      refine gf_X9_9 C B dX9_doAddTram_41 ?_
      refine lv_iload_n hx hb dX9_doAddTram_44 rfl (lv_at hl 0 rfl) ?_
      refine lv_iload_n hx hb dX9_doAddTram_45 rfl (lv_at hl 3 rfl) ?_
      obtain ⟨c7, hF⟩ := of_g hF
      refine fr_is C B ar_9_379 c7 dX9_doAddTram_46 (fun H locs B => ?_)
      obtain ⟨M8, eM8, hF⟩ := lt_e hF
      rw [← eM8] at B
      refine lv_aload_n hx hb dX9_doAddTram_47 rfl (lv_at hl 2 rfl) ?_
      refine gf_X9_9 C B dX9_doAddTram_48 ?_
      refine lv_iload_n hx hb dX9_doAddTram_51 rfl (lv_at hl 0 rfl) ?_
      refine lv_iconst (v := 1) hx hb dX9_doAddTram_52 (by decide) ?_
      refine lv_iadd hx hb dX9_doAddTram_53 ?_
      refine lv_iconst (v := 0) hx hb dX9_doAddTram_54 (by decide) ?_
      obtain ⟨c9, hF⟩ := of_g hF
      refine fr_is C B ar_9_379 c9 dX9_doAddTram_55 (fun H locs B => ?_)
      obtain ⟨M10, eM10, hF⟩ := lt_e hF
      rw [← eM10] at B
      refine lv_aload_n hx hb dX9_doAddTram_56 rfl (lv_at hl 2 rfl) ?_
      refine gf_X9_9 C B dX9_doAddTram_57 ?_
      refine lv_iload_n hx hb dX9_doAddTram_60 rfl (lv_at hl 0 rfl) ?_
      refine lv_iconst (v := 2) hx hb dX9_doAddTram_61 (by decide) ?_
      refine lv_iadd hx hb dX9_doAddTram_62 ?_
      refine lv_iconst (v := 0) hx hb dX9_doAddTram_63 (by decide) ?_
      obtain ⟨c11, hF⟩ := of_g hF
      refine fr_is C B ar_9_379 c11 dX9_doAddTram_64 (fun H locs B => ?_)
      obtain ⟨M12, eM12, hF⟩ := lt_e hF
      rw [← eM12] at B
      refine lv_aload_n hx hb dX9_doAddTram_65 rfl (lv_at hl 2 rfl) ?_
      refine gf_X9_9 C B dX9_doAddTram_66 ?_
      refine lv_iconst (v := 2) hx hb dX9_doAddTram_69 (by decide) ?_
      refine lv_dup2_11 hx hb dX9_doAddTram_70 rfl rfl ?_
      refine fr_ia C B ar_9_379 c1 dX9_doAddTram_71 ?_
      refine lv_iconst (v := 1) hx hb dX9_doAddTram_72 (by decide) ?_
      refine lv_iadd hx hb dX9_doAddTram_73 ?_
      refine fr_is C B ar_9_379 c1 dX9_doAddTram_74 (fun H locs B => ?_)
      obtain ⟨M13, eM13, hF⟩ := lt_e hF
      rw [← eM13] at B
      refine lv_iload_n hx hb dX9_doAddTram_75 rfl (lv_at hl 1 rfl) ?_
      exact fr_iret C B hr rfl hlk (by rw [← Option.some.inj hF]) (Nat.le_of_ble_eq_true rfl) (Nat.le_of_ble_eq_true rfl) dX9_doAddTram_76
    · have hF := it_f hF (not_not_intro c6)
      refine lv_aload_n hx hb dX9_doAddTram_27 rfl (lv_at hl 1 rfl) ?_
      refine lv_iconst (v := 2) hx hb dX9_doAddTram_28 (by decide) ?_
      obtain ⟨r15, M16, hf14, hF⟩ := bp_e hF
      refine fr_cVi (As := [.int 2]) (rest := []) C B (cm_X9_fails hf14) ob_9 rfl yw_X9_fails wm_X9_63 rfl hl.1 rfl (Nat.le_of_ble_eq_true rfl) ⟨Nat.le_of_ble_eq_true rfl, Nat.le_of_ble_eq_true rfl⟩ ⟨Nat.le_of_ble_eq_true rfl, Nat.le_of_ble_eq_true rfl⟩ dX9_doAddTram_29 (fr_nx rfl) (fun r9 M9 H locs ho9 B => ?_)
      obtain ⟨rfl, rfl⟩ := oi_e ho9
      exact fr_iret C B hr rfl hlk (by rw [← Option.some.inj hF]) (Nat.le_of_ble_eq_true rfl) (Nat.le_of_ble_eq_true rfl) dX9_doAddTram_32
  · have hF := it_f hF (not_not_intro c5)
    refine lv_aload_n hx hb dX9_doAddTram_15 rfl (lv_at hl 1 rfl) ?_
    refine lv_iconst (v := 1) hx hb dX9_doAddTram_16 (by decide) ?_
    obtain ⟨r18, M19, hf17, hF⟩ := bp_e hF
    refine fr_cVi (As := [.int 1]) (rest := []) C B (cm_X9_fails hf17) ob_9 rfl yw_X9_fails wm_X9_63 rfl hl.1 rfl (Nat.le_of_ble_eq_true rfl) ⟨Nat.le_of_ble_eq_true rfl, Nat.le_of_ble_eq_true rfl⟩ ⟨Nat.le_of_ble_eq_true rfl, Nat.le_of_ble_eq_true rfl⟩ dX9_doAddTram_17 (fr_nx rfl) (fun r9 M9 H locs ho9 B => ?_)
    obtain ⟨rfl, rfl⟩ := oi_e ho9
    exact fr_iret C B hr rfl hlk (by rw [← Option.some.inj hF]) (Nat.le_of_ble_eq_true rfl) (Nat.le_of_ble_eq_true rfl) dX9_doAddTram_20
def F_X9_addTram (M : fw_M) (a1 : Int32) : Option (Int32 × fw_M) :=
  bd_x (F_X9_keep M) fun M3 =>
  bd_p (F_X9_doAddTram M3 a1) fun r5 M6 =>
  bd_p (F_X9_ends M6 r5) fun r8 M9 =>
  some (r8, M9)
set_option maxHeartbeats 4000000 in
set_option maxRecDepth 100000 in
theorem cm_X9_addTram {l : Launch} {X : fw_X} {M : fw_M} {a1 : Int32}  {o : Int32 × fw_M} (hF : F_X9_addTram M a1 = some o) : ct_i l X yX9_addTram cX9_addTram 2 (some .int) ({ frames := 3, cells := 0, slots := 0, locals := 81 } : Room) M [.ref (fw_ad X 378), .int a1] (.inl o.1, o.2) := by
  refine fw_open rfl (Nat.le_of_ble_eq_true rfl) (fun p e s m below meth c ls C hr hlk hnm hex hl B => ?_)
  have C : fr_C X p c cX9_addTram 2 RX9 s m ([.ref (fw_ad X 378), .int a1] : List Value).toArray := C
  have hx := C.1.1
  have hb := C.1.2.1
  have hl : lv_has ls 2 [(0, .ref (fw_ad X 378)), (1, .int a1)] := hl
  unfold F_X9_addTram at hF
  refine lv_aload_n hx hb dX9_addTram_0 rfl (lv_at hl 0 rfl) ?_
  obtain ⟨M3, hf1, hF⟩ := bx_e hF
  refine fr_cVv (As := []) (rest := []) C B (cm_X9_keep hf1) ob_9 rfl yw_X9_keep wm_X9_66 rfl hl.1 rfl (Nat.le_of_ble_eq_true rfl) ⟨Nat.le_of_ble_eq_true rfl, Nat.le_of_ble_eq_true rfl⟩ ⟨Nat.le_of_ble_eq_true rfl, Nat.le_of_ble_eq_true rfl⟩ dX9_addTram_1 (fr_nx rfl) (fun M9 H locs ho9 B => ?_)
  obtain ⟨-, rfl⟩ := oi_e ho9
  refine lv_aload_n hx hb dX9_addTram_4 rfl (lv_at hl 0 rfl) ?_
  refine lv_aload_n hx hb dX9_addTram_5 rfl (lv_at hl 0 rfl) ?_
  refine lv_iload_n hx hb dX9_addTram_6 rfl (lv_at hl 1 rfl) ?_
  obtain ⟨r5, M6, hf4, hF⟩ := bp_e hF
  refine fr_cVi (As := [.int a1]) (rest := [.ref (fw_ad X 378)]) C B (cm_X9_doAddTram hf4) ob_9 rfl yw_X9_doAddTram wm_X9_98 rfl hl.1 rfl (Nat.le_of_ble_eq_true rfl) ⟨Nat.le_of_ble_eq_true rfl, Nat.le_of_ble_eq_true rfl⟩ ⟨Nat.le_of_ble_eq_true rfl, Nat.le_of_ble_eq_true rfl⟩ dX9_addTram_7 (fr_nx rfl) (fun r9 M9 H locs ho9 B => ?_)
  obtain ⟨rfl, rfl⟩ := oi_e ho9
  obtain ⟨r8, M9, hf7, hF⟩ := bp_e hF
  refine fr_cVi (As := [.int r5]) (rest := []) C B (cm_X9_ends hf7) ob_9 rfl yw_X9_ends wm_X9_72 rfl hl.1 rfl (Nat.le_of_ble_eq_true rfl) ⟨Nat.le_of_ble_eq_true rfl, Nat.le_of_ble_eq_true rfl⟩ ⟨Nat.le_of_ble_eq_true rfl, Nat.le_of_ble_eq_true rfl⟩ dX9_addTram_10 (fr_nx rfl) (fun r9 M9 H locs ho9 B => ?_)
  obtain ⟨rfl, rfl⟩ := oi_e ho9
  exact fr_iret C B hr rfl hlk (by rw [← Option.some.inj hF]) (Nat.le_of_ble_eq_true rfl) (Nat.le_of_ble_eq_true rfl) dX9_addTram_13
def F_X9_moves_82 (a1 : Int32)  (x2 : Int32) (x3 : Int32) (x4 : Int32) (M : fw_M) : Option (Int32 × fw_M) :=
  if x3 = 0 then
    if x4 = 0 then
      if ix_i (x2 + 2) 129 then
      lt_x (fw_wi M 379 (x2 + 2) (fw_ri M 379 (x2 + 2))) fun M4 =>
      if ¬ x3 = 0 then
        some (1, M4)
      else
        if x4 = 0 then
          some (0, M4)
        else
          some (1, M4)
      else none
    else
      if ix_i (x2 + 2) 129 then
      lt_x (fw_wi M 379 (x2 + 2) 0) fun M8 =>
      if ¬ x3 = 0 then
        some (1, M8)
      else
        if x4 = 0 then
          some (0, M8)
        else
          some (1, M8)
      else none
  else
    if ix_i (x2 + 2) 129 then
    lt_x (fw_wi M 379 (x2 + 2) 1) fun M12 =>
    if ¬ x3 = 0 then
      some (1, M12)
    else
      if x4 = 0 then
        some (0, M12)
      else
        some (1, M12)
    else none
def F_X9_moves_35 (a1 : Int32)  (x2 : Int32) (M : fw_M) : Option (Int32 × fw_M) :=
  if ix_i (x2 + 1) 129 then
  if ix_i x2 129 then
  bd_x (F_X9_lengthOf M (fw_ri M 379 x2)) fun r18 =>
  if ¬ (fw_ri M 379 (x2 + 1)) = (r18 - 1) then
    if ¬ (fw_ri M 379 (x2 + 1)) = 0 then
      F_X9_moves_82 a1 x2 0 0 M
    else
      F_X9_moves_82 a1 x2 0 1 M
  else
    if ¬ (fw_ri M 379 (x2 + 1)) = 0 then
      F_X9_moves_82 a1 x2 1 0 M
    else
      F_X9_moves_82 a1 x2 1 1 M
  else none
  else none
def F_X9_moves (M : fw_M) (a1 : Int32) : Option (Int32 × fw_M) :=
  if ix_i ((51 + (3 * a1)) + 1) 129 then
  if ix_i ((51 + (3 * a1)) + 2) 129 then
  if ¬ (fw_ri M 379 ((51 + (3 * a1)) + 2)) = 1 then
    lt_x (fw_wi M 379 ((51 + (3 * a1)) + 1) ((fw_ri M 379 ((51 + (3 * a1)) + 1)) + 1)) fun M26 =>
    F_X9_moves_35 a1 (51 + (3 * a1)) M26
  else
    lt_x (fw_wi M 379 ((51 + (3 * a1)) + 1) ((fw_ri M 379 ((51 + (3 * a1)) + 1)) + (-1))) fun M27 =>
    F_X9_moves_35 a1 (51 + (3 * a1)) M27
  else none
  else none
set_option maxHeartbeats 4000000 in
set_option maxRecDepth 100000 in
theorem cm_X9_moves {l : Launch} {X : fw_X} {M : fw_M} {a1 : Int32}  {o : Int32 × fw_M} (hF : F_X9_moves M a1 = some o) : ct_i l X yX9_moves cX9_moves 5 (some .boolean) ({ frames := 1, cells := 0, slots := 0, locals := 21 } : Room) M [.ref (fw_ad X 378), .int a1] (.inl o.1, o.2) := by
  refine fw_open rfl (Nat.le_of_ble_eq_true rfl) (fun p e s m below meth c ls C hr hlk hnm hex hl B => ?_)
  have C : fr_C X p c cX9_moves 5 RX9 s m ([.ref (fw_ad X 378), .int a1] : List Value).toArray := C
  have hx := C.1.1
  have hb := C.1.2.1
  have hl : lv_has ls 5 [(0, .ref (fw_ad X 378)), (1, .int a1)] := hl
  have hJ82 : ∀ (x2 : Int32) (x3 : Int32) (x4 : Int32) (M : fw_M) (H : Heap) (locs : List Loc) (ls : Array Slot), F_X9_moves_82 a1 x2 x3 x4 M = some o → fr_H X s M H locs → lv_has ls 5 [(0, .ref (fw_ad X 378)), (2, .int x2), (3, .int x3), (4, .int x4)] → W p l e ({ frames := 1, cells := 0, slots := 0, locals := 21 } : Room) s m ([.ref (fw_ad X 378), .int a1] : List Value).toArray below meth c H locs 0 0 (vx_MQ below (fw_Qi X (.inl o.1, o.2)) (fw_Qx X (.inl o.1, o.2)) ([.ref (fw_ad X 378), .int a1] : List Value).toArray s 0 0 (fw_A X)) (F0 m 82 ls []) := by
    intro x2 x3 x4 M H locs ls hF B hl
    unfold F_X9_moves_82 at hF
    refine lv_aload_n hx hb dX9_moves_82 rfl (lv_at hl 0 rfl) ?_
    refine gf_X9_9 C B dX9_moves_83 ?_
    refine lv_iload_n hx hb dX9_moves_86 rfl (lv_at hl 1 rfl) ?_
    refine lv_iconst (v := 2) hx hb dX9_moves_87 (by decide) ?_
    refine lv_iadd hx hb dX9_moves_88 ?_
    refine lv_iload_n hx hb dX9_moves_89 rfl (lv_at hl 2 rfl) ?_
    refine lv_if_eq (tgt := 97) hx hb dX9_moves_90 (by decide) (fun c1 => ?_) (fun c1 => ?_)
    · have hF := it_t hF c1
      refine lv_iload hx hb dX9_moves_97 (lv_at hl 3 rfl) ?_
      refine lv_if_eq (tgt := 106) hx hb dX9_moves_99 (by decide) (fun c2 => ?_) (fun c2 => ?_)
      · have hF := it_t hF c2
        refine lv_aload_n hx hb dX9_moves_106 rfl (lv_at hl 0 rfl) ?_
        refine gf_X9_9 C B dX9_moves_107 ?_
        refine lv_iload_n hx hb dX9_moves_110 rfl (lv_at hl 1 rfl) ?_
        refine lv_iconst (v := 2) hx hb dX9_moves_111 (by decide) ?_
        refine lv_iadd hx hb dX9_moves_112 ?_
        obtain ⟨c3, hF⟩ := of_g hF
        refine fr_ia C B ar_9_379 c3 dX9_moves_113 ?_
        refine fr_is C B ar_9_379 c3 dX9_moves_114 (fun H locs B => ?_)
        obtain ⟨M4, eM4, hF⟩ := lt_e hF
        rw [← eM4] at B
        refine lv_iload_n hx hb dX9_moves_115 rfl (lv_at hl 2 rfl) ?_
        refine lv_if_ne (tgt := 124) hx hb dX9_moves_116 (by decide) (fun c5 => ?_) (fun c5 => ?_)
        · have hF := it_t hF c5
          refine lv_iconst (v := 1) hx hb dX9_moves_124 (by decide) ?_
          refine lv_goto (tgt := 129) hx hb dX9_moves_125 (by decide) ?_
          exact fr_iret C B hr rfl hlk (by rw [← Option.some.inj hF]) (Nat.le_of_ble_eq_true rfl) (Nat.le_of_ble_eq_true rfl) dX9_moves_129
        · have hF := it_f hF (not_not_intro c5)
          refine lv_iload hx hb dX9_moves_119 (lv_at hl 3 rfl) ?_
          refine lv_if_eq (tgt := 128) hx hb dX9_moves_121 (by decide) (fun c6 => ?_) (fun c6 => ?_)
          · have hF := it_t hF c6
            refine lv_iconst (v := 0) hx hb dX9_moves_128 (by decide) ?_
            exact fr_iret C B hr rfl hlk (by rw [← Option.some.inj hF]) (Nat.le_of_ble_eq_true rfl) (Nat.le_of_ble_eq_true rfl) dX9_moves_129
          · have hF := it_f hF c6
            refine lv_iconst (v := 1) hx hb dX9_moves_124 (by decide) ?_
            refine lv_goto (tgt := 129) hx hb dX9_moves_125 (by decide) ?_
            exact fr_iret C B hr rfl hlk (by rw [← Option.some.inj hF]) (Nat.le_of_ble_eq_true rfl) (Nat.le_of_ble_eq_true rfl) dX9_moves_129
      · have hF := it_f hF c2
        refine lv_iconst (v := 0) hx hb dX9_moves_102 (by decide) ?_
        refine lv_goto (tgt := 114) hx hb dX9_moves_103 (by decide) ?_
        obtain ⟨c7, hF⟩ := of_g hF
        refine fr_is C B ar_9_379 c7 dX9_moves_114 (fun H locs B => ?_)
        obtain ⟨M8, eM8, hF⟩ := lt_e hF
        rw [← eM8] at B
        refine lv_iload_n hx hb dX9_moves_115 rfl (lv_at hl 2 rfl) ?_
        refine lv_if_ne (tgt := 124) hx hb dX9_moves_116 (by decide) (fun c9 => ?_) (fun c9 => ?_)
        · have hF := it_t hF c9
          refine lv_iconst (v := 1) hx hb dX9_moves_124 (by decide) ?_
          refine lv_goto (tgt := 129) hx hb dX9_moves_125 (by decide) ?_
          exact fr_iret C B hr rfl hlk (by rw [← Option.some.inj hF]) (Nat.le_of_ble_eq_true rfl) (Nat.le_of_ble_eq_true rfl) dX9_moves_129
        · have hF := it_f hF (not_not_intro c9)
          refine lv_iload hx hb dX9_moves_119 (lv_at hl 3 rfl) ?_
          refine lv_if_eq (tgt := 128) hx hb dX9_moves_121 (by decide) (fun c10 => ?_) (fun c10 => ?_)
          · have hF := it_t hF c10
            refine lv_iconst (v := 0) hx hb dX9_moves_128 (by decide) ?_
            exact fr_iret C B hr rfl hlk (by rw [← Option.some.inj hF]) (Nat.le_of_ble_eq_true rfl) (Nat.le_of_ble_eq_true rfl) dX9_moves_129
          · have hF := it_f hF c10
            refine lv_iconst (v := 1) hx hb dX9_moves_124 (by decide) ?_
            refine lv_goto (tgt := 129) hx hb dX9_moves_125 (by decide) ?_
            exact fr_iret C B hr rfl hlk (by rw [← Option.some.inj hF]) (Nat.le_of_ble_eq_true rfl) (Nat.le_of_ble_eq_true rfl) dX9_moves_129
    · have hF := it_f hF c1
      refine lv_iconst (v := 1) hx hb dX9_moves_93 (by decide) ?_
      refine lv_goto (tgt := 114) hx hb dX9_moves_94 (by decide) ?_
      obtain ⟨c11, hF⟩ := of_g hF
      refine fr_is C B ar_9_379 c11 dX9_moves_114 (fun H locs B => ?_)
      obtain ⟨M12, eM12, hF⟩ := lt_e hF
      rw [← eM12] at B
      refine lv_iload_n hx hb dX9_moves_115 rfl (lv_at hl 2 rfl) ?_
      refine lv_if_ne (tgt := 124) hx hb dX9_moves_116 (by decide) (fun c13 => ?_) (fun c13 => ?_)
      · have hF := it_t hF c13
        refine lv_iconst (v := 1) hx hb dX9_moves_124 (by decide) ?_
        refine lv_goto (tgt := 129) hx hb dX9_moves_125 (by decide) ?_
        exact fr_iret C B hr rfl hlk (by rw [← Option.some.inj hF]) (Nat.le_of_ble_eq_true rfl) (Nat.le_of_ble_eq_true rfl) dX9_moves_129
      · have hF := it_f hF (not_not_intro c13)
        refine lv_iload hx hb dX9_moves_119 (lv_at hl 3 rfl) ?_
        refine lv_if_eq (tgt := 128) hx hb dX9_moves_121 (by decide) (fun c14 => ?_) (fun c14 => ?_)
        · have hF := it_t hF c14
          refine lv_iconst (v := 0) hx hb dX9_moves_128 (by decide) ?_
          exact fr_iret C B hr rfl hlk (by rw [← Option.some.inj hF]) (Nat.le_of_ble_eq_true rfl) (Nat.le_of_ble_eq_true rfl) dX9_moves_129
        · have hF := it_f hF c14
          refine lv_iconst (v := 1) hx hb dX9_moves_124 (by decide) ?_
          refine lv_goto (tgt := 129) hx hb dX9_moves_125 (by decide) ?_
          exact fr_iret C B hr rfl hlk (by rw [← Option.some.inj hF]) (Nat.le_of_ble_eq_true rfl) (Nat.le_of_ble_eq_true rfl) dX9_moves_129
  have hJ35 : ∀ (x2 : Int32) (M : fw_M) (H : Heap) (locs : List Loc) (ls : Array Slot), F_X9_moves_35 a1 x2 M = some o → fr_H X s M H locs → lv_has ls 5 [(0, .ref (fw_ad X 378)), (2, .int x2)] → W p l e ({ frames := 1, cells := 0, slots := 0, locals := 21 } : Room) s m ([.ref (fw_ad X 378), .int a1] : List Value).toArray below meth c H locs 0 0 (vx_MQ below (fw_Qi X (.inl o.1, o.2)) (fw_Qx X (.inl o.1, o.2)) ([.ref (fw_ad X 378), .int a1] : List Value).toArray s 0 0 (fw_A X)) (F0 m 35 ls []) := by
    intro x2 M H locs ls hF B hl
    unfold F_X9_moves_35 at hF
    refine lv_aload_n hx hb dX9_moves_35 rfl (lv_at hl 0 rfl) ?_
    refine gf_X9_9 C B dX9_moves_36 ?_
    refine lv_iload_n hx hb dX9_moves_39 rfl (lv_at hl 1 rfl) ?_
    refine lv_iconst (v := 1) hx hb dX9_moves_40 (by decide) ?_
    refine lv_iadd hx hb dX9_moves_41 ?_
    obtain ⟨c15, hF⟩ := of_g hF
    refine fr_ia C B ar_9_379 c15 dX9_moves_42 ?_
    refine lv_aload_n hx hb dX9_moves_43 rfl (lv_at hl 0 rfl) ?_
    refine lv_aload_n hx hb dX9_moves_44 rfl (lv_at hl 0 rfl) ?_
    refine gf_X9_9 C B dX9_moves_45 ?_
    refine lv_iload_n hx hb dX9_moves_48 rfl (lv_at hl 1 rfl) ?_
    obtain ⟨c16, hF⟩ := of_g hF
    refine fr_ia C B ar_9_379 c16 dX9_moves_49 ?_
    obtain ⟨r18, hf17, hF⟩ := bx_e hF
    refine fr_cVi (As := [.int (fw_ri M 379 x2)]) (rest := [.int (fw_ri M 379 (x2 + 1))]) C B (cm_X9_lengthOf hf17) ob_9 rfl yw_X9_lengthOf wm_X9_55 rfl hl.1 rfl (Nat.le_of_ble_eq_true rfl) ⟨Nat.le_of_ble_eq_true rfl, Nat.le_of_ble_eq_true rfl⟩ ⟨Nat.le_of_ble_eq_true rfl, Nat.le_of_ble_eq_true rfl⟩ dX9_moves_50 (fr_nx rfl) (fun r9 M9 H locs ho9 B => ?_)
    obtain ⟨rfl, rfl⟩ := oi_e ho9
    refine lv_iconst (v := 1) hx hb dX9_moves_53 (by decide) ?_
    refine lv_isub hx hb dX9_moves_54 ?_
    refine lv_icmp_ne (tgt := 62) hx hb dX9_moves_55 (by decide) (fun c20 => ?_) (fun c20 => ?_)
    · have hF := it_t hF c20
      refine lv_iconst (v := 0) hx hb dX9_moves_62 (by decide) ?_
      refine lv_istore_n (lv' := [(3, .int 0), (0, .ref (fw_ad X 378)), (2, .int x2)]) hx hb dX9_moves_63 rfl hl (by decide) rfl (fun ls hl => ?_)
      refine lv_aload_n hx hb dX9_moves_64 rfl (lv_at hl 1 rfl) ?_
      refine gf_X9_9 C B dX9_moves_65 ?_
      refine lv_iload_n hx hb dX9_moves_68 rfl (lv_at hl 2 rfl) ?_
      refine lv_iconst (v := 1) hx hb dX9_moves_69 (by decide) ?_
      refine lv_iadd hx hb dX9_moves_70 ?_
      refine fr_ia C B ar_9_379 c15 dX9_moves_71 ?_
      refine lv_if_ne (tgt := 79) hx hb dX9_moves_72 (by decide) (fun c21 => ?_) (fun c21 => ?_)
      · have hF := it_t hF c21
        refine lv_iconst (v := 0) hx hb dX9_moves_79 (by decide) ?_
        refine lv_istore (lv' := [(4, .int 0), (3, .int 0), (0, .ref (fw_ad X 378)), (2, .int x2)]) hx hb dX9_moves_80 hl (by decide) rfl (fun ls hl => ?_)
        exact hJ82 x2 0 0 M _ _ _ hF B (lv_sub hl [2, 3, 1, 0] rfl)
      · have hF := it_f hF (not_not_intro c21)
        refine lv_iconst (v := 1) hx hb dX9_moves_75 (by decide) ?_
        refine lv_goto (tgt := 80) hx hb dX9_moves_76 (by decide) ?_
        refine lv_istore (lv' := [(4, .int 1), (3, .int 0), (0, .ref (fw_ad X 378)), (2, .int x2)]) hx hb dX9_moves_80 hl (by decide) rfl (fun ls hl => ?_)
        exact hJ82 x2 0 1 M _ _ _ hF B (lv_sub hl [2, 3, 1, 0] rfl)
    · have hF := it_f hF (not_not_intro c20)
      refine lv_iconst (v := 1) hx hb dX9_moves_58 (by decide) ?_
      refine lv_goto (tgt := 63) hx hb dX9_moves_59 (by decide) ?_
      refine lv_istore_n (lv' := [(3, .int 1), (0, .ref (fw_ad X 378)), (2, .int x2)]) hx hb dX9_moves_63 rfl hl (by decide) rfl (fun ls hl => ?_)
      refine lv_aload_n hx hb dX9_moves_64 rfl (lv_at hl 1 rfl) ?_
      refine gf_X9_9 C B dX9_moves_65 ?_
      refine lv_iload_n hx hb dX9_moves_68 rfl (lv_at hl 2 rfl) ?_
      refine lv_iconst (v := 1) hx hb dX9_moves_69 (by decide) ?_
      refine lv_iadd hx hb dX9_moves_70 ?_
      refine fr_ia C B ar_9_379 c15 dX9_moves_71 ?_
      refine lv_if_ne (tgt := 79) hx hb dX9_moves_72 (by decide) (fun c22 => ?_) (fun c22 => ?_)
      · have hF := it_t hF c22
        refine lv_iconst (v := 0) hx hb dX9_moves_79 (by decide) ?_
        refine lv_istore (lv' := [(4, .int 0), (3, .int 1), (0, .ref (fw_ad X 378)), (2, .int x2)]) hx hb dX9_moves_80 hl (by decide) rfl (fun ls hl => ?_)
        exact hJ82 x2 1 0 M _ _ _ hF B (lv_sub hl [2, 3, 1, 0] rfl)
      · have hF := it_f hF (not_not_intro c22)
        refine lv_iconst (v := 1) hx hb dX9_moves_75 (by decide) ?_
        refine lv_goto (tgt := 80) hx hb dX9_moves_76 (by decide) ?_
        refine lv_istore (lv' := [(4, .int 1), (3, .int 1), (0, .ref (fw_ad X 378)), (2, .int x2)]) hx hb dX9_moves_80 hl (by decide) rfl (fun ls hl => ?_)
        exact hJ82 x2 1 1 M _ _ _ hF B (lv_sub hl [2, 3, 1, 0] rfl)
  unfold F_X9_moves at hF
  refine lv_bipush (v := 51) hx hb dX9_moves_0 (by decide) ?_
  refine lv_iconst (v := 3) hx hb dX9_moves_2 (by decide) ?_
  refine lv_iload_n hx hb dX9_moves_3 rfl (lv_at hl 1 rfl) ?_
  refine lv_imul hx hb dX9_moves_4 ?_
  refine lv_iadd hx hb dX9_moves_5 ?_
  refine lv_istore_n (lv' := [(2, .int (51 + (3 * a1))), (0, .ref (fw_ad X 378)), (1, .int a1)]) hx hb dX9_moves_6 rfl hl (by decide) rfl (fun ls hl => ?_)
  refine lv_aload_n hx hb dX9_moves_7 rfl (lv_at hl 1 rfl) ?_
  refine gf_X9_9 C B dX9_moves_8 ?_
  refine lv_iload_n hx hb dX9_moves_11 rfl (lv_at hl 0 rfl) ?_
  refine lv_iconst (v := 1) hx hb dX9_moves_12 (by decide) ?_
  refine lv_iadd hx hb dX9_moves_13 ?_
  refine lv_dup2_11 hx hb dX9_moves_14 rfl rfl ?_
  obtain ⟨c23, hF⟩ := of_g hF
  refine fr_ia C B ar_9_379 c23 dX9_moves_15 ?_
  refine lv_aload_n hx hb dX9_moves_16 rfl (lv_at hl 1 rfl) ?_
  refine gf_X9_9 C B dX9_moves_17 ?_
  refine lv_iload_n hx hb dX9_moves_20 rfl (lv_at hl 0 rfl) ?_
  refine lv_iconst (v := 2) hx hb dX9_moves_21 (by decide) ?_
  refine lv_iadd hx hb dX9_moves_22 ?_
  obtain ⟨c24, hF⟩ := of_g hF
  refine fr_ia C B ar_9_379 c24 dX9_moves_23 ?_
  refine lv_iconst (v := 1) hx hb dX9_moves_24 (by decide) ?_
  refine lv_icmp_ne (tgt := 32) hx hb dX9_moves_25 (by decide) (fun c25 => ?_) (fun c25 => ?_)
  · have hF := it_t hF c25
    refine lv_iconst (v := 1) hx hb dX9_moves_32 (by decide) ?_
    refine lv_iadd hx hb dX9_moves_33 ?_
    refine fr_is C B ar_9_379 c23 dX9_moves_34 (fun H locs B => ?_)
    obtain ⟨M26, eM26, hF⟩ := lt_e hF
    rw [← eM26] at B
    exact hJ35 (51 + (3 * a1)) M26 _ _ _ hF B (lv_sub hl [1, 0] rfl)
  · have hF := it_f hF (not_not_intro c25)
    refine lv_iconst (v := (-1)) hx hb dX9_moves_28 (by decide) ?_
    refine lv_goto (tgt := 33) hx hb dX9_moves_29 (by decide) ?_
    refine lv_iadd hx hb dX9_moves_33 ?_
    refine fr_is C B ar_9_379 c23 dX9_moves_34 (fun H locs B => ?_)
    obtain ⟨M27, eM27, hF⟩ := lt_e hF
    rw [← eM27] at B
    exact hJ35 (51 + (3 * a1)) M27 _ _ _ hF B (lv_sub hl [1, 0] rfl)
def F_X9_doTick_4   : Nat → Int32 → Int32 → fw_M → Option (Int32 × fw_M)
  | 0, _, _, _ => none
  | n + 1, x1, x2, M =>
    if ix_i 2 129 then
    if (fw_ri M 379 2) ≤ x2 then
      if ix_i 5 129 then
      lt_x (fw_wi M 379 5 ((fw_ri M 379 5) + 1)) fun M4 =>
      some (x1, M4)
      else none
    else
      bd_p (F_X9_moves M x2) fun r6 M7 =>
      if r6 = 0 then
        F_X9_doTick_4  n (x1 + 0) (x2 + 1) M7
      else
        F_X9_doTick_4  n (x1 + 1) (x2 + 1) M7
    else none
def F_X9_doTick (M : fw_M) : Option (Int32 × fw_M) :=
  F_X9_doTick_4 64 0 0 M
set_option maxHeartbeats 4000000 in
set_option maxRecDepth 100000 in
theorem cm_X9_doTick {l : Launch} {X : fw_X} {M : fw_M}  {o : Int32 × fw_M} (hF : F_X9_doTick M = some o) : ct_i l X yX9_doTick cX9_doTick 3 (some .int) ({ frames := 2, cells := 0, slots := 0, locals := 45 } : Room) M [.ref (fw_ad X 378)] (.inl o.1, o.2) := by
  refine fw_open rfl (Nat.le_of_ble_eq_true rfl) (fun p e s m below meth c ls C hr hlk hnm hex hl B => ?_)
  have C : fr_C X p c cX9_doTick 3 RX9 s m ([.ref (fw_ad X 378)] : List Value).toArray := C
  have hx := C.1.1
  have hb := C.1.2.1
  have hl : lv_has ls 3 [(0, .ref (fw_ad X 378))] := hl
  have hJ4 : ∀ (n : Nat), ∀ (x1 : Int32) (x2 : Int32) (M : fw_M) (H : Heap) (locs : List Loc) (ls : Array Slot), F_X9_doTick_4  n x1 x2 M = some o → fr_H X s M H locs → lv_has ls 3 [(0, .ref (fw_ad X 378)), (1, .int x1), (2, .int x2)] → W p l e ({ frames := 2, cells := 0, slots := 0, locals := 45 } : Room) s m ([.ref (fw_ad X 378)] : List Value).toArray below meth c H locs 0 0 (vx_MQ below (fw_Qi X (.inl o.1, o.2)) (fw_Qx X (.inl o.1, o.2)) ([.ref (fw_ad X 378)] : List Value).toArray s 0 0 (fw_A X)) (F0 m 4 ls []) := by
    intro n
    induction n with
    | zero =>
      intro x1 x2 M H locs ls hF B hl
      exact absurd hF (by simp [F_X9_doTick_4])
    | succ n ih =>
      intro x1 x2 M H locs ls hF B hl
      rw [F_X9_doTick_4] at hF
      refine lv_iload_n hx hb dX9_doTick_4 rfl (lv_at hl 2 rfl) ?_
      refine lv_aload_n hx hb dX9_doTick_5 rfl (lv_at hl 0 rfl) ?_
      refine gf_X9_9 C B dX9_doTick_6 ?_
      refine lv_iconst (v := 2) hx hb dX9_doTick_9 (by decide) ?_
      obtain ⟨c1, hF⟩ := of_g hF
      refine fr_ia C B ar_9_379 c1 dX9_doTick_10 ?_
      refine lv_icmp_ge (tgt := 36) hx hb dX9_doTick_11 (by decide) (fun c2 => ?_) (fun c2 => ?_)
      · have hF := it_t hF c2
        refine lv_aload_n hx hb dX9_doTick_36 rfl (lv_at hl 0 rfl) ?_
        refine gf_X9_9 C B dX9_doTick_37 ?_
        refine lv_iconst (v := 5) hx hb dX9_doTick_40 (by decide) ?_
        refine lv_dup2_11 hx hb dX9_doTick_41 rfl rfl ?_
        obtain ⟨c3, hF⟩ := of_g hF
        refine fr_ia C B ar_9_379 c3 dX9_doTick_42 ?_
        refine lv_iconst (v := 1) hx hb dX9_doTick_43 (by decide) ?_
        refine lv_iadd hx hb dX9_doTick_44 ?_
        refine fr_is C B ar_9_379 c3 dX9_doTick_45 (fun H locs B => ?_)
        obtain ⟨M4, eM4, hF⟩ := lt_e hF
        rw [← eM4] at B
        refine lv_iload_n hx hb dX9_doTick_46 rfl (lv_at hl 1 rfl) ?_
        exact fr_iret C B hr rfl hlk (by rw [← Option.some.inj hF]) (Nat.le_of_ble_eq_true rfl) (Nat.le_of_ble_eq_true rfl) dX9_doTick_47
      · have hF := it_f hF c2
        refine lv_iload_n hx hb dX9_doTick_14 rfl (lv_at hl 1 rfl) ?_
        refine lv_aload_n hx hb dX9_doTick_15 rfl (lv_at hl 0 rfl) ?_
        refine lv_iload_n hx hb dX9_doTick_16 rfl (lv_at hl 2 rfl) ?_
        obtain ⟨r6, M7, hf5, hF⟩ := bp_e hF
        refine fr_cVi (As := [.int x2]) (rest := [.int x1]) C B (cm_X9_moves hf5) ob_9 rfl yw_X9_moves wm_X9_101 rfl hl.1 rfl (Nat.le_of_ble_eq_true rfl) ⟨Nat.le_of_ble_eq_true rfl, Nat.le_of_ble_eq_true rfl⟩ ⟨Nat.le_of_ble_eq_true rfl, Nat.le_of_ble_eq_true rfl⟩ dX9_doTick_17 (fr_nx rfl) (fun r9 M9 H locs ho9 B => ?_)
        obtain ⟨rfl, rfl⟩ := oi_e ho9
        refine lv_if_eq (tgt := 27) hx hb dX9_doTick_20 (by decide) (fun c8 => ?_) (fun c8 => ?_)
        · have hF := it_t hF c8
          refine lv_iconst (v := 0) hx hb dX9_doTick_27 (by decide) ?_
          refine lv_iadd hx hb dX9_doTick_28 ?_
          refine lv_istore_n (lv' := [(1, .int (x1 + 0)), (0, .ref (fw_ad X 378)), (2, .int x2)]) hx hb dX9_doTick_29 rfl hl (by decide) rfl (fun ls hl => ?_)
          refine lv_iinc (v := (x2 + 1)) (lv' := [(2, .int (x2 + 1)), (1, .int (x1 + 0)), (0, .ref (fw_ad X 378))]) hx hb dX9_doTick_30 hl (k := 2) rfl rfl (by decide) rfl (fun ls hl => ?_)
          refine lv_goto (tgt := 4) hx hb dX9_doTick_33 (by decide) ?_
          exact ih (x1 + 0) (x2 + 1) M7 _ _ _ hF B (lv_sub hl [2, 1, 0] rfl)
        · have hF := it_f hF c8
          refine lv_iconst (v := 1) hx hb dX9_doTick_23 (by decide) ?_
          refine lv_goto (tgt := 28) hx hb dX9_doTick_24 (by decide) ?_
          refine lv_iadd hx hb dX9_doTick_28 ?_
          refine lv_istore_n (lv' := [(1, .int (x1 + 1)), (0, .ref (fw_ad X 378)), (2, .int x2)]) hx hb dX9_doTick_29 rfl hl (by decide) rfl (fun ls hl => ?_)
          refine lv_iinc (v := (x2 + 1)) (lv' := [(2, .int (x2 + 1)), (1, .int (x1 + 1)), (0, .ref (fw_ad X 378))]) hx hb dX9_doTick_30 hl (k := 2) rfl rfl (by decide) rfl (fun ls hl => ?_)
          refine lv_goto (tgt := 4) hx hb dX9_doTick_33 (by decide) ?_
          exact ih (x1 + 1) (x2 + 1) M7 _ _ _ hF B (lv_sub hl [2, 1, 0] rfl)
  unfold F_X9_doTick at hF
  refine lv_iconst (v := 0) hx hb dX9_doTick_0 (by decide) ?_
  refine lv_istore_n (lv' := [(1, .int 0), (0, .ref (fw_ad X 378))]) hx hb dX9_doTick_1 rfl hl (by decide) rfl (fun ls hl => ?_)
  refine lv_iconst (v := 0) hx hb dX9_doTick_2 (by decide) ?_
  refine lv_istore_n (lv' := [(2, .int 0), (1, .int 0), (0, .ref (fw_ad X 378))]) hx hb dX9_doTick_3 rfl hl (by decide) rfl (fun ls hl => ?_)
  exact hJ4 64 0 0 M _ _ _ hF B (lv_sub hl [2, 1, 0] rfl)
def F_X9_tick (M : fw_M) : Option (Int32 × fw_M) :=
  bd_x (F_X9_keep M) fun M3 =>
  bd_p (F_X9_doTick M3) fun r5 M6 =>
  bd_p (F_X9_ends M6 r5) fun r8 M9 =>
  some (r8, M9)
set_option maxHeartbeats 4000000 in
set_option maxRecDepth 100000 in
theorem cm_X9_tick {l : Launch} {X : fw_X} {M : fw_M}  {o : Int32 × fw_M} (hF : F_X9_tick M = some o) : ct_i l X yX9_tick cX9_tick 1 (some .int) ({ frames := 3, cells := 0, slots := 0, locals := 81 } : Room) M [.ref (fw_ad X 378)] (.inl o.1, o.2) := by
  refine fw_open rfl (Nat.le_of_ble_eq_true rfl) (fun p e s m below meth c ls C hr hlk hnm hex hl B => ?_)
  have C : fr_C X p c cX9_tick 1 RX9 s m ([.ref (fw_ad X 378)] : List Value).toArray := C
  have hx := C.1.1
  have hb := C.1.2.1
  have hl : lv_has ls 1 [(0, .ref (fw_ad X 378))] := hl
  unfold F_X9_tick at hF
  refine lv_aload_n hx hb dX9_tick_0 rfl (lv_at hl 0 rfl) ?_
  obtain ⟨M3, hf1, hF⟩ := bx_e hF
  refine fr_cVv (As := []) (rest := []) C B (cm_X9_keep hf1) ob_9 rfl yw_X9_keep wm_X9_66 rfl hl.1 rfl (Nat.le_of_ble_eq_true rfl) ⟨Nat.le_of_ble_eq_true rfl, Nat.le_of_ble_eq_true rfl⟩ ⟨Nat.le_of_ble_eq_true rfl, Nat.le_of_ble_eq_true rfl⟩ dX9_tick_1 (fr_nx rfl) (fun M9 H locs ho9 B => ?_)
  obtain ⟨-, rfl⟩ := oi_e ho9
  refine lv_aload_n hx hb dX9_tick_4 rfl (lv_at hl 0 rfl) ?_
  refine lv_aload_n hx hb dX9_tick_5 rfl (lv_at hl 0 rfl) ?_
  obtain ⟨r5, M6, hf4, hF⟩ := bp_e hF
  refine fr_cVi (As := []) (rest := [.ref (fw_ad X 378)]) C B (cm_X9_doTick hf4) ob_9 rfl yw_X9_doTick wm_X9_104 rfl hl.1 rfl (Nat.le_of_ble_eq_true rfl) ⟨Nat.le_of_ble_eq_true rfl, Nat.le_of_ble_eq_true rfl⟩ ⟨Nat.le_of_ble_eq_true rfl, Nat.le_of_ble_eq_true rfl⟩ dX9_tick_6 (fr_nx rfl) (fun r9 M9 H locs ho9 B => ?_)
  obtain ⟨rfl, rfl⟩ := oi_e ho9
  obtain ⟨r8, M9, hf7, hF⟩ := bp_e hF
  refine fr_cVi (As := [.int r5]) (rest := []) C B (cm_X9_ends hf7) ob_9 rfl yw_X9_ends wm_X9_72 rfl hl.1 rfl (Nat.le_of_ble_eq_true rfl) ⟨Nat.le_of_ble_eq_true rfl, Nat.le_of_ble_eq_true rfl⟩ ⟨Nat.le_of_ble_eq_true rfl, Nat.le_of_ble_eq_true rfl⟩ dX9_tick_9 (fr_nx rfl) (fun r9 M9 H locs ho9 B => ?_)
  obtain ⟨rfl, rfl⟩ := oi_e ho9
  exact fr_iret C B hr rfl hlk (by rw [← Option.some.inj hF]) (Nat.le_of_ble_eq_true rfl) (Nat.le_of_ble_eq_true rfl) dX9_tick_12
def F_X9_tickCount (M : fw_M) : Option (Int32 × fw_M) :=
  lt_x (fw_up M 378 6 0) fun M1 =>
  if ix_i 5 129 then
  some ((fw_ri M1 379 5), M1)
  else none
set_option maxHeartbeats 4000000 in
set_option maxRecDepth 100000 in
theorem cm_X9_tickCount {l : Launch} {X : fw_X} {M : fw_M}  {o : Int32 × fw_M} (hF : F_X9_tickCount M = some o) : ct_i l X yX9_tickCount cX9_tickCount 1 (some .int) ({ frames := 0, cells := 0, slots := 0, locals := 0 } : Room) M [.ref (fw_ad X 378)] (.inl o.1, o.2) := by
  refine fw_open rfl (Nat.le_of_ble_eq_true rfl) (fun p e s m below meth c ls C hr hlk hnm hex hl B => ?_)
  have C : fr_C X p c cX9_tickCount 1 RX9 s m ([.ref (fw_ad X 378)] : List Value).toArray := C
  have hx := C.1.1
  have hb := C.1.2.1
  have hl : lv_has ls 1 [(0, .ref (fw_ad X 378))] := hl
  unfold F_X9_tickCount at hF
  refine lv_aload_n hx hb dX9_tickCount_0 rfl (lv_at hl 0 rfl) ?_
  refine lv_iconst (v := 0) hx hb dX9_tickCount_1 (by decide) ?_
  refine pf_X9_39 C B dX9_tickCount_2 (fun H locs B => ?_)
  obtain ⟨M1, eM1, hF⟩ := lt_e hF
  rw [← eM1] at B
  refine lv_aload_n hx hb dX9_tickCount_5 rfl (lv_at hl 0 rfl) ?_
  refine gf_X9_9 C B dX9_tickCount_6 ?_
  refine lv_iconst (v := 5) hx hb dX9_tickCount_9 (by decide) ?_
  obtain ⟨c2, hF⟩ := of_g hF
  refine fr_ia C B ar_9_379 c2 dX9_tickCount_10 ?_
  exact fr_iret C B hr rfl hlk (by rw [← Option.some.inj hF]) (Nat.le_of_ble_eq_true rfl) (Nat.le_of_ble_eq_true rfl) dX9_tickCount_11
def F_X9_tramCount (M : fw_M) : Option (Int32 × fw_M) :=
  lt_x (fw_up M 378 6 0) fun M1 =>
  if ix_i 2 129 then
  some ((fw_ri M1 379 2), M1)
  else none
set_option maxHeartbeats 4000000 in
set_option maxRecDepth 100000 in
theorem cm_X9_tramCount {l : Launch} {X : fw_X} {M : fw_M}  {o : Int32 × fw_M} (hF : F_X9_tramCount M = some o) : ct_i l X yX9_tramCount cX9_tramCount 1 (some .int) ({ frames := 0, cells := 0, slots := 0, locals := 0 } : Room) M [.ref (fw_ad X 378)] (.inl o.1, o.2) := by
  refine fw_open rfl (Nat.le_of_ble_eq_true rfl) (fun p e s m below meth c ls C hr hlk hnm hex hl B => ?_)
  have C : fr_C X p c cX9_tramCount 1 RX9 s m ([.ref (fw_ad X 378)] : List Value).toArray := C
  have hx := C.1.1
  have hb := C.1.2.1
  have hl : lv_has ls 1 [(0, .ref (fw_ad X 378))] := hl
  unfold F_X9_tramCount at hF
  refine lv_aload_n hx hb dX9_tramCount_0 rfl (lv_at hl 0 rfl) ?_
  refine lv_iconst (v := 0) hx hb dX9_tramCount_1 (by decide) ?_
  refine pf_X9_39 C B dX9_tramCount_2 (fun H locs B => ?_)
  obtain ⟨M1, eM1, hF⟩ := lt_e hF
  rw [← eM1] at B
  refine lv_aload_n hx hb dX9_tramCount_5 rfl (lv_at hl 0 rfl) ?_
  refine gf_X9_9 C B dX9_tramCount_6 ?_
  refine lv_iconst (v := 2) hx hb dX9_tramCount_9 (by decide) ?_
  obtain ⟨c2, hF⟩ := of_g hF
  refine fr_ia C B ar_9_379 c2 dX9_tramCount_10 ?_
  exact fr_iret C B hr rfl hlk (by rw [← Option.some.inj hF]) (Nat.le_of_ble_eq_true rfl) (Nat.le_of_ble_eq_true rfl) dX9_tramCount_11
def F_X9_lineOfTram (M : fw_M) (a1 : Int32) : Option (Int32 × fw_M) :=
  bd_x (F_X9_isTram M a1) fun r2 =>
  bd_p (F_X9_isThere M r2) fun r5 M6 =>
  if r5 = 0 then
    some (0, M6)
  else
    bd_x (F_X9_ofTram M6 a1 0) fun r9 =>
    some (r9, M6)
set_option maxHeartbeats 4000000 in
set_option maxRecDepth 100000 in
theorem cm_X9_lineOfTram {l : Launch} {X : fw_X} {M : fw_M} {a1 : Int32}  {o : Int32 × fw_M} (hF : F_X9_lineOfTram M a1 = some o) : ct_i l X yX9_lineOfTram cX9_lineOfTram 2 (some .int) ({ frames := 2, cells := 0, slots := 0, locals := 43 } : Room) M [.ref (fw_ad X 378), .int a1] (.inl o.1, o.2) := by
  refine fw_open rfl (Nat.le_of_ble_eq_true rfl) (fun p e s m below meth c ls C hr hlk hnm hex hl B => ?_)
  have C : fr_C X p c cX9_lineOfTram 2 RX9 s m ([.ref (fw_ad X 378), .int a1] : List Value).toArray := C
  have hx := C.1.1
  have hb := C.1.2.1
  have hl : lv_has ls 2 [(0, .ref (fw_ad X 378)), (1, .int a1)] := hl
  unfold F_X9_lineOfTram at hF
  refine lv_aload_n hx hb dX9_lineOfTram_0 rfl (lv_at hl 0 rfl) ?_
  refine lv_aload_n hx hb dX9_lineOfTram_1 rfl (lv_at hl 0 rfl) ?_
  refine lv_iload_n hx hb dX9_lineOfTram_2 rfl (lv_at hl 1 rfl) ?_
  obtain ⟨r2, hf1, hF⟩ := bx_e hF
  refine fr_cVi (As := [.int a1]) (rest := [.ref (fw_ad X 378)]) C B (cm_X9_isTram hf1) ob_9 rfl yw_X9_isTram wm_X9_108 rfl hl.1 rfl (Nat.le_of_ble_eq_true rfl) ⟨Nat.le_of_ble_eq_true rfl, Nat.le_of_ble_eq_true rfl⟩ ⟨Nat.le_of_ble_eq_true rfl, Nat.le_of_ble_eq_true rfl⟩ dX9_lineOfTram_3 (fr_nx rfl) (fun r9 M9 H locs ho9 B => ?_)
  obtain ⟨rfl, rfl⟩ := oi_e ho9
  obtain ⟨r5, M6, hf4, hF⟩ := bp_e hF
  refine fr_cVi (As := [.int r2]) (rest := []) C B (cm_X9_isThere hf4) ob_9 rfl yw_X9_isThere wm_X9_91 rfl hl.1 rfl (Nat.le_of_ble_eq_true rfl) ⟨Nat.le_of_ble_eq_true rfl, Nat.le_of_ble_eq_true rfl⟩ ⟨Nat.le_of_ble_eq_true rfl, Nat.le_of_ble_eq_true rfl⟩ dX9_lineOfTram_6 (fr_nx rfl) (fun r9 M9 H locs ho9 B => ?_)
  obtain ⟨rfl, rfl⟩ := oi_e ho9
  refine lv_if_eq (tgt := 21) hx hb dX9_lineOfTram_9 (by decide) (fun c7 => ?_) (fun c7 => ?_)
  · have hF := it_t hF c7
    refine lv_iconst (v := 0) hx hb dX9_lineOfTram_21 (by decide) ?_
    exact fr_iret C B hr rfl hlk (by rw [← Option.some.inj hF]) (Nat.le_of_ble_eq_true rfl) (Nat.le_of_ble_eq_true rfl) dX9_lineOfTram_22
  · have hF := it_f hF c7
    refine lv_aload_n hx hb dX9_lineOfTram_12 rfl (lv_at hl 0 rfl) ?_
    refine lv_iload_n hx hb dX9_lineOfTram_13 rfl (lv_at hl 1 rfl) ?_
    refine lv_iconst (v := 0) hx hb dX9_lineOfTram_14 (by decide) ?_
    obtain ⟨r9, hf8, hF⟩ := bx_e hF
    refine fr_cVi (As := [.int a1, .int 0]) (rest := []) C B (cm_X9_ofTram hf8) ob_9 rfl yw_X9_ofTram wm_X9_111 rfl hl.1 rfl (Nat.le_of_ble_eq_true rfl) ⟨Nat.le_of_ble_eq_true rfl, Nat.le_of_ble_eq_true rfl⟩ ⟨Nat.le_of_ble_eq_true rfl, Nat.le_of_ble_eq_true rfl⟩ dX9_lineOfTram_15 (fr_nx rfl) (fun r9 M9 H locs ho9 B => ?_)
    obtain ⟨rfl, rfl⟩ := oi_e ho9
    refine lv_goto (tgt := 22) hx hb dX9_lineOfTram_18 (by decide) ?_
    exact fr_iret C B hr rfl hlk (by rw [← Option.some.inj hF]) (Nat.le_of_ble_eq_true rfl) (Nat.le_of_ble_eq_true rfl) dX9_lineOfTram_22
def F_X9_tramStop (M : fw_M) (a1 : Int32) : Option (Int32) :=
  bd_x (F_X9_ofTram M a1 0) fun r2 =>
  bd_x (F_X9_ofTram M a1 1) fun r5 =>
  bd_x (F_X9_stopOf M r2 r5) fun r8 =>
  some r8
set_option maxHeartbeats 4000000 in
set_option maxRecDepth 100000 in
theorem cm_X9_tramStop {l : Launch} {X : fw_X} {M : fw_M} {a1 : Int32}  {o : Int32} (hF : F_X9_tramStop M a1 = some o) : ct_i l X yX9_tramStop cX9_tramStop 2 (some .int) ({ frames := 1, cells := 0, slots := 0, locals := 22 } : Room) M [.ref (fw_ad X 378), .int a1] (.inl o, M) := by
  refine fw_open rfl (Nat.le_of_ble_eq_true rfl) (fun p e s m below meth c ls C hr hlk hnm hex hl B => ?_)
  have C : fr_C X p c cX9_tramStop 2 RX9 s m ([.ref (fw_ad X 378), .int a1] : List Value).toArray := C
  have hx := C.1.1
  have hb := C.1.2.1
  have hl : lv_has ls 2 [(0, .ref (fw_ad X 378)), (1, .int a1)] := hl
  unfold F_X9_tramStop at hF
  refine lv_aload_n hx hb dX9_tramStop_0 rfl (lv_at hl 0 rfl) ?_
  refine lv_aload_n hx hb dX9_tramStop_1 rfl (lv_at hl 0 rfl) ?_
  refine lv_iload_n hx hb dX9_tramStop_2 rfl (lv_at hl 1 rfl) ?_
  refine lv_iconst (v := 0) hx hb dX9_tramStop_3 (by decide) ?_
  obtain ⟨r2, hf1, hF⟩ := bx_e hF
  refine fr_cVi (As := [.int a1, .int 0]) (rest := [.ref (fw_ad X 378)]) C B (cm_X9_ofTram hf1) ob_9 rfl yw_X9_ofTram wm_X9_111 rfl hl.1 rfl (Nat.le_of_ble_eq_true rfl) ⟨Nat.le_of_ble_eq_true rfl, Nat.le_of_ble_eq_true rfl⟩ ⟨Nat.le_of_ble_eq_true rfl, Nat.le_of_ble_eq_true rfl⟩ dX9_tramStop_4 (fr_nx rfl) (fun r9 M9 H locs ho9 B => ?_)
  obtain ⟨rfl, rfl⟩ := oi_e ho9
  refine lv_aload_n hx hb dX9_tramStop_7 rfl (lv_at hl 0 rfl) ?_
  refine lv_iload_n hx hb dX9_tramStop_8 rfl (lv_at hl 1 rfl) ?_
  refine lv_iconst (v := 1) hx hb dX9_tramStop_9 (by decide) ?_
  obtain ⟨r5, hf4, hF⟩ := bx_e hF
  refine fr_cVi (As := [.int a1, .int 1]) (rest := [.int r2, .ref (fw_ad X 378)]) C B (cm_X9_ofTram hf4) ob_9 rfl yw_X9_ofTram wm_X9_111 rfl hl.1 rfl (Nat.le_of_ble_eq_true rfl) ⟨Nat.le_of_ble_eq_true rfl, Nat.le_of_ble_eq_true rfl⟩ ⟨Nat.le_of_ble_eq_true rfl, Nat.le_of_ble_eq_true rfl⟩ dX9_tramStop_10 (fr_nx rfl) (fun r9 M9 H locs ho9 B => ?_)
  obtain ⟨rfl, rfl⟩ := oi_e ho9
  obtain ⟨r8, hf7, hF⟩ := bx_e hF
  refine fr_cVi (As := [.int r2, .int r5]) (rest := []) C B (cm_X9_stopOf hf7) ob_9 rfl yw_X9_stopOf wm_X9_59 rfl hl.1 rfl (Nat.le_of_ble_eq_true rfl) ⟨Nat.le_of_ble_eq_true rfl, Nat.le_of_ble_eq_true rfl⟩ ⟨Nat.le_of_ble_eq_true rfl, Nat.le_of_ble_eq_true rfl⟩ dX9_tramStop_13 (fr_nx rfl) (fun r9 M9 H locs ho9 B => ?_)
  obtain ⟨rfl, rfl⟩ := oi_e ho9
  exact fr_iret C B hr rfl hlk (by rw [← Option.some.inj hF]) (Nat.le_of_ble_eq_true rfl) (Nat.le_of_ble_eq_true rfl) dX9_tramStop_16
def F_X9_stopOfTram (M : fw_M) (a1 : Int32) : Option (Int32 × fw_M) :=
  bd_x (F_X9_isTram M a1) fun r2 =>
  bd_p (F_X9_isThere M r2) fun r5 M6 =>
  if r5 = 0 then
    some (0, M6)
  else
    bd_x (F_X9_tramStop M6 a1) fun r9 =>
    some (r9, M6)
set_option maxHeartbeats 4000000 in
set_option maxRecDepth 100000 in
theorem cm_X9_stopOfTram {l : Launch} {X : fw_X} {M : fw_M} {a1 : Int32}  {o : Int32 × fw_M} (hF : F_X9_stopOfTram M a1 = some o) : ct_i l X yX9_stopOfTram cX9_stopOfTram 2 (some .int) ({ frames := 2, cells := 0, slots := 0, locals := 43 } : Room) M [.ref (fw_ad X 378), .int a1] (.inl o.1, o.2) := by
  refine fw_open rfl (Nat.le_of_ble_eq_true rfl) (fun p e s m below meth c ls C hr hlk hnm hex hl B => ?_)
  have C : fr_C X p c cX9_stopOfTram 2 RX9 s m ([.ref (fw_ad X 378), .int a1] : List Value).toArray := C
  have hx := C.1.1
  have hb := C.1.2.1
  have hl : lv_has ls 2 [(0, .ref (fw_ad X 378)), (1, .int a1)] := hl
  unfold F_X9_stopOfTram at hF
  refine lv_aload_n hx hb dX9_stopOfTram_0 rfl (lv_at hl 0 rfl) ?_
  refine lv_aload_n hx hb dX9_stopOfTram_1 rfl (lv_at hl 0 rfl) ?_
  refine lv_iload_n hx hb dX9_stopOfTram_2 rfl (lv_at hl 1 rfl) ?_
  obtain ⟨r2, hf1, hF⟩ := bx_e hF
  refine fr_cVi (As := [.int a1]) (rest := [.ref (fw_ad X 378)]) C B (cm_X9_isTram hf1) ob_9 rfl yw_X9_isTram wm_X9_108 rfl hl.1 rfl (Nat.le_of_ble_eq_true rfl) ⟨Nat.le_of_ble_eq_true rfl, Nat.le_of_ble_eq_true rfl⟩ ⟨Nat.le_of_ble_eq_true rfl, Nat.le_of_ble_eq_true rfl⟩ dX9_stopOfTram_3 (fr_nx rfl) (fun r9 M9 H locs ho9 B => ?_)
  obtain ⟨rfl, rfl⟩ := oi_e ho9
  obtain ⟨r5, M6, hf4, hF⟩ := bp_e hF
  refine fr_cVi (As := [.int r2]) (rest := []) C B (cm_X9_isThere hf4) ob_9 rfl yw_X9_isThere wm_X9_91 rfl hl.1 rfl (Nat.le_of_ble_eq_true rfl) ⟨Nat.le_of_ble_eq_true rfl, Nat.le_of_ble_eq_true rfl⟩ ⟨Nat.le_of_ble_eq_true rfl, Nat.le_of_ble_eq_true rfl⟩ dX9_stopOfTram_6 (fr_nx rfl) (fun r9 M9 H locs ho9 B => ?_)
  obtain ⟨rfl, rfl⟩ := oi_e ho9
  refine lv_if_eq (tgt := 20) hx hb dX9_stopOfTram_9 (by decide) (fun c7 => ?_) (fun c7 => ?_)
  · have hF := it_t hF c7
    refine lv_iconst (v := 0) hx hb dX9_stopOfTram_20 (by decide) ?_
    exact fr_iret C B hr rfl hlk (by rw [← Option.some.inj hF]) (Nat.le_of_ble_eq_true rfl) (Nat.le_of_ble_eq_true rfl) dX9_stopOfTram_21
  · have hF := it_f hF c7
    refine lv_aload_n hx hb dX9_stopOfTram_12 rfl (lv_at hl 0 rfl) ?_
    refine lv_iload_n hx hb dX9_stopOfTram_13 rfl (lv_at hl 1 rfl) ?_
    obtain ⟨r9, hf8, hF⟩ := bx_e hF
    refine fr_cVi (As := [.int a1]) (rest := []) C B (cm_X9_tramStop hf8) ob_9 rfl yw_X9_tramStop wm_X9_114 rfl hl.1 rfl (Nat.le_of_ble_eq_true rfl) ⟨Nat.le_of_ble_eq_true rfl, Nat.le_of_ble_eq_true rfl⟩ ⟨Nat.le_of_ble_eq_true rfl, Nat.le_of_ble_eq_true rfl⟩ dX9_stopOfTram_14 (fr_nx rfl) (fun r9 M9 H locs ho9 B => ?_)
    obtain ⟨rfl, rfl⟩ := oi_e ho9
    refine lv_goto (tgt := 21) hx hb dX9_stopOfTram_17 (by decide) ?_
    exact fr_iret C B hr rfl hlk (by rw [← Option.some.inj hF]) (Nat.le_of_ble_eq_true rfl) (Nat.le_of_ble_eq_true rfl) dX9_stopOfTram_21
def F_X9_isForward (M : fw_M) (a1 : Int32) : Option (Int32 × fw_M) :=
  bd_x (F_X9_isTram M a1) fun r2 =>
  bd_p (F_X9_isThere M r2) fun r5 M6 =>
  if r5 = 0 then
    some (0, M6)
  else
    bd_x (F_X9_ofTram M6 a1 2) fun r9 =>
    if ¬ r9 = 0 then
      some (0, M6)
    else
      some (1, M6)
set_option maxHeartbeats 4000000 in
set_option maxRecDepth 100000 in
theorem cm_X9_isForward {l : Launch} {X : fw_X} {M : fw_M} {a1 : Int32}  {o : Int32 × fw_M} (hF : F_X9_isForward M a1 = some o) : ct_i l X yX9_isForward cX9_isForward 2 (some .boolean) ({ frames := 2, cells := 0, slots := 0, locals := 43 } : Room) M [.ref (fw_ad X 378), .int a1] (.inl o.1, o.2) := by
  refine fw_open rfl (Nat.le_of_ble_eq_true rfl) (fun p e s m below meth c ls C hr hlk hnm hex hl B => ?_)
  have C : fr_C X p c cX9_isForward 2 RX9 s m ([.ref (fw_ad X 378), .int a1] : List Value).toArray := C
  have hx := C.1.1
  have hb := C.1.2.1
  have hl : lv_has ls 2 [(0, .ref (fw_ad X 378)), (1, .int a1)] := hl
  unfold F_X9_isForward at hF
  refine lv_aload_n hx hb dX9_isForward_0 rfl (lv_at hl 0 rfl) ?_
  refine lv_aload_n hx hb dX9_isForward_1 rfl (lv_at hl 0 rfl) ?_
  refine lv_iload_n hx hb dX9_isForward_2 rfl (lv_at hl 1 rfl) ?_
  obtain ⟨r2, hf1, hF⟩ := bx_e hF
  refine fr_cVi (As := [.int a1]) (rest := [.ref (fw_ad X 378)]) C B (cm_X9_isTram hf1) ob_9 rfl yw_X9_isTram wm_X9_108 rfl hl.1 rfl (Nat.le_of_ble_eq_true rfl) ⟨Nat.le_of_ble_eq_true rfl, Nat.le_of_ble_eq_true rfl⟩ ⟨Nat.le_of_ble_eq_true rfl, Nat.le_of_ble_eq_true rfl⟩ dX9_isForward_3 (fr_nx rfl) (fun r9 M9 H locs ho9 B => ?_)
  obtain ⟨rfl, rfl⟩ := oi_e ho9
  obtain ⟨r5, M6, hf4, hF⟩ := bp_e hF
  refine fr_cVi (As := [.int r2]) (rest := []) C B (cm_X9_isThere hf4) ob_9 rfl yw_X9_isThere wm_X9_91 rfl hl.1 rfl (Nat.le_of_ble_eq_true rfl) ⟨Nat.le_of_ble_eq_true rfl, Nat.le_of_ble_eq_true rfl⟩ ⟨Nat.le_of_ble_eq_true rfl, Nat.le_of_ble_eq_true rfl⟩ dX9_isForward_6 (fr_nx rfl) (fun r9 M9 H locs ho9 B => ?_)
  obtain ⟨rfl, rfl⟩ := oi_e ho9
  refine lv_if_eq (tgt := 25) hx hb dX9_isForward_9 (by decide) (fun c7 => ?_) (fun c7 => ?_)
  · have hF := it_t hF c7
    refine lv_iconst (v := 0) hx hb dX9_isForward_25 (by decide) ?_
    exact fr_iret C B hr rfl hlk (by rw [← Option.some.inj hF]) (Nat.le_of_ble_eq_true rfl) (Nat.le_of_ble_eq_true rfl) dX9_isForward_26
  · have hF := it_f hF c7
    refine lv_aload_n hx hb dX9_isForward_12 rfl (lv_at hl 0 rfl) ?_
    refine lv_iload_n hx hb dX9_isForward_13 rfl (lv_at hl 1 rfl) ?_
    refine lv_iconst (v := 2) hx hb dX9_isForward_14 (by decide) ?_
    obtain ⟨r9, hf8, hF⟩ := bx_e hF
    refine fr_cVi (As := [.int a1, .int 2]) (rest := []) C B (cm_X9_ofTram hf8) ob_9 rfl yw_X9_ofTram wm_X9_111 rfl hl.1 rfl (Nat.le_of_ble_eq_true rfl) ⟨Nat.le_of_ble_eq_true rfl, Nat.le_of_ble_eq_true rfl⟩ ⟨Nat.le_of_ble_eq_true rfl, Nat.le_of_ble_eq_true rfl⟩ dX9_isForward_15 (fr_nx rfl) (fun r9 M9 H locs ho9 B => ?_)
    obtain ⟨rfl, rfl⟩ := oi_e ho9
    refine lv_if_ne (tgt := 25) hx hb dX9_isForward_18 (by decide) (fun c11 => ?_) (fun c11 => ?_)
    · have hF := it_t hF c11
      refine lv_iconst (v := 0) hx hb dX9_isForward_25 (by decide) ?_
      exact fr_iret C B hr rfl hlk (by rw [← Option.some.inj hF]) (Nat.le_of_ble_eq_true rfl) (Nat.le_of_ble_eq_true rfl) dX9_isForward_26
    · have hF := it_f hF (not_not_intro c11)
      refine lv_iconst (v := 1) hx hb dX9_isForward_21 (by decide) ?_
      refine lv_goto (tgt := 26) hx hb dX9_isForward_22 (by decide) ?_
      exact fr_iret C B hr rfl hlk (by rw [← Option.some.inj hF]) (Nat.le_of_ble_eq_true rfl) (Nat.le_of_ble_eq_true rfl) dX9_isForward_26
def F_X9_arrivalOf_84 (a1 : Int32) (a2 : Int32)  : Nat → Int32 → Int32 → Int32 → Int32 → fw_M → Option (Int32 × fw_M)
  | 0, _, _, _, _, _ => none
  | n + 1, x3, x4, x5, x6, M =>
    bd_x (F_X9_tramStop M a1) fun r2 =>
    if r2 = a2 then
      if ix_i (x3 + 1) 129 then
      lt_x (fw_wi M 379 (x3 + 1) x4) fun M6 =>
      if ix_i (x3 + 2) 129 then
      lt_x (fw_wi M6 379 (x3 + 2) x5) fun M8 =>
      some (x6, M8)
      else none
      else none
    else
      bd_p (F_X9_moves M a1) fun r10 M11 =>
      F_X9_arrivalOf_84 a1 a2 n x3 x4 x5 (x6 + 1) M11
def F_X9_arrivalOf_45 (a1 : Int32) (a2 : Int32)  (M : fw_M) : Option (Int32 × fw_M) :=
  if (M 378 6) ≤ 0 then
    if ix_i ((51 + (3 * a1)) + 1) 129 then
    if ix_i ((51 + (3 * a1)) + 2) 129 then
    F_X9_arrivalOf_84 a1 a2 64 (51 + (3 * a1)) (fw_ri M 379 ((51 + (3 * a1)) + 1)) (fw_ri M 379 ((51 + (3 * a1)) + 2)) 0 M
    else none
    else none
  else
    some (0, M)
def F_X9_arrivalOf (M : fw_M) (a1 : Int32) (a2 : Int32) : Option (Int32 × fw_M) :=
  bd_x (F_X9_isTram M a1) fun r16 =>
  if r16 = 0 then
    bd_p (F_X9_fails M 1) fun r20 M21 =>
    some (r20, M21)
  else
    bd_x (F_X9_isStop M a2) fun r23 =>
    if ¬ r23 = 0 then
      bd_x (F_X9_ofTram M a1 0) fun r27 =>
      bd_x (F_X9_positionOf M r27 a2) fun r30 =>
      if 0 ≤ r30 then
        lt_x (fw_up M 378 6 0) fun M33 =>
        F_X9_arrivalOf_45 a1 a2 M33
      else
        lt_x (fw_up M 378 6 2) fun M34 =>
        F_X9_arrivalOf_45 a1 a2 M34
    else
      bd_p (F_X9_fails M 1) fun r36 M37 =>
      some (r36, M37)
set_option maxHeartbeats 4000000 in
set_option maxRecDepth 100000 in
theorem cm_X9_arrivalOf {l : Launch} {X : fw_X} {M : fw_M} {a1 : Int32} {a2 : Int32}  {o : Int32 × fw_M} (hF : F_X9_arrivalOf M a1 a2 = some o) : ct_i l X yX9_arrivalOf cX9_arrivalOf 8 (some .int) ({ frames := 2, cells := 0, slots := 0, locals := 46 } : Room) M [.ref (fw_ad X 378), .int a1, .int a2] (.inl o.1, o.2) := by
  refine fw_open rfl (Nat.le_of_ble_eq_true rfl) (fun p e s m below meth c ls C hr hlk hnm hex hl B => ?_)
  have C : fr_C X p c cX9_arrivalOf 8 RX9 s m ([.ref (fw_ad X 378), .int a1, .int a2] : List Value).toArray := C
  have hx := C.1.1
  have hb := C.1.2.1
  have hl : lv_has ls 8 [(0, .ref (fw_ad X 378)), (1, .int a1), (2, .int a2)] := hl
  have hJ84 : ∀ (n : Nat), ∀ (x3 : Int32) (x4 : Int32) (x5 : Int32) (x6 : Int32) (M : fw_M) (H : Heap) (locs : List Loc) (ls : Array Slot), F_X9_arrivalOf_84 a1 a2 n x3 x4 x5 x6 M = some o → fr_H X s M H locs → lv_has ls 8 [(0, .ref (fw_ad X 378)), (1, .int a1), (2, .int a2), (3, .int x3), (4, .int x4), (5, .int x5), (6, .int x6)] → W p l e ({ frames := 2, cells := 0, slots := 0, locals := 46 } : Room) s m ([.ref (fw_ad X 378), .int a1, .int a2] : List Value).toArray below meth c H locs 0 0 (vx_MQ below (fw_Qi X (.inl o.1, o.2)) (fw_Qx X (.inl o.1, o.2)) ([.ref (fw_ad X 378), .int a1, .int a2] : List Value).toArray s 0 0 (fw_A X)) (F0 m 84 ls []) := by
    intro n
    induction n with
    | zero =>
      intro x3 x4 x5 x6 M H locs ls hF B hl
      exact absurd hF (by simp [F_X9_arrivalOf_84])
    | succ n ih =>
      intro x3 x4 x5 x6 M H locs ls hF B hl
      rw [F_X9_arrivalOf_84] at hF
      refine lv_aload_n hx hb dX9_arrivalOf_84 rfl (lv_at hl 0 rfl) ?_
      refine lv_iload_n hx hb dX9_arrivalOf_85 rfl (lv_at hl 1 rfl) ?_
      obtain ⟨r2, hf1, hF⟩ := bx_e hF
      refine fr_cVi (As := [.int a1]) (rest := []) C B (cm_X9_tramStop hf1) ob_9 rfl yw_X9_tramStop wm_X9_114 rfl hl.1 rfl (Nat.le_of_ble_eq_true rfl) ⟨Nat.le_of_ble_eq_true rfl, Nat.le_of_ble_eq_true rfl⟩ ⟨Nat.le_of_ble_eq_true rfl, Nat.le_of_ble_eq_true rfl⟩ dX9_arrivalOf_86 (fr_nx rfl) (fun r9 M9 H locs ho9 B => ?_)
      obtain ⟨rfl, rfl⟩ := oi_e ho9
      refine lv_iload_n hx hb dX9_arrivalOf_89 rfl (lv_at hl 2 rfl) ?_
      refine lv_icmp_eq (tgt := 106) hx hb dX9_arrivalOf_90 (by decide) (fun c4 => ?_) (fun c4 => ?_)
      · have hF := it_t hF c4
        refine lv_aload_n hx hb dX9_arrivalOf_106 rfl (lv_at hl 0 rfl) ?_
        refine gf_X9_9 C B dX9_arrivalOf_107 ?_
        refine lv_iload_n hx hb dX9_arrivalOf_110 rfl (lv_at hl 3 rfl) ?_
        refine lv_iconst (v := 1) hx hb dX9_arrivalOf_111 (by decide) ?_
        refine lv_iadd hx hb dX9_arrivalOf_112 ?_
        refine lv_iload hx hb dX9_arrivalOf_113 (lv_at hl 4 rfl) ?_
        obtain ⟨c5, hF⟩ := of_g hF
        refine fr_is C B ar_9_379 c5 dX9_arrivalOf_115 (fun H locs B => ?_)
        obtain ⟨M6, eM6, hF⟩ := lt_e hF
        rw [← eM6] at B
        refine lv_aload_n hx hb dX9_arrivalOf_116 rfl (lv_at hl 0 rfl) ?_
        refine gf_X9_9 C B dX9_arrivalOf_117 ?_
        refine lv_iload_n hx hb dX9_arrivalOf_120 rfl (lv_at hl 3 rfl) ?_
        refine lv_iconst (v := 2) hx hb dX9_arrivalOf_121 (by decide) ?_
        refine lv_iadd hx hb dX9_arrivalOf_122 ?_
        refine lv_iload hx hb dX9_arrivalOf_123 (lv_at hl 5 rfl) ?_
        obtain ⟨c7, hF⟩ := of_g hF
        refine fr_is C B ar_9_379 c7 dX9_arrivalOf_125 (fun H locs B => ?_)
        obtain ⟨M8, eM8, hF⟩ := lt_e hF
        rw [← eM8] at B
        refine lv_iload hx hb dX9_arrivalOf_126 (lv_at hl 6 rfl) ?_
        exact fr_iret C B hr rfl hlk (by rw [← Option.some.inj hF]) (Nat.le_of_ble_eq_true rfl) (Nat.le_of_ble_eq_true rfl) dX9_arrivalOf_128
      · have hF := it_f hF c4
        refine lv_aload_n hx hb dX9_arrivalOf_93 rfl (lv_at hl 0 rfl) ?_
        refine lv_iload_n hx hb dX9_arrivalOf_94 rfl (lv_at hl 1 rfl) ?_
        obtain ⟨r10, M11, hf9, hF⟩ := bp_e hF
        refine fr_cVi (As := [.int a1]) (rest := []) C B (cm_X9_moves hf9) ob_9 rfl yw_X9_moves wm_X9_101 rfl hl.1 rfl (Nat.le_of_ble_eq_true rfl) ⟨Nat.le_of_ble_eq_true rfl, Nat.le_of_ble_eq_true rfl⟩ ⟨Nat.le_of_ble_eq_true rfl, Nat.le_of_ble_eq_true rfl⟩ dX9_arrivalOf_95 (fr_nx rfl) (fun r9 M9 H locs ho9 B => ?_)
        obtain ⟨rfl, rfl⟩ := oi_e ho9
        refine lv_istore (lv' := [(7, .int r10), (0, .ref (fw_ad X 378)), (1, .int a1), (2, .int a2), (3, .int x3), (4, .int x4), (5, .int x5), (6, .int x6)]) hx hb dX9_arrivalOf_98 hl (by decide) rfl (fun ls hl => ?_)
        refine lv_iinc (v := (x6 + 1)) (lv' := [(6, .int (x6 + 1)), (7, .int r10), (0, .ref (fw_ad X 378)), (1, .int a1), (2, .int a2), (3, .int x3), (4, .int x4), (5, .int x5)]) hx hb dX9_arrivalOf_100 hl (k := 7) rfl rfl (by decide) rfl (fun ls hl => ?_)
        refine lv_goto (tgt := 84) hx hb dX9_arrivalOf_103 (by decide) ?_
        exact ih x3 x4 x5 (x6 + 1) M11 _ _ _ hF B (lv_sub hl [2, 3, 4, 5, 6, 7, 0] rfl)
  have hJ45 : ∀ (M : fw_M) (H : Heap) (locs : List Loc) (ls : Array Slot), F_X9_arrivalOf_45 a1 a2 M = some o → fr_H X s M H locs → lv_has ls 8 [(0, .ref (fw_ad X 378)), (1, .int a1), (2, .int a2)] → W p l e ({ frames := 2, cells := 0, slots := 0, locals := 46 } : Room) s m ([.ref (fw_ad X 378), .int a1, .int a2] : List Value).toArray below meth c H locs 0 0 (vx_MQ below (fw_Qi X (.inl o.1, o.2)) (fw_Qx X (.inl o.1, o.2)) ([.ref (fw_ad X 378), .int a1, .int a2] : List Value).toArray s 0 0 (fw_A X)) (F0 m 45 ls []) := by
    intro M H locs ls hF B hl
    unfold F_X9_arrivalOf_45 at hF
    refine lv_aload_n hx hb dX9_arrivalOf_45 rfl (lv_at hl 0 rfl) ?_
    refine gf_X9_39 C B dX9_arrivalOf_46 ?_
    refine lv_if_le (tgt := 54) hx hb dX9_arrivalOf_49 (by decide) (fun c12 => ?_) (fun c12 => ?_)
    · have hF := it_t hF c12
      refine lv_bipush (v := 51) hx hb dX9_arrivalOf_54 (by decide) ?_
      refine lv_iconst (v := 3) hx hb dX9_arrivalOf_56 (by decide) ?_
      refine lv_iload_n hx hb dX9_arrivalOf_57 rfl (lv_at hl 1 rfl) ?_
      refine lv_imul hx hb dX9_arrivalOf_58 ?_
      refine lv_iadd hx hb dX9_arrivalOf_59 ?_
      refine lv_istore_n (lv' := [(3, .int (51 + (3 * a1))), (0, .ref (fw_ad X 378)), (1, .int a1), (2, .int a2)]) hx hb dX9_arrivalOf_60 rfl hl (by decide) rfl (fun ls hl => ?_)
      refine lv_aload_n hx hb dX9_arrivalOf_61 rfl (lv_at hl 1 rfl) ?_
      refine gf_X9_9 C B dX9_arrivalOf_62 ?_
      refine lv_iload_n hx hb dX9_arrivalOf_65 rfl (lv_at hl 0 rfl) ?_
      refine lv_iconst (v := 1) hx hb dX9_arrivalOf_66 (by decide) ?_
      refine lv_iadd hx hb dX9_arrivalOf_67 ?_
      obtain ⟨c13, hF⟩ := of_g hF
      refine fr_ia C B ar_9_379 c13 dX9_arrivalOf_68 ?_
      refine lv_istore (lv' := [(4, .int (fw_ri M 379 ((51 + (3 * a1)) + 1))), (3, .int (51 + (3 * a1))), (0, .ref (fw_ad X 378)), (1, .int a1), (2, .int a2)]) hx hb dX9_arrivalOf_69 hl (by decide) rfl (fun ls hl => ?_)
      refine lv_aload_n hx hb dX9_arrivalOf_71 rfl (lv_at hl 2 rfl) ?_
      refine gf_X9_9 C B dX9_arrivalOf_72 ?_
      refine lv_iload_n hx hb dX9_arrivalOf_75 rfl (lv_at hl 1 rfl) ?_
      refine lv_iconst (v := 2) hx hb dX9_arrivalOf_76 (by decide) ?_
      refine lv_iadd hx hb dX9_arrivalOf_77 ?_
      obtain ⟨c14, hF⟩ := of_g hF
      refine fr_ia C B ar_9_379 c14 dX9_arrivalOf_78 ?_
      refine lv_istore (lv' := [(5, .int (fw_ri M 379 ((51 + (3 * a1)) + 2))), (4, .int (fw_ri M 379 ((51 + (3 * a1)) + 1))), (3, .int (51 + (3 * a1))), (0, .ref (fw_ad X 378)), (1, .int a1), (2, .int a2)]) hx hb dX9_arrivalOf_79 hl (by decide) rfl (fun ls hl => ?_)
      refine lv_iconst (v := 0) hx hb dX9_arrivalOf_81 (by decide) ?_
      refine lv_istore (lv' := [(6, .int 0), (5, .int (fw_ri M 379 ((51 + (3 * a1)) + 2))), (4, .int (fw_ri M 379 ((51 + (3 * a1)) + 1))), (3, .int (51 + (3 * a1))), (0, .ref (fw_ad X 378)), (1, .int a1), (2, .int a2)]) hx hb dX9_arrivalOf_82 hl (by decide) rfl (fun ls hl => ?_)
      exact hJ84 64 (51 + (3 * a1)) (fw_ri M 379 ((51 + (3 * a1)) + 1)) (fw_ri M 379 ((51 + (3 * a1)) + 2)) 0 M _ _ _ hF B (lv_sub hl [4, 5, 6, 3, 2, 1, 0] rfl)
    · have hF := it_f hF c12
      refine lv_iconst (v := 0) hx hb dX9_arrivalOf_52 (by decide) ?_
      exact fr_iret C B hr rfl hlk (by rw [← Option.some.inj hF]) (Nat.le_of_ble_eq_true rfl) (Nat.le_of_ble_eq_true rfl) dX9_arrivalOf_53
  unfold F_X9_arrivalOf at hF
  refine lv_aload_n hx hb dX9_arrivalOf_0 rfl (lv_at hl 0 rfl) ?_
  refine lv_iload_n hx hb dX9_arrivalOf_1 rfl (lv_at hl 1 rfl) ?_
  obtain ⟨r16, hf15, hF⟩ := bx_e hF
  refine fr_cVi (As := [.int a1]) (rest := []) C B (cm_X9_isTram hf15) ob_9 rfl yw_X9_isTram wm_X9_108 rfl hl.1 rfl (Nat.le_of_ble_eq_true rfl) ⟨Nat.le_of_ble_eq_true rfl, Nat.le_of_ble_eq_true rfl⟩ ⟨Nat.le_of_ble_eq_true rfl, Nat.le_of_ble_eq_true rfl⟩ dX9_arrivalOf_2 (fr_nx rfl) (fun r9 M9 H locs ho9 B => ?_)
  obtain ⟨rfl, rfl⟩ := oi_e ho9
  refine lv_if_eq (tgt := 16) hx hb dX9_arrivalOf_5 (by decide) (fun c18 => ?_) (fun c18 => ?_)
  · have hF := it_t hF c18
    refine lv_aload_n hx hb dX9_arrivalOf_16 rfl (lv_at hl 0 rfl) ?_
    refine lv_iconst (v := 1) hx hb dX9_arrivalOf_17 (by decide) ?_
    obtain ⟨r20, M21, hf19, hF⟩ := bp_e hF
    refine fr_cVi (As := [.int 1]) (rest := []) C B (cm_X9_fails hf19) ob_9 rfl yw_X9_fails wm_X9_63 rfl hl.1 rfl (Nat.le_of_ble_eq_true rfl) ⟨Nat.le_of_ble_eq_true rfl, Nat.le_of_ble_eq_true rfl⟩ ⟨Nat.le_of_ble_eq_true rfl, Nat.le_of_ble_eq_true rfl⟩ dX9_arrivalOf_18 (fr_nx rfl) (fun r9 M9 H locs ho9 B => ?_)
    obtain ⟨rfl, rfl⟩ := oi_e ho9
    exact fr_iret C B hr rfl hlk (by rw [← Option.some.inj hF]) (Nat.le_of_ble_eq_true rfl) (Nat.le_of_ble_eq_true rfl) dX9_arrivalOf_21
  · have hF := it_f hF c18
    refine lv_aload_n hx hb dX9_arrivalOf_8 rfl (lv_at hl 0 rfl) ?_
    refine lv_iload_n hx hb dX9_arrivalOf_9 rfl (lv_at hl 2 rfl) ?_
    obtain ⟨r23, hf22, hF⟩ := bx_e hF
    refine fr_cVi (As := [.int a2]) (rest := []) C B (cm_X9_isStop hf22) ob_9 rfl yw_X9_isStop wm_X9_75 rfl hl.1 rfl (Nat.le_of_ble_eq_true rfl) ⟨Nat.le_of_ble_eq_true rfl, Nat.le_of_ble_eq_true rfl⟩ ⟨Nat.le_of_ble_eq_true rfl, Nat.le_of_ble_eq_true rfl⟩ dX9_arrivalOf_10 (fr_nx rfl) (fun r9 M9 H locs ho9 B => ?_)
    obtain ⟨rfl, rfl⟩ := oi_e ho9
    refine lv_if_ne (tgt := 22) hx hb dX9_arrivalOf_13 (by decide) (fun c25 => ?_) (fun c25 => ?_)
    · have hF := it_t hF c25
      refine lv_aload_n hx hb dX9_arrivalOf_22 rfl (lv_at hl 0 rfl) ?_
      refine lv_aload_n hx hb dX9_arrivalOf_23 rfl (lv_at hl 0 rfl) ?_
      refine lv_aload_n hx hb dX9_arrivalOf_24 rfl (lv_at hl 0 rfl) ?_
      refine lv_iload_n hx hb dX9_arrivalOf_25 rfl (lv_at hl 1 rfl) ?_
      refine lv_iconst (v := 0) hx hb dX9_arrivalOf_26 (by decide) ?_
      obtain ⟨r27, hf26, hF⟩ := bx_e hF
      refine fr_cVi (As := [.int a1, .int 0]) (rest := [.ref (fw_ad X 378), .ref (fw_ad X 378)]) C B (cm_X9_ofTram hf26) ob_9 rfl yw_X9_ofTram wm_X9_111 rfl hl.1 rfl (Nat.le_of_ble_eq_true rfl) ⟨Nat.le_of_ble_eq_true rfl, Nat.le_of_ble_eq_true rfl⟩ ⟨Nat.le_of_ble_eq_true rfl, Nat.le_of_ble_eq_true rfl⟩ dX9_arrivalOf_27 (fr_nx rfl) (fun r9 M9 H locs ho9 B => ?_)
      obtain ⟨rfl, rfl⟩ := oi_e ho9
      refine lv_iload_n hx hb dX9_arrivalOf_30 rfl (lv_at hl 2 rfl) ?_
      obtain ⟨r30, hf29, hF⟩ := bx_e hF
      refine fr_cVi (As := [.int r27, .int a2]) (rest := [.ref (fw_ad X 378)]) C B (cm_X9_positionOf hf29) ob_9 rfl yw_X9_positionOf wm_X9_85 rfl hl.1 rfl (Nat.le_of_ble_eq_true rfl) ⟨Nat.le_of_ble_eq_true rfl, Nat.le_of_ble_eq_true rfl⟩ ⟨Nat.le_of_ble_eq_true rfl, Nat.le_of_ble_eq_true rfl⟩ dX9_arrivalOf_31 (fr_nx rfl) (fun r9 M9 H locs ho9 B => ?_)
      obtain ⟨rfl, rfl⟩ := oi_e ho9
      refine lv_if_ge (tgt := 41) hx hb dX9_arrivalOf_34 (by decide) (fun c32 => ?_) (fun c32 => ?_)
      · have hF := it_t hF c32
        refine lv_iconst (v := 0) hx hb dX9_arrivalOf_41 (by decide) ?_
        refine pf_X9_39 C B dX9_arrivalOf_42 (fun H locs B => ?_)
        obtain ⟨M33, eM33, hF⟩ := lt_e hF
        rw [← eM33] at B
        exact hJ45 M33 _ _ _ hF B (lv_sub hl [0, 1, 2] rfl)
      · have hF := it_f hF c32
        refine lv_iconst (v := 2) hx hb dX9_arrivalOf_37 (by decide) ?_
        refine lv_goto (tgt := 42) hx hb dX9_arrivalOf_38 (by decide) ?_
        refine pf_X9_39 C B dX9_arrivalOf_42 (fun H locs B => ?_)
        obtain ⟨M34, eM34, hF⟩ := lt_e hF
        rw [← eM34] at B
        exact hJ45 M34 _ _ _ hF B (lv_sub hl [0, 1, 2] rfl)
    · have hF := it_f hF (not_not_intro c25)
      refine lv_aload_n hx hb dX9_arrivalOf_16 rfl (lv_at hl 0 rfl) ?_
      refine lv_iconst (v := 1) hx hb dX9_arrivalOf_17 (by decide) ?_
      obtain ⟨r36, M37, hf35, hF⟩ := bp_e hF
      refine fr_cVi (As := [.int 1]) (rest := []) C B (cm_X9_fails hf35) ob_9 rfl yw_X9_fails wm_X9_63 rfl hl.1 rfl (Nat.le_of_ble_eq_true rfl) ⟨Nat.le_of_ble_eq_true rfl, Nat.le_of_ble_eq_true rfl⟩ ⟨Nat.le_of_ble_eq_true rfl, Nat.le_of_ble_eq_true rfl⟩ dX9_arrivalOf_18 (fr_nx rfl) (fun r9 M9 H locs ho9 B => ?_)
      obtain ⟨rfl, rfl⟩ := oi_e ho9
      exact fr_iret C B hr rfl hlk (by rw [← Option.some.inj hF]) (Nat.le_of_ble_eq_true rfl) (Nat.le_of_ble_eq_true rfl) dX9_arrivalOf_21
def F_X9_arrivalBySimulation (M : fw_M) (a1 : Int32) (a2 : Int32) : Option (Int32 × fw_M) :=
  bd_p (F_X9_arrivalOf M a1 a2) fun r2 M3 =>
  some (r2, M3)
set_option maxHeartbeats 4000000 in
set_option maxRecDepth 100000 in
theorem cm_X9_arrivalBySimulation {l : Launch} {X : fw_X} {M : fw_M} {a1 : Int32} {a2 : Int32}  {o : Int32 × fw_M} (hF : F_X9_arrivalBySimulation M a1 a2 = some o) : ct_i l X yX9_arrivalBySimulation cX9_arrivalBySimulation 3 (some .int) ({ frames := 3, cells := 0, slots := 0, locals := 73 } : Room) M [.ref (fw_ad X 378), .int a1, .int a2] (.inl o.1, o.2) := by
  refine fw_open rfl (Nat.le_of_ble_eq_true rfl) (fun p e s m below meth c ls C hr hlk hnm hex hl B => ?_)
  have C : fr_C X p c cX9_arrivalBySimulation 3 RX9 s m ([.ref (fw_ad X 378), .int a1, .int a2] : List Value).toArray := C
  have hx := C.1.1
  have hb := C.1.2.1
  have hl : lv_has ls 3 [(0, .ref (fw_ad X 378)), (1, .int a1), (2, .int a2)] := hl
  unfold F_X9_arrivalBySimulation at hF
  refine lv_aload_n hx hb dX9_arrivalBySimulation_0 rfl (lv_at hl 0 rfl) ?_
  refine lv_iload_n hx hb dX9_arrivalBySimulation_1 rfl (lv_at hl 1 rfl) ?_
  refine lv_iload_n hx hb dX9_arrivalBySimulation_2 rfl (lv_at hl 2 rfl) ?_
  obtain ⟨r2, M3, hf1, hF⟩ := bp_e hF
  refine fr_cVi (As := [.int a1, .int a2]) (rest := []) C B (cm_X9_arrivalOf hf1) ob_9 rfl yw_X9_arrivalOf wm_X9_123 rfl hl.1 rfl (Nat.le_of_ble_eq_true rfl) ⟨Nat.le_of_ble_eq_true rfl, Nat.le_of_ble_eq_true rfl⟩ ⟨Nat.le_of_ble_eq_true rfl, Nat.le_of_ble_eq_true rfl⟩ dX9_arrivalBySimulation_3 (fr_nx rfl) (fun r9 M9 H locs ho9 B => ?_)
  obtain ⟨rfl, rfl⟩ := oi_e ho9
  exact fr_iret C B hr rfl hlk (by rw [← Option.some.inj hF]) (Nat.le_of_ble_eq_true rfl) (Nat.le_of_ble_eq_true rfl) dX9_arrivalBySimulation_6
def F_X9_ofPassenger (M : fw_M) (a1 : Int32) (a2 : Int32) : Option (Int32) :=
  if ix_i ((69 + (6 * a1)) + a2) 129 then
  some (fw_ri M 379 ((69 + (6 * a1)) + a2))
  else none
set_option maxHeartbeats 4000000 in
set_option maxRecDepth 100000 in
theorem cm_X9_ofPassenger {l : Launch} {X : fw_X} {M : fw_M} {a1 : Int32} {a2 : Int32}  {o : Int32} (hF : F_X9_ofPassenger M a1 a2 = some o) : ct_i l X yX9_ofPassenger cX9_ofPassenger 3 (some .int) ({ frames := 0, cells := 0, slots := 0, locals := 0 } : Room) M [.ref (fw_ad X 378), .int a1, .int a2] (.inl o, M) := by
  refine fw_open rfl (Nat.le_of_ble_eq_true rfl) (fun p e s m below meth c ls C hr hlk hnm hex hl B => ?_)
  have C : fr_C X p c cX9_ofPassenger 3 RX9 s m ([.ref (fw_ad X 378), .int a1, .int a2] : List Value).toArray := C
  have hx := C.1.1
  have hb := C.1.2.1
  have hl : lv_has ls 3 [(0, .ref (fw_ad X 378)), (1, .int a1), (2, .int a2)] := hl
  unfold F_X9_ofPassenger at hF
  refine lv_aload_n hx hb dX9_ofPassenger_0 rfl (lv_at hl 0 rfl) ?_
  refine gf_X9_9 C B dX9_ofPassenger_1 ?_
  refine lv_bipush (v := 69) hx hb dX9_ofPassenger_4 (by decide) ?_
  refine lv_bipush (v := 6) hx hb dX9_ofPassenger_6 (by decide) ?_
  refine lv_iload_n hx hb dX9_ofPassenger_8 rfl (lv_at hl 1 rfl) ?_
  refine lv_imul hx hb dX9_ofPassenger_9 ?_
  refine lv_iadd hx hb dX9_ofPassenger_10 ?_
  refine lv_iload_n hx hb dX9_ofPassenger_11 rfl (lv_at hl 2 rfl) ?_
  refine lv_iadd hx hb dX9_ofPassenger_12 ?_
  obtain ⟨c1, hF⟩ := of_g hF
  refine fr_ia C B ar_9_379 c1 dX9_ofPassenger_13 ?_
  exact fr_iret C B hr rfl hlk (by rw [← Option.some.inj hF]) (Nat.le_of_ble_eq_true rfl) (Nat.le_of_ble_eq_true rfl) dX9_ofPassenger_14
def F_X9_sets (M : fw_M) (a1 : Int32) (a2 : Int32) (a3 : Int32) : Option (fw_M) :=
  if ix_i ((69 + (6 * a1)) + a2) 129 then
  lt_x (fw_wi M 379 ((69 + (6 * a1)) + a2) a3) fun M2 =>
  some M2
  else none
set_option maxHeartbeats 4000000 in
set_option maxRecDepth 100000 in
theorem cm_X9_sets {l : Launch} {X : fw_X} {M : fw_M} {a1 : Int32} {a2 : Int32} {a3 : Int32}  {o : fw_M} (hF : F_X9_sets M a1 a2 a3 = some o) : ct_v l X yX9_sets cX9_sets 4 none ({ frames := 0, cells := 0, slots := 0, locals := 0 } : Room) M [.ref (fw_ad X 378), .int a1, .int a2, .int a3] (.inl 0, o) := by
  refine fw_open rfl (Nat.le_of_ble_eq_true rfl) (fun p e s m below meth c ls C hr hlk hnm hex hl B => ?_)
  have C : fr_C X p c cX9_sets 4 RX9 s m ([.ref (fw_ad X 378), .int a1, .int a2, .int a3] : List Value).toArray := C
  have hx := C.1.1
  have hb := C.1.2.1
  have hl : lv_has ls 4 [(0, .ref (fw_ad X 378)), (1, .int a1), (2, .int a2), (3, .int a3)] := hl
  unfold F_X9_sets at hF
  refine lv_aload_n hx hb dX9_sets_0 rfl (lv_at hl 0 rfl) ?_
  refine gf_X9_9 C B dX9_sets_1 ?_
  refine lv_bipush (v := 69) hx hb dX9_sets_4 (by decide) ?_
  refine lv_bipush (v := 6) hx hb dX9_sets_6 (by decide) ?_
  refine lv_iload_n hx hb dX9_sets_8 rfl (lv_at hl 1 rfl) ?_
  refine lv_imul hx hb dX9_sets_9 ?_
  refine lv_iadd hx hb dX9_sets_10 ?_
  refine lv_iload_n hx hb dX9_sets_11 rfl (lv_at hl 2 rfl) ?_
  refine lv_iadd hx hb dX9_sets_12 ?_
  refine lv_iload_n hx hb dX9_sets_13 rfl (lv_at hl 3 rfl) ?_
  obtain ⟨c1, hF⟩ := of_g hF
  refine fr_is C B ar_9_379 c1 dX9_sets_14 (fun H locs B => ?_)
  obtain ⟨M2, eM2, hF⟩ := lt_e hF
  rw [← eM2] at B
  exact fr_vret C B hr hlk (by rw [← Option.some.inj hF]) (Nat.le_of_ble_eq_true rfl) (Nat.le_of_ble_eq_true rfl) dX9_sets_15
def F_X9_doAddPassenger (M : fw_M) (a1 : Int32) : Option (Int32 × fw_M) :=
  if ix_i 3 129 then
  bd_x (F_X9_isStop M a1) fun r3 =>
  if ¬ r3 = 0 then
    if ¬ (fw_ri M 379 3) = 8 then
      bd_x (F_X9_sets M (fw_ri M 379 3) 0 a1) fun M9 =>
      bd_x (F_X9_sets M9 (fw_ri M 379 3) 1 (-1)) fun M12 =>
      bd_x (F_X9_sets M12 (fw_ri M 379 3) 2 0) fun M15 =>
      bd_x (F_X9_sets M15 (fw_ri M 379 3) 3 0) fun M18 =>
      bd_x (F_X9_sets M18 (fw_ri M 379 3) 4 (-1)) fun M21 =>
      bd_x (F_X9_sets M21 (fw_ri M 379 3) 5 0) fun M24 =>
      lt_x (fw_wi M24 379 3 ((fw_ri M24 379 3) + 1)) fun M25 =>
      some ((fw_ri M 379 3), M25)
    else
      bd_p (F_X9_fails M 2) fun r27 M28 =>
      some (r27, M28)
  else
    bd_p (F_X9_fails M 1) fun r30 M31 =>
    some (r30, M31)
  else none
set_option maxHeartbeats 4000000 in
set_option maxRecDepth 100000 in
theorem cm_X9_doAddPassenger {l : Launch} {X : fw_X} {M : fw_M} {a1 : Int32}  {o : Int32 × fw_M} (hF : F_X9_doAddPassenger M a1 = some o) : ct_i l X yX9_doAddPassenger cX9_doAddPassenger 3 (some .int) ({ frames := 2, cells := 0, slots := 0, locals := 43 } : Room) M [.ref (fw_ad X 378), .int a1] (.inl o.1, o.2) := by
  refine fw_open rfl (Nat.le_of_ble_eq_true rfl) (fun p e s m below meth c ls C hr hlk hnm hex hl B => ?_)
  have C : fr_C X p c cX9_doAddPassenger 3 RX9 s m ([.ref (fw_ad X 378), .int a1] : List Value).toArray := C
  have hx := C.1.1
  have hb := C.1.2.1
  have hl : lv_has ls 3 [(0, .ref (fw_ad X 378)), (1, .int a1)] := hl
  unfold F_X9_doAddPassenger at hF
  refine lv_aload_n hx hb dX9_doAddPassenger_0 rfl (lv_at hl 0 rfl) ?_
  refine gf_X9_9 C B dX9_doAddPassenger_1 ?_
  refine lv_iconst (v := 3) hx hb dX9_doAddPassenger_4 (by decide) ?_
  obtain ⟨c1, hF⟩ := of_g hF
  refine fr_ia C B ar_9_379 c1 dX9_doAddPassenger_5 ?_
  refine lv_istore_n (lv' := [(2, .int (fw_ri M 379 3)), (0, .ref (fw_ad X 378)), (1, .int a1)]) hx hb dX9_doAddPassenger_6 rfl hl (by decide) rfl (fun ls hl => ?_)
  refine lv_aload_n hx hb dX9_doAddPassenger_7 rfl (lv_at hl 1 rfl) ?_
  refine lv_iload_n hx hb dX9_doAddPassenger_8 rfl (lv_at hl 2 rfl) ?_
  obtain ⟨r3, hf2, hF⟩ := bx_e hF
  refine fr_cVi (As := [.int a1]) (rest := []) C B (cm_X9_isStop hf2) ob_9 rfl yw_X9_isStop wm_X9_75 rfl hl.1 rfl (Nat.le_of_ble_eq_true rfl) ⟨Nat.le_of_ble_eq_true rfl, Nat.le_of_ble_eq_true rfl⟩ ⟨Nat.le_of_ble_eq_true rfl, Nat.le_of_ble_eq_true rfl⟩ dX9_doAddPassenger_9 (fr_nx rfl) (fun r9 M9 H locs ho9 B => ?_)
  obtain ⟨rfl, rfl⟩ := oi_e ho9
  refine lv_if_ne (tgt := 21) hx hb dX9_doAddPassenger_12 (by decide) (fun c5 => ?_) (fun c5 => ?_)
  · have hF := it_t hF c5
    refine lv_iload_n hx hb dX9_doAddPassenger_21 rfl (lv_at hl 0 rfl) ?_
    refine lv_bipush (v := 8) hx hb dX9_doAddPassenger_22 (by decide) ?_
    refine lv_icmp_ne (tgt := 33) hx hb dX9_doAddPassenger_24 (by decide) (fun c6 => ?_) (fun c6 => ?_)
    · have hF := it_t hF c6
      refine lv_aload_n hx hb dX9_doAddPassenger_33 rfl (lv_at hl 1 rfl) ?_
      refine lv_iload_n hx hb dX9_doAddPassenger_34 rfl (lv_at hl 0 rfl) ?_
      refine lv_iconst (v := 0) hx hb dX9_doAddPassenger_35 (by decide) ?_
      refine lv_iload_n hx hb dX9_doAddPassenger_36 rfl (lv_at hl 2 rfl) ?_
      obtain ⟨M9, hf7, hF⟩ := bx_e hF
      refine fr_cVv (As := [.int (fw_ri M 379 3), .int 0, .int a1]) (rest := []) C B (cm_X9_sets hf7) ob_9 rfl yw_X9_sets wm_X9_126 rfl hl.1 rfl (Nat.le_of_ble_eq_true rfl) ⟨Nat.le_of_ble_eq_true rfl, Nat.le_of_ble_eq_true rfl⟩ ⟨Nat.le_of_ble_eq_true rfl, Nat.le_of_ble_eq_true rfl⟩ dX9_doAddPassenger_37 (fr_nx rfl) (fun M9 H locs ho9 B => ?_)
      obtain ⟨-, rfl⟩ := oi_e ho9
      refine lv_aload_n hx hb dX9_doAddPassenger_40 rfl (lv_at hl 1 rfl) ?_
      refine lv_iload_n hx hb dX9_doAddPassenger_41 rfl (lv_at hl 0 rfl) ?_
      refine lv_iconst (v := 1) hx hb dX9_doAddPassenger_42 (by decide) ?_
      refine lv_iconst (v := (-1)) hx hb dX9_doAddPassenger_43 (by decide) ?_
      obtain ⟨M12, hf10, hF⟩ := bx_e hF
      refine fr_cVv (As := [.int (fw_ri M 379 3), .int 1, .int (-1)]) (rest := []) C B (cm_X9_sets hf10) ob_9 rfl yw_X9_sets wm_X9_126 rfl hl.1 rfl (Nat.le_of_ble_eq_true rfl) ⟨Nat.le_of_ble_eq_true rfl, Nat.le_of_ble_eq_true rfl⟩ ⟨Nat.le_of_ble_eq_true rfl, Nat.le_of_ble_eq_true rfl⟩ dX9_doAddPassenger_44 (fr_nx rfl) (fun M9 H locs ho9 B => ?_)
      obtain ⟨-, rfl⟩ := oi_e ho9
      refine lv_aload_n hx hb dX9_doAddPassenger_47 rfl (lv_at hl 1 rfl) ?_
      refine lv_iload_n hx hb dX9_doAddPassenger_48 rfl (lv_at hl 0 rfl) ?_
      refine lv_iconst (v := 2) hx hb dX9_doAddPassenger_49 (by decide) ?_
      refine lv_iconst (v := 0) hx hb dX9_doAddPassenger_50 (by decide) ?_
      obtain ⟨M15, hf13, hF⟩ := bx_e hF
      refine fr_cVv (As := [.int (fw_ri M 379 3), .int 2, .int 0]) (rest := []) C B (cm_X9_sets hf13) ob_9 rfl yw_X9_sets wm_X9_126 rfl hl.1 rfl (Nat.le_of_ble_eq_true rfl) ⟨Nat.le_of_ble_eq_true rfl, Nat.le_of_ble_eq_true rfl⟩ ⟨Nat.le_of_ble_eq_true rfl, Nat.le_of_ble_eq_true rfl⟩ dX9_doAddPassenger_51 (fr_nx rfl) (fun M9 H locs ho9 B => ?_)
      obtain ⟨-, rfl⟩ := oi_e ho9
      refine lv_aload_n hx hb dX9_doAddPassenger_54 rfl (lv_at hl 1 rfl) ?_
      refine lv_iload_n hx hb dX9_doAddPassenger_55 rfl (lv_at hl 0 rfl) ?_
      refine lv_iconst (v := 3) hx hb dX9_doAddPassenger_56 (by decide) ?_
      refine lv_iconst (v := 0) hx hb dX9_doAddPassenger_57 (by decide) ?_
      obtain ⟨M18, hf16, hF⟩ := bx_e hF
      refine fr_cVv (As := [.int (fw_ri M 379 3), .int 3, .int 0]) (rest := []) C B (cm_X9_sets hf16) ob_9 rfl yw_X9_sets wm_X9_126 rfl hl.1 rfl (Nat.le_of_ble_eq_true rfl) ⟨Nat.le_of_ble_eq_true rfl, Nat.le_of_ble_eq_true rfl⟩ ⟨Nat.le_of_ble_eq_true rfl, Nat.le_of_ble_eq_true rfl⟩ dX9_doAddPassenger_58 (fr_nx rfl) (fun M9 H locs ho9 B => ?_)
      obtain ⟨-, rfl⟩ := oi_e ho9
      refine lv_aload_n hx hb dX9_doAddPassenger_61 rfl (lv_at hl 1 rfl) ?_
      refine lv_iload_n hx hb dX9_doAddPassenger_62 rfl (lv_at hl 0 rfl) ?_
      refine lv_iconst (v := 4) hx hb dX9_doAddPassenger_63 (by decide) ?_
      refine lv_iconst (v := (-1)) hx hb dX9_doAddPassenger_64 (by decide) ?_
      obtain ⟨M21, hf19, hF⟩ := bx_e hF
      refine fr_cVv (As := [.int (fw_ri M 379 3), .int 4, .int (-1)]) (rest := []) C B (cm_X9_sets hf19) ob_9 rfl yw_X9_sets wm_X9_126 rfl hl.1 rfl (Nat.le_of_ble_eq_true rfl) ⟨Nat.le_of_ble_eq_true rfl, Nat.le_of_ble_eq_true rfl⟩ ⟨Nat.le_of_ble_eq_true rfl, Nat.le_of_ble_eq_true rfl⟩ dX9_doAddPassenger_65 (fr_nx rfl) (fun M9 H locs ho9 B => ?_)
      obtain ⟨-, rfl⟩ := oi_e ho9
      refine lv_aload_n hx hb dX9_doAddPassenger_68 rfl (lv_at hl 1 rfl) ?_
      refine lv_iload_n hx hb dX9_doAddPassenger_69 rfl (lv_at hl 0 rfl) ?_
      refine lv_iconst (v := 5) hx hb dX9_doAddPassenger_70 (by decide) ?_
      refine lv_iconst (v := 0) hx hb dX9_doAddPassenger_71 (by decide) ?_
      obtain ⟨M24, hf22, hF⟩ := bx_e hF
      refine fr_cVv (As := [.int (fw_ri M 379 3), .int 5, .int 0]) (rest := []) C B (cm_X9_sets hf22) ob_9 rfl yw_X9_sets wm_X9_126 rfl hl.1 rfl (Nat.le_of_ble_eq_true rfl) ⟨Nat.le_of_ble_eq_true rfl, Nat.le_of_ble_eq_true rfl⟩ ⟨Nat.le_of_ble_eq_true rfl, Nat.le_of_ble_eq_true rfl⟩ dX9_doAddPassenger_72 (fr_nx rfl) (fun M9 H locs ho9 B => ?_)
      obtain ⟨-, rfl⟩ := oi_e ho9
      refine lv_aload_n hx hb dX9_doAddPassenger_75 rfl (lv_at hl 1 rfl) ?_
      refine gf_X9_9 C B dX9_doAddPassenger_76 ?_
      refine lv_iconst (v := 3) hx hb dX9_doAddPassenger_79 (by decide) ?_
      refine lv_dup2_11 hx hb dX9_doAddPassenger_80 rfl rfl ?_
      refine fr_ia C B ar_9_379 c1 dX9_doAddPassenger_81 ?_
      refine lv_iconst (v := 1) hx hb dX9_doAddPassenger_82 (by decide) ?_
      refine lv_iadd hx hb dX9_doAddPassenger_83 ?_
      refine fr_is C B ar_9_379 c1 dX9_doAddPassenger_84 (fun H locs B => ?_)
      obtain ⟨M25, eM25, hF⟩ := lt_e hF
      rw [← eM25] at B
      refine lv_iload_n hx hb dX9_doAddPassenger_85 rfl (lv_at hl 0 rfl) ?_
      exact fr_iret C B hr rfl hlk (by rw [← Option.some.inj hF]) (Nat.le_of_ble_eq_true rfl) (Nat.le_of_ble_eq_true rfl) dX9_doAddPassenger_86
    · have hF := it_f hF (not_not_intro c6)
      refine lv_aload_n hx hb dX9_doAddPassenger_27 rfl (lv_at hl 1 rfl) ?_
      refine lv_iconst (v := 2) hx hb dX9_doAddPassenger_28 (by decide) ?_
      obtain ⟨r27, M28, hf26, hF⟩ := bp_e hF
      refine fr_cVi (As := [.int 2]) (rest := []) C B (cm_X9_fails hf26) ob_9 rfl yw_X9_fails wm_X9_63 rfl hl.1 rfl (Nat.le_of_ble_eq_true rfl) ⟨Nat.le_of_ble_eq_true rfl, Nat.le_of_ble_eq_true rfl⟩ ⟨Nat.le_of_ble_eq_true rfl, Nat.le_of_ble_eq_true rfl⟩ dX9_doAddPassenger_29 (fr_nx rfl) (fun r9 M9 H locs ho9 B => ?_)
      obtain ⟨rfl, rfl⟩ := oi_e ho9
      exact fr_iret C B hr rfl hlk (by rw [← Option.some.inj hF]) (Nat.le_of_ble_eq_true rfl) (Nat.le_of_ble_eq_true rfl) dX9_doAddPassenger_32
  · have hF := it_f hF (not_not_intro c5)
    refine lv_aload_n hx hb dX9_doAddPassenger_15 rfl (lv_at hl 1 rfl) ?_
    refine lv_iconst (v := 1) hx hb dX9_doAddPassenger_16 (by decide) ?_
    obtain ⟨r30, M31, hf29, hF⟩ := bp_e hF
    refine fr_cVi (As := [.int 1]) (rest := []) C B (cm_X9_fails hf29) ob_9 rfl yw_X9_fails wm_X9_63 rfl hl.1 rfl (Nat.le_of_ble_eq_true rfl) ⟨Nat.le_of_ble_eq_true rfl, Nat.le_of_ble_eq_true rfl⟩ ⟨Nat.le_of_ble_eq_true rfl, Nat.le_of_ble_eq_true rfl⟩ dX9_doAddPassenger_17 (fr_nx rfl) (fun r9 M9 H locs ho9 B => ?_)
    obtain ⟨rfl, rfl⟩ := oi_e ho9
    exact fr_iret C B hr rfl hlk (by rw [← Option.some.inj hF]) (Nat.le_of_ble_eq_true rfl) (Nat.le_of_ble_eq_true rfl) dX9_doAddPassenger_20
def F_X9_addPassenger (M : fw_M) (a1 : Int32) : Option (Int32 × fw_M) :=
  bd_x (F_X9_keep M) fun M3 =>
  bd_p (F_X9_doAddPassenger M3 a1) fun r5 M6 =>
  bd_p (F_X9_ends M6 r5) fun r8 M9 =>
  some (r8, M9)
set_option maxHeartbeats 4000000 in
set_option maxRecDepth 100000 in
theorem cm_X9_addPassenger {l : Launch} {X : fw_X} {M : fw_M} {a1 : Int32}  {o : Int32 × fw_M} (hF : F_X9_addPassenger M a1 = some o) : ct_i l X yX9_addPassenger cX9_addPassenger 2 (some .int) ({ frames := 3, cells := 0, slots := 0, locals := 81 } : Room) M [.ref (fw_ad X 378), .int a1] (.inl o.1, o.2) := by
  refine fw_open rfl (Nat.le_of_ble_eq_true rfl) (fun p e s m below meth c ls C hr hlk hnm hex hl B => ?_)
  have C : fr_C X p c cX9_addPassenger 2 RX9 s m ([.ref (fw_ad X 378), .int a1] : List Value).toArray := C
  have hx := C.1.1
  have hb := C.1.2.1
  have hl : lv_has ls 2 [(0, .ref (fw_ad X 378)), (1, .int a1)] := hl
  unfold F_X9_addPassenger at hF
  refine lv_aload_n hx hb dX9_addPassenger_0 rfl (lv_at hl 0 rfl) ?_
  obtain ⟨M3, hf1, hF⟩ := bx_e hF
  refine fr_cVv (As := []) (rest := []) C B (cm_X9_keep hf1) ob_9 rfl yw_X9_keep wm_X9_66 rfl hl.1 rfl (Nat.le_of_ble_eq_true rfl) ⟨Nat.le_of_ble_eq_true rfl, Nat.le_of_ble_eq_true rfl⟩ ⟨Nat.le_of_ble_eq_true rfl, Nat.le_of_ble_eq_true rfl⟩ dX9_addPassenger_1 (fr_nx rfl) (fun M9 H locs ho9 B => ?_)
  obtain ⟨-, rfl⟩ := oi_e ho9
  refine lv_aload_n hx hb dX9_addPassenger_4 rfl (lv_at hl 0 rfl) ?_
  refine lv_aload_n hx hb dX9_addPassenger_5 rfl (lv_at hl 0 rfl) ?_
  refine lv_iload_n hx hb dX9_addPassenger_6 rfl (lv_at hl 1 rfl) ?_
  obtain ⟨r5, M6, hf4, hF⟩ := bp_e hF
  refine fr_cVi (As := [.int a1]) (rest := [.ref (fw_ad X 378)]) C B (cm_X9_doAddPassenger hf4) ob_9 rfl yw_X9_doAddPassenger wm_X9_130 rfl hl.1 rfl (Nat.le_of_ble_eq_true rfl) ⟨Nat.le_of_ble_eq_true rfl, Nat.le_of_ble_eq_true rfl⟩ ⟨Nat.le_of_ble_eq_true rfl, Nat.le_of_ble_eq_true rfl⟩ dX9_addPassenger_7 (fr_nx rfl) (fun r9 M9 H locs ho9 B => ?_)
  obtain ⟨rfl, rfl⟩ := oi_e ho9
  obtain ⟨r8, M9, hf7, hF⟩ := bp_e hF
  refine fr_cVi (As := [.int r5]) (rest := []) C B (cm_X9_ends hf7) ob_9 rfl yw_X9_ends wm_X9_72 rfl hl.1 rfl (Nat.le_of_ble_eq_true rfl) ⟨Nat.le_of_ble_eq_true rfl, Nat.le_of_ble_eq_true rfl⟩ ⟨Nat.le_of_ble_eq_true rfl, Nat.le_of_ble_eq_true rfl⟩ dX9_addPassenger_10 (fr_nx rfl) (fun r9 M9 H locs ho9 B => ?_)
  obtain ⟨rfl, rfl⟩ := oi_e ho9
  exact fr_iret C B hr rfl hlk (by rw [← Option.some.inj hF]) (Nat.le_of_ble_eq_true rfl) (Nat.le_of_ble_eq_true rfl) dX9_addPassenger_13
def F_X9_doSellTicket (M : fw_M) (a1 : Int32) (a2 : Int32) (a3 : Int32) : Option (Int32 × fw_M) :=
  bd_x (F_X9_isPassenger M a1) fun r2 =>
  if ¬ r2 = 0 then
    bd_x (F_X9_in M a2 0 3) fun r6 =>
    if r6 = 0 then
      bd_p (F_X9_fails M 2) fun r10 M11 =>
      some (r10, M11)
    else
      bd_x (F_X9_in M a3 1 9) fun r13 =>
      if ¬ r13 = 0 then
        bd_x (F_X9_ofPassenger M a1 3) fun r17 =>
        if (r17 + a3) ≤ 20 then
          bd_x (F_X9_ofPassenger M a1 2) fun r21 =>
          bd_x (F_X9_sets M a1 2 (r21 ||| (1 <<< (a2 &&& 31)))) fun M25 =>
          bd_x (F_X9_sets M25 a1 3 (r17 + a3)) fun M28 =>
          some ((r17 + a3), M28)
        else
          bd_p (F_X9_fails M 3) fun r30 M31 =>
          some (r30, M31)
      else
        bd_p (F_X9_fails M 2) fun r33 M34 =>
        some (r33, M34)
  else
    bd_p (F_X9_fails M 1) fun r36 M37 =>
    some (r36, M37)
set_option maxHeartbeats 4000000 in
set_option maxRecDepth 100000 in
theorem cm_X9_doSellTicket {l : Launch} {X : fw_X} {M : fw_M} {a1 : Int32} {a2 : Int32} {a3 : Int32}  {o : Int32 × fw_M} (hF : F_X9_doSellTicket M a1 a2 a3 = some o) : ct_i l X yX9_doSellTicket cX9_doSellTicket 5 (some .int) ({ frames := 2, cells := 0, slots := 0, locals := 43 } : Room) M [.ref (fw_ad X 378), .int a1, .int a2, .int a3] (.inl o.1, o.2) := by
  refine fw_open rfl (Nat.le_of_ble_eq_true rfl) (fun p e s m below meth c ls C hr hlk hnm hex hl B => ?_)
  have C : fr_C X p c cX9_doSellTicket 5 RX9 s m ([.ref (fw_ad X 378), .int a1, .int a2, .int a3] : List Value).toArray := C
  have hx := C.1.1
  have hb := C.1.2.1
  have hl : lv_has ls 5 [(0, .ref (fw_ad X 378)), (1, .int a1), (2, .int a2), (3, .int a3)] := hl
  unfold F_X9_doSellTicket at hF
  refine lv_aload_n hx hb dX9_doSellTicket_0 rfl (lv_at hl 0 rfl) ?_
  refine lv_iload_n hx hb dX9_doSellTicket_1 rfl (lv_at hl 1 rfl) ?_
  obtain ⟨r2, hf1, hF⟩ := bx_e hF
  refine fr_cVi (As := [.int a1]) (rest := []) C B (cm_X9_isPassenger hf1) ob_9 rfl yw_X9_isPassenger wm_X9_133 rfl hl.1 rfl (Nat.le_of_ble_eq_true rfl) ⟨Nat.le_of_ble_eq_true rfl, Nat.le_of_ble_eq_true rfl⟩ ⟨Nat.le_of_ble_eq_true rfl, Nat.le_of_ble_eq_true rfl⟩ dX9_doSellTicket_2 (fr_nx rfl) (fun r9 M9 H locs ho9 B => ?_)
  obtain ⟨rfl, rfl⟩ := oi_e ho9
  refine lv_if_ne (tgt := 14) hx hb dX9_doSellTicket_5 (by decide) (fun c4 => ?_) (fun c4 => ?_)
  · have hF := it_t hF c4
    refine lv_iload_n hx hb dX9_doSellTicket_14 rfl (lv_at hl 2 rfl) ?_
    refine lv_iconst (v := 0) hx hb dX9_doSellTicket_15 (by decide) ?_
    refine lv_iconst (v := 3) hx hb dX9_doSellTicket_16 (by decide) ?_
    obtain ⟨r6, hf5, hF⟩ := bx_e hF
    refine fr_cSi (As := [.int a2, .int 0, .int 3]) (rest := []) C B (cm_X9_in hf5) yw_X9_in wm_X9_51 rfl hl.1 rfl (Nat.le_of_ble_eq_true rfl) ⟨Nat.le_of_ble_eq_true rfl, Nat.le_of_ble_eq_true rfl⟩ ⟨Nat.le_of_ble_eq_true rfl, Nat.le_of_ble_eq_true rfl⟩ dX9_doSellTicket_17 (fr_nx rfl) (fun r9 M9 H locs ho9 B => ?_)
    obtain ⟨rfl, rfl⟩ := oi_e ho9
    refine lv_if_eq (tgt := 33) hx hb dX9_doSellTicket_20 (by decide) (fun c8 => ?_) (fun c8 => ?_)
    · have hF := it_t hF c8
      refine lv_aload_n hx hb dX9_doSellTicket_33 rfl (lv_at hl 0 rfl) ?_
      refine lv_iconst (v := 2) hx hb dX9_doSellTicket_34 (by decide) ?_
      obtain ⟨r10, M11, hf9, hF⟩ := bp_e hF
      refine fr_cVi (As := [.int 2]) (rest := []) C B (cm_X9_fails hf9) ob_9 rfl yw_X9_fails wm_X9_63 rfl hl.1 rfl (Nat.le_of_ble_eq_true rfl) ⟨Nat.le_of_ble_eq_true rfl, Nat.le_of_ble_eq_true rfl⟩ ⟨Nat.le_of_ble_eq_true rfl, Nat.le_of_ble_eq_true rfl⟩ dX9_doSellTicket_35 (fr_nx rfl) (fun r9 M9 H locs ho9 B => ?_)
      obtain ⟨rfl, rfl⟩ := oi_e ho9
      exact fr_iret C B hr rfl hlk (by rw [← Option.some.inj hF]) (Nat.le_of_ble_eq_true rfl) (Nat.le_of_ble_eq_true rfl) dX9_doSellTicket_38
    · have hF := it_f hF c8
      refine lv_iload_n hx hb dX9_doSellTicket_23 rfl (lv_at hl 3 rfl) ?_
      refine lv_iconst (v := 1) hx hb dX9_doSellTicket_24 (by decide) ?_
      refine lv_bipush (v := 9) hx hb dX9_doSellTicket_25 (by decide) ?_
      obtain ⟨r13, hf12, hF⟩ := bx_e hF
      refine fr_cSi (As := [.int a3, .int 1, .int 9]) (rest := []) C B (cm_X9_in hf12) yw_X9_in wm_X9_51 rfl hl.1 rfl (Nat.le_of_ble_eq_true rfl) ⟨Nat.le_of_ble_eq_true rfl, Nat.le_of_ble_eq_true rfl⟩ ⟨Nat.le_of_ble_eq_true rfl, Nat.le_of_ble_eq_true rfl⟩ dX9_doSellTicket_27 (fr_nx rfl) (fun r9 M9 H locs ho9 B => ?_)
      obtain ⟨rfl, rfl⟩ := oi_e ho9
      refine lv_if_ne (tgt := 39) hx hb dX9_doSellTicket_30 (by decide) (fun c15 => ?_) (fun c15 => ?_)
      · have hF := it_t hF c15
        refine lv_aload_n hx hb dX9_doSellTicket_39 rfl (lv_at hl 0 rfl) ?_
        refine lv_iload_n hx hb dX9_doSellTicket_40 rfl (lv_at hl 1 rfl) ?_
        refine lv_iconst (v := 3) hx hb dX9_doSellTicket_41 (by decide) ?_
        obtain ⟨r17, hf16, hF⟩ := bx_e hF
        refine fr_cVi (As := [.int a1, .int 3]) (rest := []) C B (cm_X9_ofPassenger hf16) ob_9 rfl yw_X9_ofPassenger wm_X9_117 rfl hl.1 rfl (Nat.le_of_ble_eq_true rfl) ⟨Nat.le_of_ble_eq_true rfl, Nat.le_of_ble_eq_true rfl⟩ ⟨Nat.le_of_ble_eq_true rfl, Nat.le_of_ble_eq_true rfl⟩ dX9_doSellTicket_42 (fr_nx rfl) (fun r9 M9 H locs ho9 B => ?_)
        obtain ⟨rfl, rfl⟩ := oi_e ho9
        refine lv_iload_n hx hb dX9_doSellTicket_45 rfl (lv_at hl 3 rfl) ?_
        refine lv_iadd hx hb dX9_doSellTicket_46 ?_
        refine lv_istore (lv' := [(4, .int (r17 + a3)), (0, .ref (fw_ad X 378)), (1, .int a1), (2, .int a2), (3, .int a3)]) hx hb dX9_doSellTicket_47 hl (by decide) rfl (fun ls hl => ?_)
        refine lv_iload hx hb dX9_doSellTicket_49 (lv_at hl 0 rfl) ?_
        refine lv_bipush (v := 20) hx hb dX9_doSellTicket_51 (by decide) ?_
        refine lv_icmp_le (tgt := 62) hx hb dX9_doSellTicket_53 (by decide) (fun c19 => ?_) (fun c19 => ?_)
        · have hF := it_t hF c19
          refine lv_aload_n hx hb dX9_doSellTicket_62 rfl (lv_at hl 1 rfl) ?_
          refine lv_iload_n hx hb dX9_doSellTicket_63 rfl (lv_at hl 2 rfl) ?_
          refine lv_iconst (v := 2) hx hb dX9_doSellTicket_64 (by decide) ?_
          refine lv_aload_n hx hb dX9_doSellTicket_65 rfl (lv_at hl 1 rfl) ?_
          refine lv_iload_n hx hb dX9_doSellTicket_66 rfl (lv_at hl 2 rfl) ?_
          refine lv_iconst (v := 2) hx hb dX9_doSellTicket_67 (by decide) ?_
          obtain ⟨r21, hf20, hF⟩ := bx_e hF
          refine fr_cVi (As := [.int a1, .int 2]) (rest := [.int 2, .int a1, .ref (fw_ad X 378)]) C B (cm_X9_ofPassenger hf20) ob_9 rfl yw_X9_ofPassenger wm_X9_117 rfl hl.1 rfl (Nat.le_of_ble_eq_true rfl) ⟨Nat.le_of_ble_eq_true rfl, Nat.le_of_ble_eq_true rfl⟩ ⟨Nat.le_of_ble_eq_true rfl, Nat.le_of_ble_eq_true rfl⟩ dX9_doSellTicket_68 (fr_nx rfl) (fun r9 M9 H locs ho9 B => ?_)
          obtain ⟨rfl, rfl⟩ := oi_e ho9
          refine lv_iconst (v := 1) hx hb dX9_doSellTicket_71 (by decide) ?_
          refine lv_iload_n hx hb dX9_doSellTicket_72 rfl (lv_at hl 3 rfl) ?_
          refine lv_ishl hx hb dX9_doSellTicket_73 ?_
          refine lv_ior hx hb dX9_doSellTicket_74 ?_
          obtain ⟨M25, hf23, hF⟩ := bx_e hF
          refine fr_cVv (As := [.int a1, .int 2, .int (r21 ||| (1 <<< (a2 &&& 31)))]) (rest := []) C B (cm_X9_sets hf23) ob_9 rfl yw_X9_sets wm_X9_126 rfl hl.1 rfl (Nat.le_of_ble_eq_true rfl) ⟨Nat.le_of_ble_eq_true rfl, Nat.le_of_ble_eq_true rfl⟩ ⟨Nat.le_of_ble_eq_true rfl, Nat.le_of_ble_eq_true rfl⟩ dX9_doSellTicket_75 (fr_nx rfl) (fun M9 H locs ho9 B => ?_)
          obtain ⟨-, rfl⟩ := oi_e ho9
          refine lv_aload_n hx hb dX9_doSellTicket_78 rfl (lv_at hl 1 rfl) ?_
          refine lv_iload_n hx hb dX9_doSellTicket_79 rfl (lv_at hl 2 rfl) ?_
          refine lv_iconst (v := 3) hx hb dX9_doSellTicket_80 (by decide) ?_
          refine lv_iload hx hb dX9_doSellTicket_81 (lv_at hl 0 rfl) ?_
          obtain ⟨M28, hf26, hF⟩ := bx_e hF
          refine fr_cVv (As := [.int a1, .int 3, .int (r17 + a3)]) (rest := []) C B (cm_X9_sets hf26) ob_9 rfl yw_X9_sets wm_X9_126 rfl hl.1 rfl (Nat.le_of_ble_eq_true rfl) ⟨Nat.le_of_ble_eq_true rfl, Nat.le_of_ble_eq_true rfl⟩ ⟨Nat.le_of_ble_eq_true rfl, Nat.le_of_ble_eq_true rfl⟩ dX9_doSellTicket_83 (fr_nx rfl) (fun M9 H locs ho9 B => ?_)
          obtain ⟨-, rfl⟩ := oi_e ho9
          refine lv_iload hx hb dX9_doSellTicket_86 (lv_at hl 0 rfl) ?_
          exact fr_iret C B hr rfl hlk (by rw [← Option.some.inj hF]) (Nat.le_of_ble_eq_true rfl) (Nat.le_of_ble_eq_true rfl) dX9_doSellTicket_88
        · have hF := it_f hF c19
          refine lv_aload_n hx hb dX9_doSellTicket_56 rfl (lv_at hl 1 rfl) ?_
          refine lv_iconst (v := 3) hx hb dX9_doSellTicket_57 (by decide) ?_
          obtain ⟨r30, M31, hf29, hF⟩ := bp_e hF
          refine fr_cVi (As := [.int 3]) (rest := []) C B (cm_X9_fails hf29) ob_9 rfl yw_X9_fails wm_X9_63 rfl hl.1 rfl (Nat.le_of_ble_eq_true rfl) ⟨Nat.le_of_ble_eq_true rfl, Nat.le_of_ble_eq_true rfl⟩ ⟨Nat.le_of_ble_eq_true rfl, Nat.le_of_ble_eq_true rfl⟩ dX9_doSellTicket_58 (fr_nx rfl) (fun r9 M9 H locs ho9 B => ?_)
          obtain ⟨rfl, rfl⟩ := oi_e ho9
          exact fr_iret C B hr rfl hlk (by rw [← Option.some.inj hF]) (Nat.le_of_ble_eq_true rfl) (Nat.le_of_ble_eq_true rfl) dX9_doSellTicket_61
      · have hF := it_f hF (not_not_intro c15)
        refine lv_aload_n hx hb dX9_doSellTicket_33 rfl (lv_at hl 0 rfl) ?_
        refine lv_iconst (v := 2) hx hb dX9_doSellTicket_34 (by decide) ?_
        obtain ⟨r33, M34, hf32, hF⟩ := bp_e hF
        refine fr_cVi (As := [.int 2]) (rest := []) C B (cm_X9_fails hf32) ob_9 rfl yw_X9_fails wm_X9_63 rfl hl.1 rfl (Nat.le_of_ble_eq_true rfl) ⟨Nat.le_of_ble_eq_true rfl, Nat.le_of_ble_eq_true rfl⟩ ⟨Nat.le_of_ble_eq_true rfl, Nat.le_of_ble_eq_true rfl⟩ dX9_doSellTicket_35 (fr_nx rfl) (fun r9 M9 H locs ho9 B => ?_)
        obtain ⟨rfl, rfl⟩ := oi_e ho9
        exact fr_iret C B hr rfl hlk (by rw [← Option.some.inj hF]) (Nat.le_of_ble_eq_true rfl) (Nat.le_of_ble_eq_true rfl) dX9_doSellTicket_38
  · have hF := it_f hF (not_not_intro c4)
    refine lv_aload_n hx hb dX9_doSellTicket_8 rfl (lv_at hl 0 rfl) ?_
    refine lv_iconst (v := 1) hx hb dX9_doSellTicket_9 (by decide) ?_
    obtain ⟨r36, M37, hf35, hF⟩ := bp_e hF
    refine fr_cVi (As := [.int 1]) (rest := []) C B (cm_X9_fails hf35) ob_9 rfl yw_X9_fails wm_X9_63 rfl hl.1 rfl (Nat.le_of_ble_eq_true rfl) ⟨Nat.le_of_ble_eq_true rfl, Nat.le_of_ble_eq_true rfl⟩ ⟨Nat.le_of_ble_eq_true rfl, Nat.le_of_ble_eq_true rfl⟩ dX9_doSellTicket_10 (fr_nx rfl) (fun r9 M9 H locs ho9 B => ?_)
    obtain ⟨rfl, rfl⟩ := oi_e ho9
    exact fr_iret C B hr rfl hlk (by rw [← Option.some.inj hF]) (Nat.le_of_ble_eq_true rfl) (Nat.le_of_ble_eq_true rfl) dX9_doSellTicket_13
def F_X9_sellTicket (M : fw_M) (a1 : Int32) (a2 : Int32) (a3 : Int32) : Option (Int32 × fw_M) :=
  bd_x (F_X9_keep M) fun M3 =>
  bd_p (F_X9_doSellTicket M3 a1 a2 a3) fun r5 M6 =>
  bd_p (F_X9_ends M6 r5) fun r8 M9 =>
  some (r8, M9)
set_option maxHeartbeats 4000000 in
set_option maxRecDepth 100000 in
theorem cm_X9_sellTicket {l : Launch} {X : fw_X} {M : fw_M} {a1 : Int32} {a2 : Int32} {a3 : Int32}  {o : Int32 × fw_M} (hF : F_X9_sellTicket M a1 a2 a3 = some o) : ct_i l X yX9_sellTicket cX9_sellTicket 4 (some .int) ({ frames := 3, cells := 0, slots := 0, locals := 81 } : Room) M [.ref (fw_ad X 378), .int a1, .int a2, .int a3] (.inl o.1, o.2) := by
  refine fw_open rfl (Nat.le_of_ble_eq_true rfl) (fun p e s m below meth c ls C hr hlk hnm hex hl B => ?_)
  have C : fr_C X p c cX9_sellTicket 4 RX9 s m ([.ref (fw_ad X 378), .int a1, .int a2, .int a3] : List Value).toArray := C
  have hx := C.1.1
  have hb := C.1.2.1
  have hl : lv_has ls 4 [(0, .ref (fw_ad X 378)), (1, .int a1), (2, .int a2), (3, .int a3)] := hl
  unfold F_X9_sellTicket at hF
  refine lv_aload_n hx hb dX9_sellTicket_0 rfl (lv_at hl 0 rfl) ?_
  obtain ⟨M3, hf1, hF⟩ := bx_e hF
  refine fr_cVv (As := []) (rest := []) C B (cm_X9_keep hf1) ob_9 rfl yw_X9_keep wm_X9_66 rfl hl.1 rfl (Nat.le_of_ble_eq_true rfl) ⟨Nat.le_of_ble_eq_true rfl, Nat.le_of_ble_eq_true rfl⟩ ⟨Nat.le_of_ble_eq_true rfl, Nat.le_of_ble_eq_true rfl⟩ dX9_sellTicket_1 (fr_nx rfl) (fun M9 H locs ho9 B => ?_)
  obtain ⟨-, rfl⟩ := oi_e ho9
  refine lv_aload_n hx hb dX9_sellTicket_4 rfl (lv_at hl 0 rfl) ?_
  refine lv_aload_n hx hb dX9_sellTicket_5 rfl (lv_at hl 0 rfl) ?_
  refine lv_iload_n hx hb dX9_sellTicket_6 rfl (lv_at hl 1 rfl) ?_
  refine lv_iload_n hx hb dX9_sellTicket_7 rfl (lv_at hl 2 rfl) ?_
  refine lv_iload_n hx hb dX9_sellTicket_8 rfl (lv_at hl 3 rfl) ?_
  obtain ⟨r5, M6, hf4, hF⟩ := bp_e hF
  refine fr_cVi (As := [.int a1, .int a2, .int a3]) (rest := [.ref (fw_ad X 378)]) C B (cm_X9_doSellTicket hf4) ob_9 rfl yw_X9_doSellTicket wm_X9_136 rfl hl.1 rfl (Nat.le_of_ble_eq_true rfl) ⟨Nat.le_of_ble_eq_true rfl, Nat.le_of_ble_eq_true rfl⟩ ⟨Nat.le_of_ble_eq_true rfl, Nat.le_of_ble_eq_true rfl⟩ dX9_sellTicket_9 (fr_nx rfl) (fun r9 M9 H locs ho9 B => ?_)
  obtain ⟨rfl, rfl⟩ := oi_e ho9
  obtain ⟨r8, M9, hf7, hF⟩ := bp_e hF
  refine fr_cVi (As := [.int r5]) (rest := []) C B (cm_X9_ends hf7) ob_9 rfl yw_X9_ends wm_X9_72 rfl hl.1 rfl (Nat.le_of_ble_eq_true rfl) ⟨Nat.le_of_ble_eq_true rfl, Nat.le_of_ble_eq_true rfl⟩ ⟨Nat.le_of_ble_eq_true rfl, Nat.le_of_ble_eq_true rfl⟩ dX9_sellTicket_12 (fr_nx rfl) (fun r9 M9 H locs ho9 B => ?_)
  obtain ⟨rfl, rfl⟩ := oi_e ho9
  exact fr_iret C B hr rfl hlk (by rw [← Option.some.inj hF]) (Nat.le_of_ble_eq_true rfl) (Nat.le_of_ble_eq_true rfl) dX9_sellTicket_15
