def F_X9_restore_16   (M : fw_M) : Option (Int32 × fw_M) :=
  if (M 378 6) ≤ 0 then
    if (¬ (0 : Int32) < 0 ∧ ¬ (0 : Int32) < 0 ∧ ¬ (129 : Int32) < 0 ∧ (0 : Int32).toNatClampNeg + (129 : Int32).toNatClampNeg ≤ 129 ∧ (0 : Int32).toNatClampNeg + (129 : Int32).toNatClampNeg ≤ 129) then
    lt_x (fw_cp M 381 379 (0 : Int32).toNatClampNeg (0 : Int32).toNatClampNeg (129 : Int32).toNatClampNeg) fun M3 =>
    lt_x (fw_up M3 378 5 0) fun M4 =>
    if ix_i 3 129 then
    some ((fw_ri M4 379 3), M4)
    else none
    else none
  else
    some (0, M)
def F_X9_restore (M : fw_M) : Option (Int32 × fw_M) :=
  if (M 378 3) = 0 then
    lt_x (fw_up M 378 6 1) fun M7 =>
    F_X9_restore_16 M7
  else
    lt_x (fw_up M 378 6 0) fun M8 =>
    F_X9_restore_16 M8
set_option maxHeartbeats 4000000 in
set_option maxRecDepth 100000 in
theorem cm_X9_restore {l : Launch} {X : fw_X} {M : fw_M}  {o : Int32 × fw_M} (hF : F_X9_restore M = some o) : ct_i l X yX9_restore cX9_restore 1 (some .int) ({ frames := 1, cells := 0, slots := 0, locals := 60 } : Room) M [.ref (fw_ad X 378)] (.inl o.1, o.2) := by
  refine fw_open rfl (Nat.le_of_ble_eq_true rfl) (fun p e s m below meth c ls C hr hlk hnm hex hl B => ?_)
  have C : fr_C X p c cX9_restore 1 RX9 s m ([.ref (fw_ad X 378)] : List Value).toArray := C
  have hx := C.1.1
  have hb := C.1.2.1
  have hl : lv_has ls 1 [(0, .ref (fw_ad X 378))] := hl
  have hJ16 : ∀ (M : fw_M) (H : Heap) (locs : List Loc) (ls : Array Slot), F_X9_restore_16  M = some o → fr_H X s M H locs → lv_has ls 1 [(0, .ref (fw_ad X 378))] → W p l e ({ frames := 1, cells := 0, slots := 0, locals := 60 } : Room) s m ([.ref (fw_ad X 378)] : List Value).toArray below meth c H locs 0 0 (vx_MQ below (fw_Qi X (.inl o.1, o.2)) (fw_Qx X (.inl o.1, o.2)) ([.ref (fw_ad X 378)] : List Value).toArray s 0 0 (fw_A X)) (F0 m 16 ls []) := by
    intro M H locs ls hF B hl
    unfold F_X9_restore_16 at hF
    refine lv_aload_n hx hb dX9_restore_16 rfl (lv_at hl 0 rfl) ?_
    refine gf_X9_39 C B dX9_restore_17 ?_
    refine lv_if_le (tgt := 25) hx hb dX9_restore_20 (by decide) (fun c1 => ?_) (fun c1 => ?_)
    · have hF := it_t hF c1
      refine lv_aload_n hx hb dX9_restore_25 rfl (lv_at hl 0 rfl) ?_
      refine gf_X9_16 C B dX9_restore_26 ?_
      refine lv_iconst (v := 0) hx hb dX9_restore_29 (by decide) ?_
      refine lv_aload_n hx hb dX9_restore_30 rfl (lv_at hl 0 rfl) ?_
      refine gf_X9_9 C B dX9_restore_31 ?_
      refine lv_iconst (v := 0) hx hb dX9_restore_34 (by decide) ?_
      refine lv_sipush (v := 129) hx hb dX9_restore_35 (by decide) ?_
      obtain ⟨c2, hF⟩ := of_g hF
      refine fr_copy C B ar_9_381 ar_9_379 wm_X9_42 wn_cp wt_cp wi_sys hl.1 c2 (Nat.le_of_ble_eq_true rfl) (Nat.le_of_ble_eq_true rfl) dX9_restore_38 (fun H locs B => ?_)
      obtain ⟨M3, eM3, hF⟩ := lt_e hF
      rw [← eM3] at B
      refine lv_aload_n hx hb dX9_restore_41 rfl (lv_at hl 0 rfl) ?_
      refine lv_iconst (v := 0) hx hb dX9_restore_42 (by decide) ?_
      refine pf_X9_48 C B dX9_restore_43 (fun H locs B => ?_)
      obtain ⟨M4, eM4, hF⟩ := lt_e hF
      rw [← eM4] at B
      refine lv_aload_n hx hb dX9_restore_46 rfl (lv_at hl 0 rfl) ?_
      refine gf_X9_9 C B dX9_restore_47 ?_
      refine lv_iconst (v := 3) hx hb dX9_restore_50 (by decide) ?_
      obtain ⟨c5, hF⟩ := of_g hF
      refine fr_ia C B ar_9_379 c5 dX9_restore_51 ?_
      exact fr_iret C B hr rfl hlk (by rw [← Option.some.inj hF]) (Nat.le_of_ble_eq_true rfl) (Nat.le_of_ble_eq_true rfl) dX9_restore_52
    · have hF := it_f hF c1
      refine lv_iconst (v := 0) hx hb dX9_restore_23 (by decide) ?_
      exact fr_iret C B hr rfl hlk (by rw [← Option.some.inj hF]) (Nat.le_of_ble_eq_true rfl) (Nat.le_of_ble_eq_true rfl) dX9_restore_24
  unfold F_X9_restore at hF
  refine lv_aload_n hx hb dX9_restore_0 rfl (lv_at hl 0 rfl) ?_
  refine lv_aload_n hx hb dX9_restore_1 rfl (lv_at hl 0 rfl) ?_
  refine gf_X9_279 C B dX9_restore_2 ?_
  refine lv_if_eq (tgt := 12) hx hb dX9_restore_5 (by decide) (fun c6 => ?_) (fun c6 => ?_)
  · have hF := it_t hF c6
    refine lv_iconst (v := 1) hx hb dX9_restore_12 (by decide) ?_
    refine pf_X9_39 C B dX9_restore_13 (fun H locs B => ?_)
    obtain ⟨M7, eM7, hF⟩ := lt_e hF
    rw [← eM7] at B
    exact hJ16 M7 _ _ _ hF B (lv_sub hl [0] rfl)
  · have hF := it_f hF c6
    refine lv_iconst (v := 0) hx hb dX9_restore_8 (by decide) ?_
    refine lv_goto (tgt := 13) hx hb dX9_restore_9 (by decide) ?_
    refine pf_X9_39 C B dX9_restore_13 (fun H locs B => ?_)
    obtain ⟨M8, eM8, hF⟩ := lt_e hF
    rw [← eM8] at B
    exact hJ16 M8 _ _ _ hF B (lv_sub hl [0] rfl)
def F_X9_crowd_4 (M : fw_M) (a1 : Int32)  : Nat → Int32 → Int32 → Option (Int32)
  | 0, _, _ => none
  | n + 1, x2, x3 =>
    if ix_i 3 129 then
    if (fw_ri M 379 3) ≤ x3 then
      some x2
    else
      bd_x (F_X9_ofPassenger M x3 1) fun r4 =>
      if ¬ r4 = a1 then
        F_X9_crowd_4 M a1 n (x2 + 0) (x3 + 1)
      else
        F_X9_crowd_4 M a1 n (x2 + 1) (x3 + 1)
    else none
def F_X9_crowd (M : fw_M) (a1 : Int32) : Option (Int32) :=
  F_X9_crowd_4 M a1 64 0 0
set_option maxHeartbeats 4000000 in
set_option maxRecDepth 100000 in
theorem cm_X9_crowd {l : Launch} {X : fw_X} {M : fw_M} {a1 : Int32}  {o : Int32} (hF : F_X9_crowd M a1 = some o) : ct_i l X yX9_crowd cX9_crowd 4 (some .int) ({ frames := 1, cells := 0, slots := 0, locals := 22 } : Room) M [.ref (fw_ad X 378), .int a1] (.inl o, M) := by
  refine fw_open rfl (Nat.le_of_ble_eq_true rfl) (fun p e s m below meth c ls C hr hlk hnm hex hl B => ?_)
  have C : fr_C X p c cX9_crowd 4 RX9 s m ([.ref (fw_ad X 378), .int a1] : List Value).toArray := C
  have hx := C.1.1
  have hb := C.1.2.1
  have hl : lv_has ls 4 [(0, .ref (fw_ad X 378)), (1, .int a1)] := hl
  have hJ4 : ∀ (n : Nat), ∀ (x2 : Int32) (x3 : Int32) (H : Heap) (locs : List Loc) (ls : Array Slot), F_X9_crowd_4 M a1 n x2 x3 = some o → fr_H X s M H locs → lv_has ls 4 [(0, .ref (fw_ad X 378)), (1, .int a1), (2, .int x2), (3, .int x3)] → W p l e ({ frames := 1, cells := 0, slots := 0, locals := 22 } : Room) s m ([.ref (fw_ad X 378), .int a1] : List Value).toArray below meth c H locs 0 0 (vx_MQ below (fw_Qi X (.inl o, M)) (fw_Qx X (.inl o, M)) ([.ref (fw_ad X 378), .int a1] : List Value).toArray s 0 0 (fw_A X)) (F0 m 4 ls []) := by
    intro n
    induction n with
    | zero =>
      intro x2 x3 H locs ls hF B hl
      exact absurd hF (by simp [F_X9_crowd_4])
    | succ n ih =>
      intro x2 x3 H locs ls hF B hl
      rw [F_X9_crowd_4] at hF
      refine lv_iload_n hx hb dX9_crowd_4 rfl (lv_at hl 3 rfl) ?_
      refine lv_aload_n hx hb dX9_crowd_5 rfl (lv_at hl 0 rfl) ?_
      refine gf_X9_9 C B dX9_crowd_6 ?_
      refine lv_iconst (v := 3) hx hb dX9_crowd_9 (by decide) ?_
      obtain ⟨c1, hF⟩ := of_g hF
      refine fr_ia C B ar_9_379 c1 dX9_crowd_10 ?_
      refine lv_icmp_ge (tgt := 38) hx hb dX9_crowd_11 (by decide) (fun c2 => ?_) (fun c2 => ?_)
      · have hF := it_t hF c2
        refine lv_iload_n hx hb dX9_crowd_38 rfl (lv_at hl 2 rfl) ?_
        exact fr_iret C B hr rfl hlk (by rw [← Option.some.inj hF]) (Nat.le_of_ble_eq_true rfl) (Nat.le_of_ble_eq_true rfl) dX9_crowd_39
      · have hF := it_f hF c2
        refine lv_iload_n hx hb dX9_crowd_14 rfl (lv_at hl 2 rfl) ?_
        refine lv_aload_n hx hb dX9_crowd_15 rfl (lv_at hl 0 rfl) ?_
        refine lv_iload_n hx hb dX9_crowd_16 rfl (lv_at hl 3 rfl) ?_
        refine lv_iconst (v := 1) hx hb dX9_crowd_17 (by decide) ?_
        obtain ⟨r4, hf3, hF⟩ := bx_e hF
        refine fr_cVi (As := [.int x3, .int 1]) (rest := [.int x2]) C B (cm_X9_ofPassenger hf3) ob_9 rfl yw_X9_ofPassenger wm_X9_117 rfl hl.1 rfl (Nat.le_of_ble_eq_true rfl) ⟨Nat.le_of_ble_eq_true rfl, Nat.le_of_ble_eq_true rfl⟩ ⟨Nat.le_of_ble_eq_true rfl, Nat.le_of_ble_eq_true rfl⟩ dX9_crowd_18 (fr_nx rfl) (fun r9 M9 H locs ho9 B => ?_)
        obtain ⟨rfl, rfl⟩ := oi_e ho9
        refine lv_iload_n hx hb dX9_crowd_21 rfl (lv_at hl 1 rfl) ?_
        refine lv_icmp_ne (tgt := 29) hx hb dX9_crowd_22 (by decide) (fun c6 => ?_) (fun c6 => ?_)
        · have hF := it_t hF c6
          refine lv_iconst (v := 0) hx hb dX9_crowd_29 (by decide) ?_
          refine lv_iadd hx hb dX9_crowd_30 ?_
          refine lv_istore_n (lv' := [(2, .int (x2 + 0)), (0, .ref (fw_ad X 378)), (1, .int a1), (3, .int x3)]) hx hb dX9_crowd_31 rfl hl (by decide) rfl (fun ls hl => ?_)
          refine lv_iinc (v := (x3 + 1)) (lv' := [(3, .int (x3 + 1)), (2, .int (x2 + 0)), (0, .ref (fw_ad X 378)), (1, .int a1)]) hx hb dX9_crowd_32 hl (k := 3) rfl rfl (by decide) rfl (fun ls hl => ?_)
          refine lv_goto (tgt := 4) hx hb dX9_crowd_35 (by decide) ?_
          exact ih (x2 + 0) (x3 + 1) _ _ _ hF B (lv_sub hl [2, 3, 1, 0] rfl)
        · have hF := it_f hF (not_not_intro c6)
          refine lv_iconst (v := 1) hx hb dX9_crowd_25 (by decide) ?_
          refine lv_goto (tgt := 30) hx hb dX9_crowd_26 (by decide) ?_
          refine lv_iadd hx hb dX9_crowd_30 ?_
          refine lv_istore_n (lv' := [(2, .int (x2 + 1)), (0, .ref (fw_ad X 378)), (1, .int a1), (3, .int x3)]) hx hb dX9_crowd_31 rfl hl (by decide) rfl (fun ls hl => ?_)
          refine lv_iinc (v := (x3 + 1)) (lv' := [(3, .int (x3 + 1)), (2, .int (x2 + 1)), (0, .ref (fw_ad X 378)), (1, .int a1)]) hx hb dX9_crowd_32 hl (k := 3) rfl rfl (by decide) rfl (fun ls hl => ?_)
          refine lv_goto (tgt := 4) hx hb dX9_crowd_35 (by decide) ?_
          exact ih (x2 + 1) (x3 + 1) _ _ _ hF B (lv_sub hl [2, 3, 1, 0] rfl)
  unfold F_X9_crowd at hF
  refine lv_iconst (v := 0) hx hb dX9_crowd_0 (by decide) ?_
  refine lv_istore_n (lv' := [(2, .int 0), (0, .ref (fw_ad X 378)), (1, .int a1)]) hx hb dX9_crowd_1 rfl hl (by decide) rfl (fun ls hl => ?_)
  refine lv_iconst (v := 0) hx hb dX9_crowd_2 (by decide) ?_
  refine lv_istore_n (lv' := [(3, .int 0), (2, .int 0), (0, .ref (fw_ad X 378)), (1, .int a1)]) hx hb dX9_crowd_3 rfl hl (by decide) rfl (fun ls hl => ?_)
  exact hJ4 64 0 0 _ _ _ hF B (lv_sub hl [2, 3, 1, 0] rfl)
def F_X9_crowdOf (M : fw_M) (a1 : Int32) : Option (Int32 × fw_M) :=
  bd_x (F_X9_isTram M a1) fun r2 =>
  bd_p (F_X9_isThere M r2) fun r5 M6 =>
  if r5 = 0 then
    some (0, M6)
  else
    bd_x (F_X9_crowd M6 a1) fun r9 =>
    some (r9, M6)
set_option maxHeartbeats 4000000 in
set_option maxRecDepth 100000 in
theorem cm_X9_crowdOf {l : Launch} {X : fw_X} {M : fw_M} {a1 : Int32}  {o : Int32 × fw_M} (hF : F_X9_crowdOf M a1 = some o) : ct_i l X yX9_crowdOf cX9_crowdOf 2 (some .int) ({ frames := 2, cells := 0, slots := 0, locals := 45 } : Room) M [.ref (fw_ad X 378), .int a1] (.inl o.1, o.2) := by
  refine fw_open rfl (Nat.le_of_ble_eq_true rfl) (fun p e s m below meth c ls C hr hlk hnm hex hl B => ?_)
  have C : fr_C X p c cX9_crowdOf 2 RX9 s m ([.ref (fw_ad X 378), .int a1] : List Value).toArray := C
  have hx := C.1.1
  have hb := C.1.2.1
  have hl : lv_has ls 2 [(0, .ref (fw_ad X 378)), (1, .int a1)] := hl
  unfold F_X9_crowdOf at hF
  refine lv_aload_n hx hb dX9_crowdOf_0 rfl (lv_at hl 0 rfl) ?_
  refine lv_aload_n hx hb dX9_crowdOf_1 rfl (lv_at hl 0 rfl) ?_
  refine lv_iload_n hx hb dX9_crowdOf_2 rfl (lv_at hl 1 rfl) ?_
  obtain ⟨r2, hf1, hF⟩ := bx_e hF
  refine fr_cVi (As := [.int a1]) (rest := [.ref (fw_ad X 378)]) C B (cm_X9_isTram hf1) ob_9 rfl yw_X9_isTram wm_X9_108 rfl hl.1 rfl (Nat.le_of_ble_eq_true rfl) ⟨Nat.le_of_ble_eq_true rfl, Nat.le_of_ble_eq_true rfl⟩ ⟨Nat.le_of_ble_eq_true rfl, Nat.le_of_ble_eq_true rfl⟩ dX9_crowdOf_3 (fr_nx rfl) (fun r9 M9 H locs ho9 B => ?_)
  obtain ⟨rfl, rfl⟩ := oi_e ho9
  obtain ⟨r5, M6, hf4, hF⟩ := bp_e hF
  refine fr_cVi (As := [.int r2]) (rest := []) C B (cm_X9_isThere hf4) ob_9 rfl yw_X9_isThere wm_X9_91 rfl hl.1 rfl (Nat.le_of_ble_eq_true rfl) ⟨Nat.le_of_ble_eq_true rfl, Nat.le_of_ble_eq_true rfl⟩ ⟨Nat.le_of_ble_eq_true rfl, Nat.le_of_ble_eq_true rfl⟩ dX9_crowdOf_6 (fr_nx rfl) (fun r9 M9 H locs ho9 B => ?_)
  obtain ⟨rfl, rfl⟩ := oi_e ho9
  refine lv_if_eq (tgt := 20) hx hb dX9_crowdOf_9 (by decide) (fun c7 => ?_) (fun c7 => ?_)
  · have hF := it_t hF c7
    refine lv_iconst (v := 0) hx hb dX9_crowdOf_20 (by decide) ?_
    exact fr_iret C B hr rfl hlk (by rw [← Option.some.inj hF]) (Nat.le_of_ble_eq_true rfl) (Nat.le_of_ble_eq_true rfl) dX9_crowdOf_21
  · have hF := it_f hF c7
    refine lv_aload_n hx hb dX9_crowdOf_12 rfl (lv_at hl 0 rfl) ?_
    refine lv_iload_n hx hb dX9_crowdOf_13 rfl (lv_at hl 1 rfl) ?_
    obtain ⟨r9, hf8, hF⟩ := bx_e hF
    refine fr_cVi (As := [.int a1]) (rest := []) C B (cm_X9_crowd hf8) ob_9 rfl yw_X9_crowd wm_X9_120 rfl hl.1 rfl (Nat.le_of_ble_eq_true rfl) ⟨Nat.le_of_ble_eq_true rfl, Nat.le_of_ble_eq_true rfl⟩ ⟨Nat.le_of_ble_eq_true rfl, Nat.le_of_ble_eq_true rfl⟩ dX9_crowdOf_14 (fr_nx rfl) (fun r9 M9 H locs ho9 B => ?_)
    obtain ⟨rfl, rfl⟩ := oi_e ho9
    refine lv_goto (tgt := 21) hx hb dX9_crowdOf_17 (by decide) ?_
    exact fr_iret C B hr rfl hlk (by rw [← Option.some.inj hF]) (Nat.le_of_ble_eq_true rfl) (Nat.le_of_ble_eq_true rfl) dX9_crowdOf_21
def F_X9_fullestTram_22   : Nat → Int32 → Int32 → fw_M → Option (Int32 × fw_M)
  | 0, _, _, _ => none
  | n + 1, x1, x2, M =>
    if ix_i 2 129 then
    if (fw_ri M 379 2) ≤ x2 then
      some (x1, M)
    else
      bd_x (F_X9_crowd M x2) fun r4 =>
      bd_x (F_X9_crowd M x1) fun r7 =>
      if r4 ≤ r7 then
        F_X9_fullestTram_22  n x1 (x2 + 1) M
      else
        F_X9_fullestTram_22  n x2 (x2 + 1) M
    else none
def F_X9_fullestTram (M : fw_M) : Option (Int32 × fw_M) :=
  if ix_i 2 129 then
  if ¬ (fw_ri M 379 2) = 0 then
    lt_x (fw_up M 378 6 0) fun M12 =>
    F_X9_fullestTram_22 64 0 1 M12
  else
    lt_x (fw_up M 378 6 1) fun M13 =>
    F_X9_fullestTram_22 64 0 1 M13
  else none
set_option maxHeartbeats 4000000 in
set_option maxRecDepth 100000 in
theorem cm_X9_fullestTram {l : Launch} {X : fw_X} {M : fw_M}  {o : Int32 × fw_M} (hF : F_X9_fullestTram M = some o) : ct_i l X yX9_fullestTram cX9_fullestTram 3 (some .int) ({ frames := 2, cells := 0, slots := 0, locals := 45 } : Room) M [.ref (fw_ad X 378)] (.inl o.1, o.2) := by
  refine fw_open rfl (Nat.le_of_ble_eq_true rfl) (fun p e s m below meth c ls C hr hlk hnm hex hl B => ?_)
  have C : fr_C X p c cX9_fullestTram 3 RX9 s m ([.ref (fw_ad X 378)] : List Value).toArray := C
  have hx := C.1.1
  have hb := C.1.2.1
  have hl : lv_has ls 3 [(0, .ref (fw_ad X 378))] := hl
  have hJ22 : ∀ (n : Nat), ∀ (x1 : Int32) (x2 : Int32) (M : fw_M) (H : Heap) (locs : List Loc) (ls : Array Slot), F_X9_fullestTram_22  n x1 x2 M = some o → fr_H X s M H locs → lv_has ls 3 [(0, .ref (fw_ad X 378)), (1, .int x1), (2, .int x2)] → W p l e ({ frames := 2, cells := 0, slots := 0, locals := 45 } : Room) s m ([.ref (fw_ad X 378)] : List Value).toArray below meth c H locs 0 0 (vx_MQ below (fw_Qi X (.inl o.1, o.2)) (fw_Qx X (.inl o.1, o.2)) ([.ref (fw_ad X 378)] : List Value).toArray s 0 0 (fw_A X)) (F0 m 22 ls []) := by
    intro n
    induction n with
    | zero =>
      intro x1 x2 M H locs ls hF B hl
      exact absurd hF (by simp [F_X9_fullestTram_22])
    | succ n ih =>
      intro x1 x2 M H locs ls hF B hl
      rw [F_X9_fullestTram_22] at hF
      refine lv_iload_n hx hb dX9_fullestTram_22 rfl (lv_at hl 2 rfl) ?_
      refine lv_aload_n hx hb dX9_fullestTram_23 rfl (lv_at hl 0 rfl) ?_
      refine gf_X9_9 C B dX9_fullestTram_24 ?_
      refine lv_iconst (v := 2) hx hb dX9_fullestTram_27 (by decide) ?_
      obtain ⟨c1, hF⟩ := of_g hF
      refine fr_ia C B ar_9_379 c1 dX9_fullestTram_28 ?_
      refine lv_icmp_ge (tgt := 57) hx hb dX9_fullestTram_29 (by decide) (fun c2 => ?_) (fun c2 => ?_)
      · have hF := it_t hF c2
        refine lv_iload_n hx hb dX9_fullestTram_57 rfl (lv_at hl 1 rfl) ?_
        exact fr_iret C B hr rfl hlk (by rw [← Option.some.inj hF]) (Nat.le_of_ble_eq_true rfl) (Nat.le_of_ble_eq_true rfl) dX9_fullestTram_58
      · have hF := it_f hF c2
        refine lv_aload_n hx hb dX9_fullestTram_32 rfl (lv_at hl 0 rfl) ?_
        refine lv_iload_n hx hb dX9_fullestTram_33 rfl (lv_at hl 2 rfl) ?_
        obtain ⟨r4, hf3, hF⟩ := bx_e hF
        refine fr_cVi (As := [.int x2]) (rest := []) C B (cm_X9_crowd hf3) ob_9 rfl yw_X9_crowd wm_X9_120 rfl hl.1 rfl (Nat.le_of_ble_eq_true rfl) ⟨Nat.le_of_ble_eq_true rfl, Nat.le_of_ble_eq_true rfl⟩ ⟨Nat.le_of_ble_eq_true rfl, Nat.le_of_ble_eq_true rfl⟩ dX9_fullestTram_34 (fr_nx rfl) (fun r9 M9 H locs ho9 B => ?_)
        obtain ⟨rfl, rfl⟩ := oi_e ho9
        refine lv_aload_n hx hb dX9_fullestTram_37 rfl (lv_at hl 0 rfl) ?_
        refine lv_iload_n hx hb dX9_fullestTram_38 rfl (lv_at hl 1 rfl) ?_
        obtain ⟨r7, hf6, hF⟩ := bx_e hF
        refine fr_cVi (As := [.int x1]) (rest := [.int r4]) C B (cm_X9_crowd hf6) ob_9 rfl yw_X9_crowd wm_X9_120 rfl hl.1 rfl (Nat.le_of_ble_eq_true rfl) ⟨Nat.le_of_ble_eq_true rfl, Nat.le_of_ble_eq_true rfl⟩ ⟨Nat.le_of_ble_eq_true rfl, Nat.le_of_ble_eq_true rfl⟩ dX9_fullestTram_39 (fr_nx rfl) (fun r9 M9 H locs ho9 B => ?_)
        obtain ⟨rfl, rfl⟩ := oi_e ho9
        refine lv_icmp_le (tgt := 49) hx hb dX9_fullestTram_42 (by decide) (fun c9 => ?_) (fun c9 => ?_)
        · have hF := it_t hF c9
          refine lv_iload_n hx hb dX9_fullestTram_49 rfl (lv_at hl 1 rfl) ?_
          refine lv_istore_n (lv' := [(1, .int x1), (0, .ref (fw_ad X 378)), (2, .int x2)]) hx hb dX9_fullestTram_50 rfl hl (by decide) rfl (fun ls hl => ?_)
          refine lv_iinc (v := (x2 + 1)) (lv' := [(2, .int (x2 + 1)), (1, .int x1), (0, .ref (fw_ad X 378))]) hx hb dX9_fullestTram_51 hl (k := 2) rfl rfl (by decide) rfl (fun ls hl => ?_)
          refine lv_goto (tgt := 22) hx hb dX9_fullestTram_54 (by decide) ?_
          exact ih x1 (x2 + 1) M _ _ _ hF B (lv_sub hl [2, 1, 0] rfl)
        · have hF := it_f hF c9
          refine lv_iload_n hx hb dX9_fullestTram_45 rfl (lv_at hl 2 rfl) ?_
          refine lv_goto (tgt := 50) hx hb dX9_fullestTram_46 (by decide) ?_
          refine lv_istore_n (lv' := [(1, .int x2), (0, .ref (fw_ad X 378)), (2, .int x2)]) hx hb dX9_fullestTram_50 rfl hl (by decide) rfl (fun ls hl => ?_)
          refine lv_iinc (v := (x2 + 1)) (lv' := [(2, .int (x2 + 1)), (1, .int x2), (0, .ref (fw_ad X 378))]) hx hb dX9_fullestTram_51 hl (k := 2) rfl rfl (by decide) rfl (fun ls hl => ?_)
          refine lv_goto (tgt := 22) hx hb dX9_fullestTram_54 (by decide) ?_
          exact ih x2 (x2 + 1) M _ _ _ hF B (lv_sub hl [2, 1, 0] rfl)
  unfold F_X9_fullestTram at hF
  refine lv_aload_n hx hb dX9_fullestTram_0 rfl (lv_at hl 0 rfl) ?_
  refine lv_aload_n hx hb dX9_fullestTram_1 rfl (lv_at hl 0 rfl) ?_
  refine gf_X9_9 C B dX9_fullestTram_2 ?_
  refine lv_iconst (v := 2) hx hb dX9_fullestTram_5 (by decide) ?_
  obtain ⟨c10, hF⟩ := of_g hF
  refine fr_ia C B ar_9_379 c10 dX9_fullestTram_6 ?_
  refine lv_if_ne (tgt := 14) hx hb dX9_fullestTram_7 (by decide) (fun c11 => ?_) (fun c11 => ?_)
  · have hF := it_t hF c11
    refine lv_iconst (v := 0) hx hb dX9_fullestTram_14 (by decide) ?_
    refine pf_X9_39 C B dX9_fullestTram_15 (fun H locs B => ?_)
    obtain ⟨M12, eM12, hF⟩ := lt_e hF
    rw [← eM12] at B
    refine lv_iconst (v := 0) hx hb dX9_fullestTram_18 (by decide) ?_
    refine lv_istore_n (lv' := [(1, .int 0), (0, .ref (fw_ad X 378))]) hx hb dX9_fullestTram_19 rfl hl (by decide) rfl (fun ls hl => ?_)
    refine lv_iconst (v := 1) hx hb dX9_fullestTram_20 (by decide) ?_
    refine lv_istore_n (lv' := [(2, .int 1), (1, .int 0), (0, .ref (fw_ad X 378))]) hx hb dX9_fullestTram_21 rfl hl (by decide) rfl (fun ls hl => ?_)
    exact hJ22 64 0 1 M12 _ _ _ hF B (lv_sub hl [2, 1, 0] rfl)
  · have hF := it_f hF (not_not_intro c11)
    refine lv_iconst (v := 1) hx hb dX9_fullestTram_10 (by decide) ?_
    refine lv_goto (tgt := 15) hx hb dX9_fullestTram_11 (by decide) ?_
    refine pf_X9_39 C B dX9_fullestTram_15 (fun H locs B => ?_)
    obtain ⟨M13, eM13, hF⟩ := lt_e hF
    rw [← eM13] at B
    refine lv_iconst (v := 0) hx hb dX9_fullestTram_18 (by decide) ?_
    refine lv_istore_n (lv' := [(1, .int 0), (0, .ref (fw_ad X 378))]) hx hb dX9_fullestTram_19 rfl hl (by decide) rfl (fun ls hl => ?_)
    refine lv_iconst (v := 1) hx hb dX9_fullestTram_20 (by decide) ?_
    refine lv_istore_n (lv' := [(2, .int 1), (1, .int 0), (0, .ref (fw_ad X 378))]) hx hb dX9_fullestTram_21 rfl hl (by decide) rfl (fun ls hl => ?_)
    exact hJ22 64 0 1 M13 _ _ _ hF B (lv_sub hl [2, 1, 0] rfl)
