def F_X9_thrown (M : fw_M) : Option (Int32) :=
  some (M 378 6)
set_option maxHeartbeats 4000000 in
set_option maxRecDepth 100000 in
theorem cm_X9_thrown {l : Launch} {X : fw_X} {M : fw_M}  {o : Int32} (hF : F_X9_thrown M = some o) : ct_i l X yX9_thrown cX9_thrown 1 (some .int) ({ frames := 0, cells := 0, slots := 0, locals := 0 } : Room) M [.ref (fw_ad X 378)] (.inl o, M) := by
  refine fw_open rfl (Nat.le_of_ble_eq_true rfl) (fun p e s m below meth c ls C hr hlk hnm hex hl B => ?_)
  have C : fr_C X p c cX9_thrown 1 RX9 s m ([.ref (fw_ad X 378)] : List Value).toArray := C
  have hx := C.1.1
  have hb := C.1.2.1
  have hl : lv_has ls 1 [(0, .ref (fw_ad X 378))] := hl
  unfold F_X9_thrown at hF
  refine lv_aload_n hx hb dX9_thrown_0 rfl (lv_at hl 0 rfl) ?_
  refine gf_X9_39 C B dX9_thrown_1 ?_
  exact fr_iret C B hr rfl hlk (by rw [← Option.some.inj hF]) (Nat.le_of_ble_eq_true rfl) (Nat.le_of_ble_eq_true rfl) dX9_thrown_4
def F_X9_in (M : fw_M) (a1 : Int32) (a2 : Int32) (a3 : Int32) : Option (Int32) :=
  if a1 < a2 then
    some 0
  else
    if a3 < a1 then
      some 0
    else
      some 1
set_option maxHeartbeats 4000000 in
set_option maxRecDepth 100000 in
theorem cm_X9_in {l : Launch} {X : fw_X} {M : fw_M} {a1 : Int32} {a2 : Int32} {a3 : Int32}  {o : Int32} (hF : F_X9_in M a1 a2 a3 = some o) : ct_i l X yX9_in cX9_in 3 (some .boolean) ({ frames := 0, cells := 0, slots := 0, locals := 0 } : Room) M [.int a1, .int a2, .int a3] (.inl o, M) := by
  refine fw_open rfl (Nat.le_of_ble_eq_true rfl) (fun p e s m below meth c ls C hr hlk hnm hex hl B => ?_)
  have C : fr_C X p c cX9_in 3 RX9 s m ([.int a1, .int a2, .int a3] : List Value).toArray := C
  have hx := C.1.1
  have hb := C.1.2.1
  have hl : lv_has ls 3 [(0, .int a1), (1, .int a2), (2, .int a3)] := hl
  unfold F_X9_in at hF
  refine lv_iload_n hx hb dX9_in_0 rfl (lv_at hl 0 rfl) ?_
  refine lv_iload_n hx hb dX9_in_1 rfl (lv_at hl 1 rfl) ?_
  refine lv_icmp_lt (tgt := 14) hx hb dX9_in_2 (by decide) (fun c1 => ?_) (fun c1 => ?_)
  · have hF := it_t hF c1
    refine lv_iconst (v := 0) hx hb dX9_in_14 (by decide) ?_
    exact fr_iret C B hr rfl hlk (by rw [← Option.some.inj hF]) (Nat.le_of_ble_eq_true rfl) (Nat.le_of_ble_eq_true rfl) dX9_in_15
  · have hF := it_f hF c1
    refine lv_iload_n hx hb dX9_in_5 rfl (lv_at hl 0 rfl) ?_
    refine lv_iload_n hx hb dX9_in_6 rfl (lv_at hl 2 rfl) ?_
    refine lv_icmp_gt (tgt := 14) hx hb dX9_in_7 (by decide) (fun c2 => ?_) (fun c2 => ?_)
    · have hF := it_t hF c2
      refine lv_iconst (v := 0) hx hb dX9_in_14 (by decide) ?_
      exact fr_iret C B hr rfl hlk (by rw [← Option.some.inj hF]) (Nat.le_of_ble_eq_true rfl) (Nat.le_of_ble_eq_true rfl) dX9_in_15
    · have hF := it_f hF c2
      refine lv_iconst (v := 1) hx hb dX9_in_10 (by decide) ?_
      refine lv_goto (tgt := 15) hx hb dX9_in_11 (by decide) ?_
      exact fr_iret C B hr rfl hlk (by rw [← Option.some.inj hF]) (Nat.le_of_ble_eq_true rfl) (Nat.le_of_ble_eq_true rfl) dX9_in_15
def F_X9_keep (M : fw_M) : Option (fw_M) :=
  lt_x (fw_up M 378 6 0) fun M1 =>
  if (¬ (0 : Int32) < 0 ∧ ¬ (0 : Int32) < 0 ∧ ¬ (129 : Int32) < 0 ∧ (0 : Int32).toNatClampNeg + (129 : Int32).toNatClampNeg ≤ 129 ∧ (0 : Int32).toNatClampNeg + (129 : Int32).toNatClampNeg ≤ 129) then
  lt_x (fw_cp M1 379 380 (0 : Int32).toNatClampNeg (0 : Int32).toNatClampNeg (129 : Int32).toNatClampNeg) fun M3 =>
  some M3
  else none
set_option maxHeartbeats 4000000 in
set_option maxRecDepth 100000 in
theorem cm_X9_keep {l : Launch} {X : fw_X} {M : fw_M}  {o : fw_M} (hF : F_X9_keep M = some o) : ct_v l X yX9_keep cX9_keep 1 none ({ frames := 1, cells := 0, slots := 0, locals := 60 } : Room) M [.ref (fw_ad X 378)] (.inl 0, o) := by
  refine fw_open rfl (Nat.le_of_ble_eq_true rfl) (fun p e s m below meth c ls C hr hlk hnm hex hl B => ?_)
  have C : fr_C X p c cX9_keep 1 RX9 s m ([.ref (fw_ad X 378)] : List Value).toArray := C
  have hx := C.1.1
  have hb := C.1.2.1
  have hl : lv_has ls 1 [(0, .ref (fw_ad X 378))] := hl
  unfold F_X9_keep at hF
  refine lv_aload_n hx hb dX9_keep_0 rfl (lv_at hl 0 rfl) ?_
  refine lv_iconst (v := 0) hx hb dX9_keep_1 (by decide) ?_
  refine pf_X9_39 C B dX9_keep_2 (fun H locs B => ?_)
  obtain ⟨M1, eM1, hF⟩ := lt_e hF
  rw [← eM1] at B
  refine lv_aload_n hx hb dX9_keep_5 rfl (lv_at hl 0 rfl) ?_
  refine gf_X9_9 C B dX9_keep_6 ?_
  refine lv_iconst (v := 0) hx hb dX9_keep_9 (by decide) ?_
  refine lv_aload_n hx hb dX9_keep_10 rfl (lv_at hl 0 rfl) ?_
  refine gf_X9_13 C B dX9_keep_11 ?_
  refine lv_iconst (v := 0) hx hb dX9_keep_14 (by decide) ?_
  refine lv_sipush (v := 129) hx hb dX9_keep_15 (by decide) ?_
  obtain ⟨c2, hF⟩ := of_g hF
  refine fr_copy C B ar_9_379 ar_9_380 wm_X9_42 wn_cp wt_cp wi_sys hl.1 c2 (Nat.le_of_ble_eq_true rfl) (Nat.le_of_ble_eq_true rfl) dX9_keep_18 (fun H locs B => ?_)
  obtain ⟨M3, eM3, hF⟩ := lt_e hF
  rw [← eM3] at B
  exact fr_vret C B hr hlk (by rw [← Option.some.inj hF]) (Nat.le_of_ble_eq_true rfl) (Nat.le_of_ble_eq_true rfl) dX9_keep_21
def F_X9_ends_62 (a1 : Int32)  (M : fw_M) : Option (Int32 × fw_M) :=
  if (¬ (0 : Int32) < 0 ∧ ¬ (129 * (M 378 5)) < 0 ∧ ¬ (129 : Int32) < 0 ∧ (0 : Int32).toNatClampNeg + (129 : Int32).toNatClampNeg ≤ 129 ∧ ((129 * (M 378 5)) : Int32).toNatClampNeg + (129 : Int32).toNatClampNeg ≤ 1032) then
  lt_x (fw_cp M 380 382 (0 : Int32).toNatClampNeg ((129 * (M 378 5)) : Int32).toNatClampNeg (129 : Int32).toNatClampNeg) fun M2 =>
  lt_x (fw_up M2 378 5 ((M2 378 5) + 1)) fun M3 =>
  some (a1, M3)
  else none
def F_X9_ends (M : fw_M) (a1 : Int32) : Option (Int32 × fw_M) :=
  if (M 378 6) ≤ 0 then
    if ¬ (M 378 5) = 8 then
      F_X9_ends_62 a1 M
    else
      if (¬ (129 : Int32) < 0 ∧ ¬ (0 : Int32) < 0 ∧ ¬ (903 : Int32) < 0 ∧ (129 : Int32).toNatClampNeg + (903 : Int32).toNatClampNeg ≤ 1032 ∧ (0 : Int32).toNatClampNeg + (903 : Int32).toNatClampNeg ≤ 1032) then
      lt_x (fw_cp M 382 382 (129 : Int32).toNatClampNeg (0 : Int32).toNatClampNeg (903 : Int32).toNatClampNeg) fun M7 =>
      lt_x (fw_up M7 378 5 ((M7 378 5) - 1)) fun M8 =>
      F_X9_ends_62 a1 M8
      else none
  else
    if (¬ (0 : Int32) < 0 ∧ ¬ (0 : Int32) < 0 ∧ ¬ (129 : Int32) < 0 ∧ (0 : Int32).toNatClampNeg + (129 : Int32).toNatClampNeg ≤ 129 ∧ (0 : Int32).toNatClampNeg + (129 : Int32).toNatClampNeg ≤ 129) then
    lt_x (fw_cp M 380 379 (0 : Int32).toNatClampNeg (0 : Int32).toNatClampNeg (129 : Int32).toNatClampNeg) fun M10 =>
    some (0, M10)
    else none
set_option maxHeartbeats 4000000 in
set_option maxRecDepth 100000 in
theorem cm_X9_ends {l : Launch} {X : fw_X} {M : fw_M} {a1 : Int32}  {o : Int32 × fw_M} (hF : F_X9_ends M a1 = some o) : ct_i l X yX9_ends cX9_ends 2 (some .int) ({ frames := 1, cells := 0, slots := 0, locals := 60 } : Room) M [.ref (fw_ad X 378), .int a1] (.inl o.1, o.2) := by
  refine fw_open rfl (Nat.le_of_ble_eq_true rfl) (fun p e s m below meth c ls C hr hlk hnm hex hl B => ?_)
  have C : fr_C X p c cX9_ends 2 RX9 s m ([.ref (fw_ad X 378), .int a1] : List Value).toArray := C
  have hx := C.1.1
  have hb := C.1.2.1
  have hl : lv_has ls 2 [(0, .ref (fw_ad X 378)), (1, .int a1)] := hl
  have hJ62 : ∀ (M : fw_M) (H : Heap) (locs : List Loc) (ls : Array Slot), F_X9_ends_62 a1 M = some o → fr_H X s M H locs → lv_has ls 2 [(0, .ref (fw_ad X 378)), (1, .int a1)] → W p l e ({ frames := 1, cells := 0, slots := 0, locals := 60 } : Room) s m ([.ref (fw_ad X 378), .int a1] : List Value).toArray below meth c H locs 0 0 (vx_MQ below (fw_Qi X (.inl o.1, o.2)) (fw_Qx X (.inl o.1, o.2)) ([.ref (fw_ad X 378), .int a1] : List Value).toArray s 0 0 (fw_A X)) (F0 m 62 ls []) := by
    intro M H locs ls hF B hl
    unfold F_X9_ends_62 at hF
    refine lv_aload_n hx hb dX9_ends_62 rfl (lv_at hl 0 rfl) ?_
    refine gf_X9_13 C B dX9_ends_63 ?_
    refine lv_iconst (v := 0) hx hb dX9_ends_66 (by decide) ?_
    refine lv_aload_n hx hb dX9_ends_67 rfl (lv_at hl 0 rfl) ?_
    refine gf_X9_19 C B dX9_ends_68 ?_
    refine lv_sipush (v := 129) hx hb dX9_ends_71 (by decide) ?_
    refine lv_aload_n hx hb dX9_ends_74 rfl (lv_at hl 0 rfl) ?_
    refine gf_X9_48 C B dX9_ends_75 ?_
    refine lv_imul hx hb dX9_ends_78 ?_
    refine lv_sipush (v := 129) hx hb dX9_ends_79 (by decide) ?_
    obtain ⟨c1, hF⟩ := of_g hF
    refine fr_copy C B ar_9_380 ar_9_382 wm_X9_42 wn_cp wt_cp wi_sys hl.1 c1 (Nat.le_of_ble_eq_true rfl) (Nat.le_of_ble_eq_true rfl) dX9_ends_82 (fun H locs B => ?_)
    obtain ⟨M2, eM2, hF⟩ := lt_e hF
    rw [← eM2] at B
    refine lv_aload_n hx hb dX9_ends_85 rfl (lv_at hl 0 rfl) ?_
    refine lv_dup hx hb dX9_ends_86 rfl ?_
    refine gf_X9_48 C B dX9_ends_87 ?_
    refine lv_iconst (v := 1) hx hb dX9_ends_90 (by decide) ?_
    refine lv_iadd hx hb dX9_ends_91 ?_
    refine pf_X9_48 C B dX9_ends_92 (fun H locs B => ?_)
    obtain ⟨M3, eM3, hF⟩ := lt_e hF
    rw [← eM3] at B
    refine lv_iload_n hx hb dX9_ends_95 rfl (lv_at hl 1 rfl) ?_
    exact fr_iret C B hr rfl hlk (by rw [← Option.some.inj hF]) (Nat.le_of_ble_eq_true rfl) (Nat.le_of_ble_eq_true rfl) dX9_ends_96
  unfold F_X9_ends at hF
  refine lv_aload_n hx hb dX9_ends_0 rfl (lv_at hl 0 rfl) ?_
  refine gf_X9_39 C B dX9_ends_1 ?_
  refine lv_if_le (tgt := 25) hx hb dX9_ends_4 (by decide) (fun c4 => ?_) (fun c4 => ?_)
  · have hF := it_t hF c4
    refine lv_aload_n hx hb dX9_ends_25 rfl (lv_at hl 0 rfl) ?_
    refine gf_X9_48 C B dX9_ends_26 ?_
    refine lv_bipush (v := 8) hx hb dX9_ends_29 (by decide) ?_
    refine lv_icmp_ne (tgt := 62) hx hb dX9_ends_31 (by decide) (fun c5 => ?_) (fun c5 => ?_)
    · have hF := it_t hF c5
      exact hJ62 M _ _ _ hF B (lv_sub hl [0, 1] rfl)
    · have hF := it_f hF (not_not_intro c5)
      refine lv_aload_n hx hb dX9_ends_34 rfl (lv_at hl 0 rfl) ?_
      refine gf_X9_19 C B dX9_ends_35 ?_
      refine lv_sipush (v := 129) hx hb dX9_ends_38 (by decide) ?_
      refine lv_aload_n hx hb dX9_ends_41 rfl (lv_at hl 0 rfl) ?_
      refine gf_X9_19 C B dX9_ends_42 ?_
      refine lv_iconst (v := 0) hx hb dX9_ends_45 (by decide) ?_
      refine lv_sipush (v := 903) hx hb dX9_ends_46 (by decide) ?_
      obtain ⟨c6, hF⟩ := of_g hF
      refine fr_copy C B ar_9_382 ar_9_382 wm_X9_42 wn_cp wt_cp wi_sys hl.1 c6 (Nat.le_of_ble_eq_true rfl) (Nat.le_of_ble_eq_true rfl) dX9_ends_49 (fun H locs B => ?_)
      obtain ⟨M7, eM7, hF⟩ := lt_e hF
      rw [← eM7] at B
      refine lv_aload_n hx hb dX9_ends_52 rfl (lv_at hl 0 rfl) ?_
      refine lv_dup hx hb dX9_ends_53 rfl ?_
      refine gf_X9_48 C B dX9_ends_54 ?_
      refine lv_iconst (v := 1) hx hb dX9_ends_57 (by decide) ?_
      refine lv_isub hx hb dX9_ends_58 ?_
      refine pf_X9_48 C B dX9_ends_59 (fun H locs B => ?_)
      obtain ⟨M8, eM8, hF⟩ := lt_e hF
      rw [← eM8] at B
      exact hJ62 M8 _ _ _ hF B (lv_sub hl [0, 1] rfl)
  · have hF := it_f hF c4
    refine lv_aload_n hx hb dX9_ends_7 rfl (lv_at hl 0 rfl) ?_
    refine gf_X9_13 C B dX9_ends_8 ?_
    refine lv_iconst (v := 0) hx hb dX9_ends_11 (by decide) ?_
    refine lv_aload_n hx hb dX9_ends_12 rfl (lv_at hl 0 rfl) ?_
    refine gf_X9_9 C B dX9_ends_13 ?_
    refine lv_iconst (v := 0) hx hb dX9_ends_16 (by decide) ?_
    refine lv_sipush (v := 129) hx hb dX9_ends_17 (by decide) ?_
    obtain ⟨c9, hF⟩ := of_g hF
    refine fr_copy C B ar_9_380 ar_9_379 wm_X9_42 wn_cp wt_cp wi_sys hl.1 c9 (Nat.le_of_ble_eq_true rfl) (Nat.le_of_ble_eq_true rfl) dX9_ends_20 (fun H locs B => ?_)
    obtain ⟨M10, eM10, hF⟩ := lt_e hF
    rw [← eM10] at B
    refine lv_iconst (v := 0) hx hb dX9_ends_23 (by decide) ?_
    exact fr_iret C B hr rfl hlk (by rw [← Option.some.inj hF]) (Nat.le_of_ble_eq_true rfl) (Nat.le_of_ble_eq_true rfl) dX9_ends_24
def F_X9_fails (M : fw_M) (a1 : Int32) : Option (Int32 × fw_M) :=
  lt_x (fw_up M 378 6 a1) fun M1 =>
  some (0, M1)
set_option maxHeartbeats 4000000 in
set_option maxRecDepth 100000 in
theorem cm_X9_fails {l : Launch} {X : fw_X} {M : fw_M} {a1 : Int32}  {o : Int32 × fw_M} (hF : F_X9_fails M a1 = some o) : ct_i l X yX9_fails cX9_fails 2 (some .int) ({ frames := 0, cells := 0, slots := 0, locals := 0 } : Room) M [.ref (fw_ad X 378), .int a1] (.inl o.1, o.2) := by
  refine fw_open rfl (Nat.le_of_ble_eq_true rfl) (fun p e s m below meth c ls C hr hlk hnm hex hl B => ?_)
  have C : fr_C X p c cX9_fails 2 RX9 s m ([.ref (fw_ad X 378), .int a1] : List Value).toArray := C
  have hx := C.1.1
  have hb := C.1.2.1
  have hl : lv_has ls 2 [(0, .ref (fw_ad X 378)), (1, .int a1)] := hl
  unfold F_X9_fails at hF
  refine lv_aload_n hx hb dX9_fails_0 rfl (lv_at hl 0 rfl) ?_
  refine lv_iload_n hx hb dX9_fails_1 rfl (lv_at hl 1 rfl) ?_
  refine pf_X9_39 C B dX9_fails_2 (fun H locs B => ?_)
  obtain ⟨M1, eM1, hF⟩ := lt_e hF
  rw [← eM1] at B
  refine lv_iconst (v := 0) hx hb dX9_fails_5 (by decide) ?_
  exact fr_iret C B hr rfl hlk (by rw [← Option.some.inj hF]) (Nat.le_of_ble_eq_true rfl) (Nat.le_of_ble_eq_true rfl) dX9_fails_6
def F_X9_isThere (M : fw_M) (a1 : Int32) : Option (Int32 × fw_M) :=
  if a1 = 0 then
    lt_x (fw_up M 378 6 1) fun M2 =>
    if (a1 = 0 ∨ a1 = 1) then
    some (a1, M2)
    else none
  else
    lt_x (fw_up M 378 6 0) fun M4 =>
    if (a1 = 0 ∨ a1 = 1) then
    some (a1, M4)
    else none
set_option maxHeartbeats 4000000 in
set_option maxRecDepth 100000 in
theorem cm_X9_isThere {l : Launch} {X : fw_X} {M : fw_M} {a1 : Int32}  {o : Int32 × fw_M} (hF : F_X9_isThere M a1 = some o) : ct_i l X yX9_isThere cX9_isThere 2 (some .boolean) ({ frames := 0, cells := 0, slots := 0, locals := 0 } : Room) M [.ref (fw_ad X 378), .int a1] (.inl o.1, o.2) := by
  refine fw_open rfl (Nat.le_of_ble_eq_true rfl) (fun p e s m below meth c ls C hr hlk hnm hex hl B => ?_)
  have C : fr_C X p c cX9_isThere 2 RX9 s m ([.ref (fw_ad X 378), .int a1] : List Value).toArray := C
  have hx := C.1.1
  have hb := C.1.2.1
  have hl : lv_has ls 2 [(0, .ref (fw_ad X 378)), (1, .int a1)] := hl
  unfold F_X9_isThere at hF
  refine lv_aload_n hx hb dX9_isThere_0 rfl (lv_at hl 0 rfl) ?_
  refine lv_iload_n hx hb dX9_isThere_1 rfl (lv_at hl 1 rfl) ?_
  refine lv_if_eq (tgt := 9) hx hb dX9_isThere_2 (by decide) (fun c1 => ?_) (fun c1 => ?_)
  · have hF := it_t hF c1
    refine lv_iconst (v := 1) hx hb dX9_isThere_9 (by decide) ?_
    refine pf_X9_39 C B dX9_isThere_10 (fun H locs B => ?_)
    obtain ⟨M2, eM2, hF⟩ := lt_e hF
    rw [← eM2] at B
    refine lv_iload_n hx hb dX9_isThere_13 rfl (lv_at hl 1 rfl) ?_
    obtain ⟨c3, hF⟩ := of_g hF
    exact fr_iret C B hr (nz_b c3) hlk (by rw [← Option.some.inj hF]) (Nat.le_of_ble_eq_true rfl) (Nat.le_of_ble_eq_true rfl) dX9_isThere_14
  · have hF := it_f hF c1
    refine lv_iconst (v := 0) hx hb dX9_isThere_5 (by decide) ?_
    refine lv_goto (tgt := 10) hx hb dX9_isThere_6 (by decide) ?_
    refine pf_X9_39 C B dX9_isThere_10 (fun H locs B => ?_)
    obtain ⟨M4, eM4, hF⟩ := lt_e hF
    rw [← eM4] at B
    refine lv_iload_n hx hb dX9_isThere_13 rfl (lv_at hl 1 rfl) ?_
    obtain ⟨c5, hF⟩ := of_g hF
    exact fr_iret C B hr (nz_b c5) hlk (by rw [← Option.some.inj hF]) (Nat.le_of_ble_eq_true rfl) (Nat.le_of_ble_eq_true rfl) dX9_isThere_14
def F_X9_isStop (M : fw_M) (a1 : Int32) : Option (Int32) :=
  if ix_i 0 129 then
  bd_x (F_X9_in M a1 0 ((fw_ri M 379 0) - 1)) fun r3 =>
  if (r3 = 0 ∨ r3 = 1) then
  some r3
  else none
  else none
set_option maxHeartbeats 4000000 in
set_option maxRecDepth 100000 in
theorem cm_X9_isStop {l : Launch} {X : fw_X} {M : fw_M} {a1 : Int32}  {o : Int32} (hF : F_X9_isStop M a1 = some o) : ct_i l X yX9_isStop cX9_isStop 2 (some .boolean) ({ frames := 1, cells := 0, slots := 0, locals := 22 } : Room) M [.ref (fw_ad X 378), .int a1] (.inl o, M) := by
  refine fw_open rfl (Nat.le_of_ble_eq_true rfl) (fun p e s m below meth c ls C hr hlk hnm hex hl B => ?_)
  have C : fr_C X p c cX9_isStop 2 RX9 s m ([.ref (fw_ad X 378), .int a1] : List Value).toArray := C
  have hx := C.1.1
  have hb := C.1.2.1
  have hl : lv_has ls 2 [(0, .ref (fw_ad X 378)), (1, .int a1)] := hl
  unfold F_X9_isStop at hF
  refine lv_iload_n hx hb dX9_isStop_0 rfl (lv_at hl 1 rfl) ?_
  refine lv_iconst (v := 0) hx hb dX9_isStop_1 (by decide) ?_
  refine lv_aload_n hx hb dX9_isStop_2 rfl (lv_at hl 0 rfl) ?_
  refine gf_X9_9 C B dX9_isStop_3 ?_
  refine lv_iconst (v := 0) hx hb dX9_isStop_6 (by decide) ?_
  obtain ⟨c1, hF⟩ := of_g hF
  refine fr_ia C B ar_9_379 c1 dX9_isStop_7 ?_
  refine lv_iconst (v := 1) hx hb dX9_isStop_8 (by decide) ?_
  refine lv_isub hx hb dX9_isStop_9 ?_
  obtain ⟨r3, hf2, hF⟩ := bx_e hF
  refine fr_cSi (As := [.int a1, .int 0, .int ((fw_ri M 379 0) - 1)]) (rest := []) C B (cm_X9_in hf2) yw_X9_in wm_X9_51 rfl hl.1 rfl (Nat.le_of_ble_eq_true rfl) ⟨Nat.le_of_ble_eq_true rfl, Nat.le_of_ble_eq_true rfl⟩ ⟨Nat.le_of_ble_eq_true rfl, Nat.le_of_ble_eq_true rfl⟩ dX9_isStop_10 (fr_nx rfl) (fun r9 M9 H locs ho9 B => ?_)
  obtain ⟨rfl, rfl⟩ := oi_e ho9
  obtain ⟨c5, hF⟩ := of_g hF
  exact fr_iret C B hr (nz_b c5) hlk (by rw [← Option.some.inj hF]) (Nat.le_of_ble_eq_true rfl) (Nat.le_of_ble_eq_true rfl) dX9_isStop_13
def F_X9_isLine (M : fw_M) (a1 : Int32) : Option (Int32) :=
  if ix_i 1 129 then
  bd_x (F_X9_in M a1 0 ((fw_ri M 379 1) - 1)) fun r3 =>
  if (r3 = 0 ∨ r3 = 1) then
  some r3
  else none
  else none
set_option maxHeartbeats 4000000 in
set_option maxRecDepth 100000 in
theorem cm_X9_isLine {l : Launch} {X : fw_X} {M : fw_M} {a1 : Int32}  {o : Int32} (hF : F_X9_isLine M a1 = some o) : ct_i l X yX9_isLine cX9_isLine 2 (some .boolean) ({ frames := 1, cells := 0, slots := 0, locals := 22 } : Room) M [.ref (fw_ad X 378), .int a1] (.inl o, M) := by
  refine fw_open rfl (Nat.le_of_ble_eq_true rfl) (fun p e s m below meth c ls C hr hlk hnm hex hl B => ?_)
  have C : fr_C X p c cX9_isLine 2 RX9 s m ([.ref (fw_ad X 378), .int a1] : List Value).toArray := C
  have hx := C.1.1
  have hb := C.1.2.1
  have hl : lv_has ls 2 [(0, .ref (fw_ad X 378)), (1, .int a1)] := hl
  unfold F_X9_isLine at hF
  refine lv_iload_n hx hb dX9_isLine_0 rfl (lv_at hl 1 rfl) ?_
  refine lv_iconst (v := 0) hx hb dX9_isLine_1 (by decide) ?_
  refine lv_aload_n hx hb dX9_isLine_2 rfl (lv_at hl 0 rfl) ?_
  refine gf_X9_9 C B dX9_isLine_3 ?_
  refine lv_iconst (v := 1) hx hb dX9_isLine_6 (by decide) ?_
  obtain ⟨c1, hF⟩ := of_g hF
  refine fr_ia C B ar_9_379 c1 dX9_isLine_7 ?_
  refine lv_iconst (v := 1) hx hb dX9_isLine_8 (by decide) ?_
  refine lv_isub hx hb dX9_isLine_9 ?_
  obtain ⟨r3, hf2, hF⟩ := bx_e hF
  refine fr_cSi (As := [.int a1, .int 0, .int ((fw_ri M 379 1) - 1)]) (rest := []) C B (cm_X9_in hf2) yw_X9_in wm_X9_51 rfl hl.1 rfl (Nat.le_of_ble_eq_true rfl) ⟨Nat.le_of_ble_eq_true rfl, Nat.le_of_ble_eq_true rfl⟩ ⟨Nat.le_of_ble_eq_true rfl, Nat.le_of_ble_eq_true rfl⟩ dX9_isLine_10 (fr_nx rfl) (fun r9 M9 H locs ho9 B => ?_)
  obtain ⟨rfl, rfl⟩ := oi_e ho9
  obtain ⟨c5, hF⟩ := of_g hF
  exact fr_iret C B hr (nz_b c5) hlk (by rw [← Option.some.inj hF]) (Nat.le_of_ble_eq_true rfl) (Nat.le_of_ble_eq_true rfl) dX9_isLine_13
def F_X9_isTram (M : fw_M) (a1 : Int32) : Option (Int32) :=
  if ix_i 2 129 then
  bd_x (F_X9_in M a1 0 ((fw_ri M 379 2) - 1)) fun r3 =>
  if (r3 = 0 ∨ r3 = 1) then
  some r3
  else none
  else none
set_option maxHeartbeats 4000000 in
set_option maxRecDepth 100000 in
theorem cm_X9_isTram {l : Launch} {X : fw_X} {M : fw_M} {a1 : Int32}  {o : Int32} (hF : F_X9_isTram M a1 = some o) : ct_i l X yX9_isTram cX9_isTram 2 (some .boolean) ({ frames := 1, cells := 0, slots := 0, locals := 22 } : Room) M [.ref (fw_ad X 378), .int a1] (.inl o, M) := by
  refine fw_open rfl (Nat.le_of_ble_eq_true rfl) (fun p e s m below meth c ls C hr hlk hnm hex hl B => ?_)
  have C : fr_C X p c cX9_isTram 2 RX9 s m ([.ref (fw_ad X 378), .int a1] : List Value).toArray := C
  have hx := C.1.1
  have hb := C.1.2.1
  have hl : lv_has ls 2 [(0, .ref (fw_ad X 378)), (1, .int a1)] := hl
  unfold F_X9_isTram at hF
  refine lv_iload_n hx hb dX9_isTram_0 rfl (lv_at hl 1 rfl) ?_
  refine lv_iconst (v := 0) hx hb dX9_isTram_1 (by decide) ?_
  refine lv_aload_n hx hb dX9_isTram_2 rfl (lv_at hl 0 rfl) ?_
  refine gf_X9_9 C B dX9_isTram_3 ?_
  refine lv_iconst (v := 2) hx hb dX9_isTram_6 (by decide) ?_
  obtain ⟨c1, hF⟩ := of_g hF
  refine fr_ia C B ar_9_379 c1 dX9_isTram_7 ?_
  refine lv_iconst (v := 1) hx hb dX9_isTram_8 (by decide) ?_
  refine lv_isub hx hb dX9_isTram_9 ?_
  obtain ⟨r3, hf2, hF⟩ := bx_e hF
  refine fr_cSi (As := [.int a1, .int 0, .int ((fw_ri M 379 2) - 1)]) (rest := []) C B (cm_X9_in hf2) yw_X9_in wm_X9_51 rfl hl.1 rfl (Nat.le_of_ble_eq_true rfl) ⟨Nat.le_of_ble_eq_true rfl, Nat.le_of_ble_eq_true rfl⟩ ⟨Nat.le_of_ble_eq_true rfl, Nat.le_of_ble_eq_true rfl⟩ dX9_isTram_10 (fr_nx rfl) (fun r9 M9 H locs ho9 B => ?_)
  obtain ⟨rfl, rfl⟩ := oi_e ho9
  obtain ⟨c5, hF⟩ := of_g hF
  exact fr_iret C B hr (nz_b c5) hlk (by rw [← Option.some.inj hF]) (Nat.le_of_ble_eq_true rfl) (Nat.le_of_ble_eq_true rfl) dX9_isTram_13
def F_X9_isPassenger (M : fw_M) (a1 : Int32) : Option (Int32) :=
  if ix_i 3 129 then
  bd_x (F_X9_in M a1 0 ((fw_ri M 379 3) - 1)) fun r3 =>
  if (r3 = 0 ∨ r3 = 1) then
  some r3
  else none
  else none
set_option maxHeartbeats 4000000 in
set_option maxRecDepth 100000 in
theorem cm_X9_isPassenger {l : Launch} {X : fw_X} {M : fw_M} {a1 : Int32}  {o : Int32} (hF : F_X9_isPassenger M a1 = some o) : ct_i l X yX9_isPassenger cX9_isPassenger 2 (some .boolean) ({ frames := 1, cells := 0, slots := 0, locals := 22 } : Room) M [.ref (fw_ad X 378), .int a1] (.inl o, M) := by
  refine fw_open rfl (Nat.le_of_ble_eq_true rfl) (fun p e s m below meth c ls C hr hlk hnm hex hl B => ?_)
  have C : fr_C X p c cX9_isPassenger 2 RX9 s m ([.ref (fw_ad X 378), .int a1] : List Value).toArray := C
  have hx := C.1.1
  have hb := C.1.2.1
  have hl : lv_has ls 2 [(0, .ref (fw_ad X 378)), (1, .int a1)] := hl
  unfold F_X9_isPassenger at hF
  refine lv_iload_n hx hb dX9_isPassenger_0 rfl (lv_at hl 1 rfl) ?_
  refine lv_iconst (v := 0) hx hb dX9_isPassenger_1 (by decide) ?_
  refine lv_aload_n hx hb dX9_isPassenger_2 rfl (lv_at hl 0 rfl) ?_
  refine gf_X9_9 C B dX9_isPassenger_3 ?_
  refine lv_iconst (v := 3) hx hb dX9_isPassenger_6 (by decide) ?_
  obtain ⟨c1, hF⟩ := of_g hF
  refine fr_ia C B ar_9_379 c1 dX9_isPassenger_7 ?_
  refine lv_iconst (v := 1) hx hb dX9_isPassenger_8 (by decide) ?_
  refine lv_isub hx hb dX9_isPassenger_9 ?_
  obtain ⟨r3, hf2, hF⟩ := bx_e hF
  refine fr_cSi (As := [.int a1, .int 0, .int ((fw_ri M 379 3) - 1)]) (rest := []) C B (cm_X9_in hf2) yw_X9_in wm_X9_51 rfl hl.1 rfl (Nat.le_of_ble_eq_true rfl) ⟨Nat.le_of_ble_eq_true rfl, Nat.le_of_ble_eq_true rfl⟩ ⟨Nat.le_of_ble_eq_true rfl, Nat.le_of_ble_eq_true rfl⟩ dX9_isPassenger_10 (fr_nx rfl) (fun r9 M9 H locs ho9 B => ?_)
  obtain ⟨rfl, rfl⟩ := oi_e ho9
  obtain ⟨c5, hF⟩ := of_g hF
  exact fr_iret C B hr (nz_b c5) hlk (by rw [← Option.some.inj hF]) (Nat.le_of_ble_eq_true rfl) (Nat.le_of_ble_eq_true rfl) dX9_isPassenger_13
def F_X9_isSecret (M : fw_M) (a1 : Int32) : Option (Int32) :=
  if ix_i 4 129 then
  bd_x (F_X9_in M a1 0 ((fw_ri M 379 4) - 1)) fun r3 =>
  if (r3 = 0 ∨ r3 = 1) then
  some r3
  else none
  else none
set_option maxHeartbeats 4000000 in
set_option maxRecDepth 100000 in
theorem cm_X9_isSecret {l : Launch} {X : fw_X} {M : fw_M} {a1 : Int32}  {o : Int32} (hF : F_X9_isSecret M a1 = some o) : ct_i l X yX9_isSecret cX9_isSecret 2 (some .boolean) ({ frames := 1, cells := 0, slots := 0, locals := 22 } : Room) M [.ref (fw_ad X 378), .int a1] (.inl o, M) := by
  refine fw_open rfl (Nat.le_of_ble_eq_true rfl) (fun p e s m below meth c ls C hr hlk hnm hex hl B => ?_)
  have C : fr_C X p c cX9_isSecret 2 RX9 s m ([.ref (fw_ad X 378), .int a1] : List Value).toArray := C
  have hx := C.1.1
  have hb := C.1.2.1
  have hl : lv_has ls 2 [(0, .ref (fw_ad X 378)), (1, .int a1)] := hl
  unfold F_X9_isSecret at hF
  refine lv_iload_n hx hb dX9_isSecret_0 rfl (lv_at hl 1 rfl) ?_
  refine lv_iconst (v := 0) hx hb dX9_isSecret_1 (by decide) ?_
  refine lv_aload_n hx hb dX9_isSecret_2 rfl (lv_at hl 0 rfl) ?_
  refine gf_X9_9 C B dX9_isSecret_3 ?_
  refine lv_iconst (v := 4) hx hb dX9_isSecret_6 (by decide) ?_
  obtain ⟨c1, hF⟩ := of_g hF
  refine fr_ia C B ar_9_379 c1 dX9_isSecret_7 ?_
  refine lv_iconst (v := 1) hx hb dX9_isSecret_8 (by decide) ?_
  refine lv_isub hx hb dX9_isSecret_9 ?_
  obtain ⟨r3, hf2, hF⟩ := bx_e hF
  refine fr_cSi (As := [.int a1, .int 0, .int ((fw_ri M 379 4) - 1)]) (rest := []) C B (cm_X9_in hf2) yw_X9_in wm_X9_51 rfl hl.1 rfl (Nat.le_of_ble_eq_true rfl) ⟨Nat.le_of_ble_eq_true rfl, Nat.le_of_ble_eq_true rfl⟩ ⟨Nat.le_of_ble_eq_true rfl, Nat.le_of_ble_eq_true rfl⟩ dX9_isSecret_10 (fr_nx rfl) (fun r9 M9 H locs ho9 B => ?_)
  obtain ⟨rfl, rfl⟩ := oi_e ho9
  obtain ⟨c5, hF⟩ := of_g hF
  exact fr_iret C B hr (nz_b c5) hlk (by rw [← Option.some.inj hF]) (Nat.le_of_ble_eq_true rfl) (Nat.le_of_ble_eq_true rfl) dX9_isSecret_13
def F_X9_lengthOf (M : fw_M) (a1 : Int32) : Option (Int32) :=
  if ix_i (16 + (7 * a1)) 129 then
  some (fw_ri M 379 (16 + (7 * a1)))
  else none
set_option maxHeartbeats 4000000 in
set_option maxRecDepth 100000 in
theorem cm_X9_lengthOf {l : Launch} {X : fw_X} {M : fw_M} {a1 : Int32}  {o : Int32} (hF : F_X9_lengthOf M a1 = some o) : ct_i l X yX9_lengthOf cX9_lengthOf 2 (some .int) ({ frames := 0, cells := 0, slots := 0, locals := 0 } : Room) M [.ref (fw_ad X 378), .int a1] (.inl o, M) := by
  refine fw_open rfl (Nat.le_of_ble_eq_true rfl) (fun p e s m below meth c ls C hr hlk hnm hex hl B => ?_)
  have C : fr_C X p c cX9_lengthOf 2 RX9 s m ([.ref (fw_ad X 378), .int a1] : List Value).toArray := C
  have hx := C.1.1
  have hb := C.1.2.1
  have hl : lv_has ls 2 [(0, .ref (fw_ad X 378)), (1, .int a1)] := hl
  unfold F_X9_lengthOf at hF
  refine lv_aload_n hx hb dX9_lengthOf_0 rfl (lv_at hl 0 rfl) ?_
  refine gf_X9_9 C B dX9_lengthOf_1 ?_
  refine lv_bipush (v := 16) hx hb dX9_lengthOf_4 (by decide) ?_
  refine lv_bipush (v := 7) hx hb dX9_lengthOf_6 (by decide) ?_
  refine lv_iload_n hx hb dX9_lengthOf_8 rfl (lv_at hl 1 rfl) ?_
  refine lv_imul hx hb dX9_lengthOf_9 ?_
  refine lv_iadd hx hb dX9_lengthOf_10 ?_
  obtain ⟨c1, hF⟩ := of_g hF
  refine fr_ia C B ar_9_379 c1 dX9_lengthOf_11 ?_
  exact fr_iret C B hr rfl hlk (by rw [← Option.some.inj hF]) (Nat.le_of_ble_eq_true rfl) (Nat.le_of_ble_eq_true rfl) dX9_lengthOf_12
def F_X9_stopOf (M : fw_M) (a1 : Int32) (a2 : Int32) : Option (Int32) :=
  if ix_i (((16 + (7 * a1)) + 1) + a2) 129 then
  some (fw_ri M 379 (((16 + (7 * a1)) + 1) + a2))
  else none
set_option maxHeartbeats 4000000 in
set_option maxRecDepth 100000 in
theorem cm_X9_stopOf {l : Launch} {X : fw_X} {M : fw_M} {a1 : Int32} {a2 : Int32}  {o : Int32} (hF : F_X9_stopOf M a1 a2 = some o) : ct_i l X yX9_stopOf cX9_stopOf 3 (some .int) ({ frames := 0, cells := 0, slots := 0, locals := 0 } : Room) M [.ref (fw_ad X 378), .int a1, .int a2] (.inl o, M) := by
  refine fw_open rfl (Nat.le_of_ble_eq_true rfl) (fun p e s m below meth c ls C hr hlk hnm hex hl B => ?_)
  have C : fr_C X p c cX9_stopOf 3 RX9 s m ([.ref (fw_ad X 378), .int a1, .int a2] : List Value).toArray := C
  have hx := C.1.1
  have hb := C.1.2.1
  have hl : lv_has ls 3 [(0, .ref (fw_ad X 378)), (1, .int a1), (2, .int a2)] := hl
  unfold F_X9_stopOf at hF
  refine lv_aload_n hx hb dX9_stopOf_0 rfl (lv_at hl 0 rfl) ?_
  refine gf_X9_9 C B dX9_stopOf_1 ?_
  refine lv_bipush (v := 16) hx hb dX9_stopOf_4 (by decide) ?_
  refine lv_bipush (v := 7) hx hb dX9_stopOf_6 (by decide) ?_
  refine lv_iload_n hx hb dX9_stopOf_8 rfl (lv_at hl 1 rfl) ?_
  refine lv_imul hx hb dX9_stopOf_9 ?_
  refine lv_iadd hx hb dX9_stopOf_10 ?_
  refine lv_iconst (v := 1) hx hb dX9_stopOf_11 (by decide) ?_
  refine lv_iadd hx hb dX9_stopOf_12 ?_
  refine lv_iload_n hx hb dX9_stopOf_13 rfl (lv_at hl 2 rfl) ?_
  refine lv_iadd hx hb dX9_stopOf_14 ?_
  obtain ⟨c1, hF⟩ := of_g hF
  refine fr_ia C B ar_9_379 c1 dX9_stopOf_15 ?_
  exact fr_iret C B hr rfl hlk (by rw [← Option.some.inj hF]) (Nat.le_of_ble_eq_true rfl) (Nat.le_of_ble_eq_true rfl) dX9_stopOf_16
def F_X9_positionOf_5 (M : fw_M) (a1 : Int32) (a2 : Int32)  : Nat → Int32 → Int32 → Option (Int32)
  | 0, _, _ => none
  | n + 1, x3, x4 =>
    bd_x (F_X9_lengthOf M a1) fun r2 =>
    if r2 ≤ x4 then
      some x3
    else
      bd_x (F_X9_stopOf M a1 x4) fun r6 =>
      if ¬ r6 = a2 then
        F_X9_positionOf_5 M a1 a2 n x3 (x4 + 1)
      else
        F_X9_positionOf_5 M a1 a2 n x4 (x4 + 1)
def F_X9_positionOf (M : fw_M) (a1 : Int32) (a2 : Int32) : Option (Int32) :=
  F_X9_positionOf_5 M a1 a2 64 (-1) 0
set_option maxHeartbeats 4000000 in
set_option maxRecDepth 100000 in
theorem cm_X9_positionOf {l : Launch} {X : fw_X} {M : fw_M} {a1 : Int32} {a2 : Int32}  {o : Int32} (hF : F_X9_positionOf M a1 a2 = some o) : ct_i l X yX9_positionOf cX9_positionOf 5 (some .int) ({ frames := 1, cells := 0, slots := 0, locals := 22 } : Room) M [.ref (fw_ad X 378), .int a1, .int a2] (.inl o, M) := by
  refine fw_open rfl (Nat.le_of_ble_eq_true rfl) (fun p e s m below meth c ls C hr hlk hnm hex hl B => ?_)
  have C : fr_C X p c cX9_positionOf 5 RX9 s m ([.ref (fw_ad X 378), .int a1, .int a2] : List Value).toArray := C
  have hx := C.1.1
  have hb := C.1.2.1
  have hl : lv_has ls 5 [(0, .ref (fw_ad X 378)), (1, .int a1), (2, .int a2)] := hl
  have hJ5 : ∀ (n : Nat), ∀ (x3 : Int32) (x4 : Int32) (H : Heap) (locs : List Loc) (ls : Array Slot), F_X9_positionOf_5 M a1 a2 n x3 x4 = some o → fr_H X s M H locs → lv_has ls 5 [(0, .ref (fw_ad X 378)), (1, .int a1), (2, .int a2), (3, .int x3), (4, .int x4)] → W p l e ({ frames := 1, cells := 0, slots := 0, locals := 22 } : Room) s m ([.ref (fw_ad X 378), .int a1, .int a2] : List Value).toArray below meth c H locs 0 0 (vx_MQ below (fw_Qi X (.inl o, M)) (fw_Qx X (.inl o, M)) ([.ref (fw_ad X 378), .int a1, .int a2] : List Value).toArray s 0 0 (fw_A X)) (F0 m 5 ls []) := by
    intro n
    induction n with
    | zero =>
      intro x3 x4 H locs ls hF B hl
      exact absurd hF (by simp [F_X9_positionOf_5])
    | succ n ih =>
      intro x3 x4 H locs ls hF B hl
      rw [F_X9_positionOf_5] at hF
      refine lv_iload hx hb dX9_positionOf_5 (lv_at hl 4 rfl) ?_
      refine lv_aload_n hx hb dX9_positionOf_7 rfl (lv_at hl 0 rfl) ?_
      refine lv_iload_n hx hb dX9_positionOf_8 rfl (lv_at hl 1 rfl) ?_
      obtain ⟨r2, hf1, hF⟩ := bx_e hF
      refine fr_cVi (As := [.int a1]) (rest := [.int x4]) C B (cm_X9_lengthOf hf1) ob_9 rfl yw_X9_lengthOf wm_X9_55 rfl hl.1 rfl (Nat.le_of_ble_eq_true rfl) ⟨Nat.le_of_ble_eq_true rfl, Nat.le_of_ble_eq_true rfl⟩ ⟨Nat.le_of_ble_eq_true rfl, Nat.le_of_ble_eq_true rfl⟩ dX9_positionOf_9 (fr_nx rfl) (fun r9 M9 H locs ho9 B => ?_)
      obtain ⟨rfl, rfl⟩ := oi_e ho9
      refine lv_icmp_ge (tgt := 39) hx hb dX9_positionOf_12 (by decide) (fun c4 => ?_) (fun c4 => ?_)
      · have hF := it_t hF c4
        refine lv_iload_n hx hb dX9_positionOf_39 rfl (lv_at hl 3 rfl) ?_
        exact fr_iret C B hr rfl hlk (by rw [← Option.some.inj hF]) (Nat.le_of_ble_eq_true rfl) (Nat.le_of_ble_eq_true rfl) dX9_positionOf_40
      · have hF := it_f hF c4
        refine lv_aload_n hx hb dX9_positionOf_15 rfl (lv_at hl 0 rfl) ?_
        refine lv_iload_n hx hb dX9_positionOf_16 rfl (lv_at hl 1 rfl) ?_
        refine lv_iload hx hb dX9_positionOf_17 (lv_at hl 4 rfl) ?_
        obtain ⟨r6, hf5, hF⟩ := bx_e hF
        refine fr_cVi (As := [.int a1, .int x4]) (rest := []) C B (cm_X9_stopOf hf5) ob_9 rfl yw_X9_stopOf wm_X9_59 rfl hl.1 rfl (Nat.le_of_ble_eq_true rfl) ⟨Nat.le_of_ble_eq_true rfl, Nat.le_of_ble_eq_true rfl⟩ ⟨Nat.le_of_ble_eq_true rfl, Nat.le_of_ble_eq_true rfl⟩ dX9_positionOf_19 (fr_nx rfl) (fun r9 M9 H locs ho9 B => ?_)
        obtain ⟨rfl, rfl⟩ := oi_e ho9
        refine lv_iload_n hx hb dX9_positionOf_22 rfl (lv_at hl 2 rfl) ?_
        refine lv_icmp_ne (tgt := 31) hx hb dX9_positionOf_23 (by decide) (fun c8 => ?_) (fun c8 => ?_)
        · have hF := it_t hF c8
          refine lv_iload_n hx hb dX9_positionOf_31 rfl (lv_at hl 3 rfl) ?_
          refine lv_istore_n (lv' := [(3, .int x3), (0, .ref (fw_ad X 378)), (1, .int a1), (2, .int a2), (4, .int x4)]) hx hb dX9_positionOf_32 rfl hl (by decide) rfl (fun ls hl => ?_)
          refine lv_iinc (v := (x4 + 1)) (lv' := [(4, .int (x4 + 1)), (3, .int x3), (0, .ref (fw_ad X 378)), (1, .int a1), (2, .int a2)]) hx hb dX9_positionOf_33 hl (k := 4) rfl rfl (by decide) rfl (fun ls hl => ?_)
          refine lv_goto (tgt := 5) hx hb dX9_positionOf_36 (by decide) ?_
          exact ih x3 (x4 + 1) _ _ _ hF B (lv_sub hl [2, 3, 4, 1, 0] rfl)
        · have hF := it_f hF (not_not_intro c8)
          refine lv_iload hx hb dX9_positionOf_26 (lv_at hl 4 rfl) ?_
          refine lv_goto (tgt := 32) hx hb dX9_positionOf_28 (by decide) ?_
          refine lv_istore_n (lv' := [(3, .int x4), (0, .ref (fw_ad X 378)), (1, .int a1), (2, .int a2), (4, .int x4)]) hx hb dX9_positionOf_32 rfl hl (by decide) rfl (fun ls hl => ?_)
          refine lv_iinc (v := (x4 + 1)) (lv' := [(4, .int (x4 + 1)), (3, .int x4), (0, .ref (fw_ad X 378)), (1, .int a1), (2, .int a2)]) hx hb dX9_positionOf_33 hl (k := 4) rfl rfl (by decide) rfl (fun ls hl => ?_)
          refine lv_goto (tgt := 5) hx hb dX9_positionOf_36 (by decide) ?_
          exact ih x4 (x4 + 1) _ _ _ hF B (lv_sub hl [2, 3, 4, 1, 0] rfl)
  unfold F_X9_positionOf at hF
  refine lv_iconst (v := (-1)) hx hb dX9_positionOf_0 (by decide) ?_
  refine lv_istore_n (lv' := [(3, .int (-1)), (0, .ref (fw_ad X 378)), (1, .int a1), (2, .int a2)]) hx hb dX9_positionOf_1 rfl hl (by decide) rfl (fun ls hl => ?_)
  refine lv_iconst (v := 0) hx hb dX9_positionOf_2 (by decide) ?_
  refine lv_istore (lv' := [(4, .int 0), (3, .int (-1)), (0, .ref (fw_ad X 378)), (1, .int a1), (2, .int a2)]) hx hb dX9_positionOf_3 hl (by decide) rfl (fun ls hl => ?_)
  exact hJ5 64 (-1) 0 _ _ _ hF B (lv_sub hl [2, 3, 4, 1, 0] rfl)
def F_X9_doAddStop (M : fw_M) (a1 : Int32) : Option (Int32 × fw_M) :=
  if ix_i 0 129 then
  bd_x (F_X9_in M a1 0 3) fun r3 =>
  if ¬ r3 = 0 then
    if ¬ (fw_ri M 379 0) = 10 then
      if ix_i (6 + (fw_ri M 379 0)) 129 then
      lt_x (fw_wi M 379 (6 + (fw_ri M 379 0)) a1) fun M8 =>
      lt_x (fw_wi M8 379 0 ((fw_ri M8 379 0) + 1)) fun M9 =>
      some ((fw_ri M 379 0), M9)
      else none
    else
      bd_p (F_X9_fails M 2) fun r11 M12 =>
      some (r11, M12)
  else
    bd_p (F_X9_fails M 1) fun r14 M15 =>
    some (r14, M15)
  else none
set_option maxHeartbeats 4000000 in
set_option maxRecDepth 100000 in
theorem cm_X9_doAddStop {l : Launch} {X : fw_X} {M : fw_M} {a1 : Int32}  {o : Int32 × fw_M} (hF : F_X9_doAddStop M a1 = some o) : ct_i l X yX9_doAddStop cX9_doAddStop 3 (some .int) ({ frames := 1, cells := 0, slots := 0, locals := 22 } : Room) M [.ref (fw_ad X 378), .int a1] (.inl o.1, o.2) := by
  refine fw_open rfl (Nat.le_of_ble_eq_true rfl) (fun p e s m below meth c ls C hr hlk hnm hex hl B => ?_)
  have C : fr_C X p c cX9_doAddStop 3 RX9 s m ([.ref (fw_ad X 378), .int a1] : List Value).toArray := C
  have hx := C.1.1
  have hb := C.1.2.1
  have hl : lv_has ls 3 [(0, .ref (fw_ad X 378)), (1, .int a1)] := hl
  unfold F_X9_doAddStop at hF
  refine lv_aload_n hx hb dX9_doAddStop_0 rfl (lv_at hl 0 rfl) ?_
  refine gf_X9_9 C B dX9_doAddStop_1 ?_
  refine lv_iconst (v := 0) hx hb dX9_doAddStop_4 (by decide) ?_
  obtain ⟨c1, hF⟩ := of_g hF
  refine fr_ia C B ar_9_379 c1 dX9_doAddStop_5 ?_
  refine lv_istore_n (lv' := [(2, .int (fw_ri M 379 0)), (0, .ref (fw_ad X 378)), (1, .int a1)]) hx hb dX9_doAddStop_6 rfl hl (by decide) rfl (fun ls hl => ?_)
  refine lv_iload_n hx hb dX9_doAddStop_7 rfl (lv_at hl 2 rfl) ?_
  refine lv_iconst (v := 0) hx hb dX9_doAddStop_8 (by decide) ?_
  refine lv_iconst (v := 3) hx hb dX9_doAddStop_9 (by decide) ?_
  obtain ⟨r3, hf2, hF⟩ := bx_e hF
  refine fr_cSi (As := [.int a1, .int 0, .int 3]) (rest := []) C B (cm_X9_in hf2) yw_X9_in wm_X9_51 rfl hl.1 rfl (Nat.le_of_ble_eq_true rfl) ⟨Nat.le_of_ble_eq_true rfl, Nat.le_of_ble_eq_true rfl⟩ ⟨Nat.le_of_ble_eq_true rfl, Nat.le_of_ble_eq_true rfl⟩ dX9_doAddStop_10 (fr_nx rfl) (fun r9 M9 H locs ho9 B => ?_)
  obtain ⟨rfl, rfl⟩ := oi_e ho9
  refine lv_if_ne (tgt := 22) hx hb dX9_doAddStop_13 (by decide) (fun c5 => ?_) (fun c5 => ?_)
  · have hF := it_t hF c5
    refine lv_iload_n hx hb dX9_doAddStop_22 rfl (lv_at hl 0 rfl) ?_
    refine lv_bipush (v := 10) hx hb dX9_doAddStop_23 (by decide) ?_
    refine lv_icmp_ne (tgt := 34) hx hb dX9_doAddStop_25 (by decide) (fun c6 => ?_) (fun c6 => ?_)
    · have hF := it_t hF c6
      refine lv_aload_n hx hb dX9_doAddStop_34 rfl (lv_at hl 1 rfl) ?_
      refine gf_X9_9 C B dX9_doAddStop_35 ?_
      refine lv_bipush (v := 6) hx hb dX9_doAddStop_38 (by decide) ?_
      refine lv_iload_n hx hb dX9_doAddStop_40 rfl (lv_at hl 0 rfl) ?_
      refine lv_iadd hx hb dX9_doAddStop_41 ?_
      refine lv_iload_n hx hb dX9_doAddStop_42 rfl (lv_at hl 2 rfl) ?_
      obtain ⟨c7, hF⟩ := of_g hF
      refine fr_is C B ar_9_379 c7 dX9_doAddStop_43 (fun H locs B => ?_)
      obtain ⟨M8, eM8, hF⟩ := lt_e hF
      rw [← eM8] at B
      refine lv_aload_n hx hb dX9_doAddStop_44 rfl (lv_at hl 1 rfl) ?_
      refine gf_X9_9 C B dX9_doAddStop_45 ?_
      refine lv_iconst (v := 0) hx hb dX9_doAddStop_48 (by decide) ?_
      refine lv_dup2_11 hx hb dX9_doAddStop_49 rfl rfl ?_
      refine fr_ia C B ar_9_379 c1 dX9_doAddStop_50 ?_
      refine lv_iconst (v := 1) hx hb dX9_doAddStop_51 (by decide) ?_
      refine lv_iadd hx hb dX9_doAddStop_52 ?_
      refine fr_is C B ar_9_379 c1 dX9_doAddStop_53 (fun H locs B => ?_)
      obtain ⟨M9, eM9, hF⟩ := lt_e hF
      rw [← eM9] at B
      refine lv_iload_n hx hb dX9_doAddStop_54 rfl (lv_at hl 0 rfl) ?_
      exact fr_iret C B hr rfl hlk (by rw [← Option.some.inj hF]) (Nat.le_of_ble_eq_true rfl) (Nat.le_of_ble_eq_true rfl) dX9_doAddStop_55
    · have hF := it_f hF (not_not_intro c6)
      refine lv_aload_n hx hb dX9_doAddStop_28 rfl (lv_at hl 1 rfl) ?_
      refine lv_iconst (v := 2) hx hb dX9_doAddStop_29 (by decide) ?_
      obtain ⟨r11, M12, hf10, hF⟩ := bp_e hF
      refine fr_cVi (As := [.int 2]) (rest := []) C B (cm_X9_fails hf10) ob_9 rfl yw_X9_fails wm_X9_63 rfl hl.1 rfl (Nat.le_of_ble_eq_true rfl) ⟨Nat.le_of_ble_eq_true rfl, Nat.le_of_ble_eq_true rfl⟩ ⟨Nat.le_of_ble_eq_true rfl, Nat.le_of_ble_eq_true rfl⟩ dX9_doAddStop_30 (fr_nx rfl) (fun r9 M9 H locs ho9 B => ?_)
      obtain ⟨rfl, rfl⟩ := oi_e ho9
      exact fr_iret C B hr rfl hlk (by rw [← Option.some.inj hF]) (Nat.le_of_ble_eq_true rfl) (Nat.le_of_ble_eq_true rfl) dX9_doAddStop_33
  · have hF := it_f hF (not_not_intro c5)
    refine lv_aload_n hx hb dX9_doAddStop_16 rfl (lv_at hl 1 rfl) ?_
    refine lv_iconst (v := 1) hx hb dX9_doAddStop_17 (by decide) ?_
    obtain ⟨r14, M15, hf13, hF⟩ := bp_e hF
    refine fr_cVi (As := [.int 1]) (rest := []) C B (cm_X9_fails hf13) ob_9 rfl yw_X9_fails wm_X9_63 rfl hl.1 rfl (Nat.le_of_ble_eq_true rfl) ⟨Nat.le_of_ble_eq_true rfl, Nat.le_of_ble_eq_true rfl⟩ ⟨Nat.le_of_ble_eq_true rfl, Nat.le_of_ble_eq_true rfl⟩ dX9_doAddStop_18 (fr_nx rfl) (fun r9 M9 H locs ho9 B => ?_)
    obtain ⟨rfl, rfl⟩ := oi_e ho9
    exact fr_iret C B hr rfl hlk (by rw [← Option.some.inj hF]) (Nat.le_of_ble_eq_true rfl) (Nat.le_of_ble_eq_true rfl) dX9_doAddStop_21
def F_X9_addStop (M : fw_M) (a1 : Int32) : Option (Int32 × fw_M) :=
  bd_x (F_X9_keep M) fun M3 =>
  bd_p (F_X9_doAddStop M3 a1) fun r5 M6 =>
  bd_p (F_X9_ends M6 r5) fun r8 M9 =>
  some (r8, M9)
set_option maxHeartbeats 4000000 in
set_option maxRecDepth 100000 in
theorem cm_X9_addStop {l : Launch} {X : fw_X} {M : fw_M} {a1 : Int32}  {o : Int32 × fw_M} (hF : F_X9_addStop M a1 = some o) : ct_i l X yX9_addStop cX9_addStop 2 (some .int) ({ frames := 2, cells := 0, slots := 0, locals := 81 } : Room) M [.ref (fw_ad X 378), .int a1] (.inl o.1, o.2) := by
  refine fw_open rfl (Nat.le_of_ble_eq_true rfl) (fun p e s m below meth c ls C hr hlk hnm hex hl B => ?_)
  have C : fr_C X p c cX9_addStop 2 RX9 s m ([.ref (fw_ad X 378), .int a1] : List Value).toArray := C
  have hx := C.1.1
  have hb := C.1.2.1
  have hl : lv_has ls 2 [(0, .ref (fw_ad X 378)), (1, .int a1)] := hl
  unfold F_X9_addStop at hF
  refine lv_aload_n hx hb dX9_addStop_0 rfl (lv_at hl 0 rfl) ?_
  obtain ⟨M3, hf1, hF⟩ := bx_e hF
  refine fr_cVv (As := []) (rest := []) C B (cm_X9_keep hf1) ob_9 rfl yw_X9_keep wm_X9_66 rfl hl.1 rfl (Nat.le_of_ble_eq_true rfl) ⟨Nat.le_of_ble_eq_true rfl, Nat.le_of_ble_eq_true rfl⟩ ⟨Nat.le_of_ble_eq_true rfl, Nat.le_of_ble_eq_true rfl⟩ dX9_addStop_1 (fr_nx rfl) (fun M9 H locs ho9 B => ?_)
  obtain ⟨-, rfl⟩ := oi_e ho9
  refine lv_aload_n hx hb dX9_addStop_4 rfl (lv_at hl 0 rfl) ?_
  refine lv_aload_n hx hb dX9_addStop_5 rfl (lv_at hl 0 rfl) ?_
  refine lv_iload_n hx hb dX9_addStop_6 rfl (lv_at hl 1 rfl) ?_
  obtain ⟨r5, M6, hf4, hF⟩ := bp_e hF
  refine fr_cVi (As := [.int a1]) (rest := [.ref (fw_ad X 378)]) C B (cm_X9_doAddStop hf4) ob_9 rfl yw_X9_doAddStop wm_X9_69 rfl hl.1 rfl (Nat.le_of_ble_eq_true rfl) ⟨Nat.le_of_ble_eq_true rfl, Nat.le_of_ble_eq_true rfl⟩ ⟨Nat.le_of_ble_eq_true rfl, Nat.le_of_ble_eq_true rfl⟩ dX9_addStop_7 (fr_nx rfl) (fun r9 M9 H locs ho9 B => ?_)
  obtain ⟨rfl, rfl⟩ := oi_e ho9
  obtain ⟨r8, M9, hf7, hF⟩ := bp_e hF
  refine fr_cVi (As := [.int r5]) (rest := []) C B (cm_X9_ends hf7) ob_9 rfl yw_X9_ends wm_X9_72 rfl hl.1 rfl (Nat.le_of_ble_eq_true rfl) ⟨Nat.le_of_ble_eq_true rfl, Nat.le_of_ble_eq_true rfl⟩ ⟨Nat.le_of_ble_eq_true rfl, Nat.le_of_ble_eq_true rfl⟩ dX9_addStop_10 (fr_nx rfl) (fun r9 M9 H locs ho9 B => ?_)
  obtain ⟨rfl, rfl⟩ := oi_e ho9
  exact fr_iret C B hr rfl hlk (by rw [← Option.some.inj hF]) (Nat.le_of_ble_eq_true rfl) (Nat.le_of_ble_eq_true rfl) dX9_addStop_13
def F_X9_doAddLine (M : fw_M) (a1 : Int32) (a2 : Int32) : Option (Int32 × fw_M) :=
  if ix_i 1 129 then
  bd_x (F_X9_isStop M a1) fun r3 =>
  if r3 = 0 then
    bd_p (F_X9_fails M 1) fun r7 M8 =>
    some (r7, M8)
  else
    bd_x (F_X9_isStop M a2) fun r10 =>
    if ¬ r10 = 0 then
      if ¬ a1 = a2 then
        if ¬ (fw_ri M 379 1) = 5 then
          if ix_i (16 + (7 * (fw_ri M 379 1))) 129 then
          lt_x (fw_wi M 379 (16 + (7 * (fw_ri M 379 1))) 2) fun M16 =>
          if ix_i ((16 + (7 * (fw_ri M 379 1))) + 1) 129 then
          lt_x (fw_wi M16 379 ((16 + (7 * (fw_ri M 379 1))) + 1) a1) fun M18 =>
          if ix_i ((16 + (7 * (fw_ri M 379 1))) + 2) 129 then
          lt_x (fw_wi M18 379 ((16 + (7 * (fw_ri M 379 1))) + 2) a2) fun M20 =>
          lt_x (fw_wi M20 379 1 ((fw_ri M20 379 1) + 1)) fun M21 =>
          some ((fw_ri M 379 1), M21)
          else none
          else none
          else none
        else
          bd_p (F_X9_fails M 3) fun r23 M24 =>
          some (r23, M24)
      else
        bd_p (F_X9_fails M 2) fun r26 M27 =>
        some (r26, M27)
    else
      bd_p (F_X9_fails M 1) fun r29 M30 =>
      some (r29, M30)
  else none
set_option maxHeartbeats 4000000 in
set_option maxRecDepth 100000 in
theorem cm_X9_doAddLine {l : Launch} {X : fw_X} {M : fw_M} {a1 : Int32} {a2 : Int32}  {o : Int32 × fw_M} (hF : F_X9_doAddLine M a1 a2 = some o) : ct_i l X yX9_doAddLine cX9_doAddLine 5 (some .int) ({ frames := 2, cells := 0, slots := 0, locals := 43 } : Room) M [.ref (fw_ad X 378), .int a1, .int a2] (.inl o.1, o.2) := by
  refine fw_open rfl (Nat.le_of_ble_eq_true rfl) (fun p e s m below meth c ls C hr hlk hnm hex hl B => ?_)
  have C : fr_C X p c cX9_doAddLine 5 RX9 s m ([.ref (fw_ad X 378), .int a1, .int a2] : List Value).toArray := C
  have hx := C.1.1
  have hb := C.1.2.1
  have hl : lv_has ls 5 [(0, .ref (fw_ad X 378)), (1, .int a1), (2, .int a2)] := hl
  unfold F_X9_doAddLine at hF
  refine lv_aload_n hx hb dX9_doAddLine_0 rfl (lv_at hl 0 rfl) ?_
  refine gf_X9_9 C B dX9_doAddLine_1 ?_
  refine lv_iconst (v := 1) hx hb dX9_doAddLine_4 (by decide) ?_
  obtain ⟨c1, hF⟩ := of_g hF
  refine fr_ia C B ar_9_379 c1 dX9_doAddLine_5 ?_
  refine lv_istore_n (lv' := [(3, .int (fw_ri M 379 1)), (0, .ref (fw_ad X 378)), (1, .int a1), (2, .int a2)]) hx hb dX9_doAddLine_6 rfl hl (by decide) rfl (fun ls hl => ?_)
  refine lv_aload_n hx hb dX9_doAddLine_7 rfl (lv_at hl 1 rfl) ?_
  refine lv_iload_n hx hb dX9_doAddLine_8 rfl (lv_at hl 2 rfl) ?_
  obtain ⟨r3, hf2, hF⟩ := bx_e hF
  refine fr_cVi (As := [.int a1]) (rest := []) C B (cm_X9_isStop hf2) ob_9 rfl yw_X9_isStop wm_X9_75 rfl hl.1 rfl (Nat.le_of_ble_eq_true rfl) ⟨Nat.le_of_ble_eq_true rfl, Nat.le_of_ble_eq_true rfl⟩ ⟨Nat.le_of_ble_eq_true rfl, Nat.le_of_ble_eq_true rfl⟩ dX9_doAddLine_9 (fr_nx rfl) (fun r9 M9 H locs ho9 B => ?_)
  obtain ⟨rfl, rfl⟩ := oi_e ho9
  refine lv_if_eq (tgt := 23) hx hb dX9_doAddLine_12 (by decide) (fun c5 => ?_) (fun c5 => ?_)
  · have hF := it_t hF c5
    refine lv_aload_n hx hb dX9_doAddLine_23 rfl (lv_at hl 1 rfl) ?_
    refine lv_iconst (v := 1) hx hb dX9_doAddLine_24 (by decide) ?_
    obtain ⟨r7, M8, hf6, hF⟩ := bp_e hF
    refine fr_cVi (As := [.int 1]) (rest := []) C B (cm_X9_fails hf6) ob_9 rfl yw_X9_fails wm_X9_63 rfl hl.1 rfl (Nat.le_of_ble_eq_true rfl) ⟨Nat.le_of_ble_eq_true rfl, Nat.le_of_ble_eq_true rfl⟩ ⟨Nat.le_of_ble_eq_true rfl, Nat.le_of_ble_eq_true rfl⟩ dX9_doAddLine_25 (fr_nx rfl) (fun r9 M9 H locs ho9 B => ?_)
    obtain ⟨rfl, rfl⟩ := oi_e ho9
    exact fr_iret C B hr rfl hlk (by rw [← Option.some.inj hF]) (Nat.le_of_ble_eq_true rfl) (Nat.le_of_ble_eq_true rfl) dX9_doAddLine_28
  · have hF := it_f hF c5
    refine lv_aload_n hx hb dX9_doAddLine_15 rfl (lv_at hl 1 rfl) ?_
    refine lv_iload_n hx hb dX9_doAddLine_16 rfl (lv_at hl 3 rfl) ?_
    obtain ⟨r10, hf9, hF⟩ := bx_e hF
    refine fr_cVi (As := [.int a2]) (rest := []) C B (cm_X9_isStop hf9) ob_9 rfl yw_X9_isStop wm_X9_75 rfl hl.1 rfl (Nat.le_of_ble_eq_true rfl) ⟨Nat.le_of_ble_eq_true rfl, Nat.le_of_ble_eq_true rfl⟩ ⟨Nat.le_of_ble_eq_true rfl, Nat.le_of_ble_eq_true rfl⟩ dX9_doAddLine_17 (fr_nx rfl) (fun r9 M9 H locs ho9 B => ?_)
    obtain ⟨rfl, rfl⟩ := oi_e ho9
    refine lv_if_ne (tgt := 29) hx hb dX9_doAddLine_20 (by decide) (fun c12 => ?_) (fun c12 => ?_)
    · have hF := it_t hF c12
      refine lv_iload_n hx hb dX9_doAddLine_29 rfl (lv_at hl 2 rfl) ?_
      refine lv_iload_n hx hb dX9_doAddLine_30 rfl (lv_at hl 3 rfl) ?_
      refine lv_icmp_ne (tgt := 40) hx hb dX9_doAddLine_31 (by decide) (fun c13 => ?_) (fun c13 => ?_)
      · have hF := it_t hF c13
        refine lv_iload_n hx hb dX9_doAddLine_40 rfl (lv_at hl 0 rfl) ?_
        refine lv_iconst (v := 5) hx hb dX9_doAddLine_41 (by decide) ?_
        refine lv_icmp_ne (tgt := 51) hx hb dX9_doAddLine_42 (by decide) (fun c14 => ?_) (fun c14 => ?_)
        · have hF := it_t hF c14
          refine lv_bipush (v := 16) hx hb dX9_doAddLine_51 (by decide) ?_
          refine lv_bipush (v := 7) hx hb dX9_doAddLine_53 (by decide) ?_
          refine lv_iload_n hx hb dX9_doAddLine_55 rfl (lv_at hl 0 rfl) ?_
          refine lv_imul hx hb dX9_doAddLine_56 ?_
          refine lv_iadd hx hb dX9_doAddLine_57 ?_
          refine lv_istore (lv' := [(4, .int (16 + (7 * (fw_ri M 379 1)))), (3, .int (fw_ri M 379 1)), (0, .ref (fw_ad X 378)), (1, .int a1), (2, .int a2)]) hx hb dX9_doAddLine_58 hl (by decide) rfl (fun ls hl => ?_)
          refine lv_aload_n hx hb dX9_doAddLine_60 rfl (lv_at hl 2 rfl) ?_
          refine gf_X9_9 C B dX9_doAddLine_61 ?_
          refine lv_iload hx hb dX9_doAddLine_64 (lv_at hl 0 rfl) ?_
          refine lv_iconst (v := 2) hx hb dX9_doAddLine_66 (by decide) ?_
          obtain ⟨c15, hF⟩ := of_g hF
          refine fr_is C B ar_9_379 c15 dX9_doAddLine_67 (fun H locs B => ?_)
          obtain ⟨M16, eM16, hF⟩ := lt_e hF
          rw [← eM16] at B
          refine lv_aload_n hx hb dX9_doAddLine_68 rfl (lv_at hl 2 rfl) ?_
          refine gf_X9_9 C B dX9_doAddLine_69 ?_
          refine lv_iload hx hb dX9_doAddLine_72 (lv_at hl 0 rfl) ?_
          refine lv_iconst (v := 1) hx hb dX9_doAddLine_74 (by decide) ?_
          refine lv_iadd hx hb dX9_doAddLine_75 ?_
          refine lv_iload_n hx hb dX9_doAddLine_76 rfl (lv_at hl 3 rfl) ?_
          obtain ⟨c17, hF⟩ := of_g hF
          refine fr_is C B ar_9_379 c17 dX9_doAddLine_77 (fun H locs B => ?_)
          obtain ⟨M18, eM18, hF⟩ := lt_e hF
          rw [← eM18] at B
          refine lv_aload_n hx hb dX9_doAddLine_78 rfl (lv_at hl 2 rfl) ?_
          refine gf_X9_9 C B dX9_doAddLine_79 ?_
          refine lv_iload hx hb dX9_doAddLine_82 (lv_at hl 0 rfl) ?_
          refine lv_iconst (v := 2) hx hb dX9_doAddLine_84 (by decide) ?_
          refine lv_iadd hx hb dX9_doAddLine_85 ?_
          refine lv_iload_n hx hb dX9_doAddLine_86 rfl (lv_at hl 4 rfl) ?_
          obtain ⟨c19, hF⟩ := of_g hF
          refine fr_is C B ar_9_379 c19 dX9_doAddLine_87 (fun H locs B => ?_)
          obtain ⟨M20, eM20, hF⟩ := lt_e hF
          rw [← eM20] at B
          refine lv_aload_n hx hb dX9_doAddLine_88 rfl (lv_at hl 2 rfl) ?_
          refine gf_X9_9 C B dX9_doAddLine_89 ?_
          refine lv_iconst (v := 1) hx hb dX9_doAddLine_92 (by decide) ?_
          refine lv_dup2_11 hx hb dX9_doAddLine_93 rfl rfl ?_
          refine fr_ia C B ar_9_379 c1 dX9_doAddLine_94 ?_
          refine lv_iconst (v := 1) hx hb dX9_doAddLine_95 (by decide) ?_
          refine lv_iadd hx hb dX9_doAddLine_96 ?_
          refine fr_is C B ar_9_379 c1 dX9_doAddLine_97 (fun H locs B => ?_)
          obtain ⟨M21, eM21, hF⟩ := lt_e hF
          rw [← eM21] at B
          refine lv_iload_n hx hb dX9_doAddLine_98 rfl (lv_at hl 1 rfl) ?_
          exact fr_iret C B hr rfl hlk (by rw [← Option.some.inj hF]) (Nat.le_of_ble_eq_true rfl) (Nat.le_of_ble_eq_true rfl) dX9_doAddLine_99
        · have hF := it_f hF (not_not_intro c14)
          refine lv_aload_n hx hb dX9_doAddLine_45 rfl (lv_at hl 1 rfl) ?_
          refine lv_iconst (v := 3) hx hb dX9_doAddLine_46 (by decide) ?_
          obtain ⟨r23, M24, hf22, hF⟩ := bp_e hF
          refine fr_cVi (As := [.int 3]) (rest := []) C B (cm_X9_fails hf22) ob_9 rfl yw_X9_fails wm_X9_63 rfl hl.1 rfl (Nat.le_of_ble_eq_true rfl) ⟨Nat.le_of_ble_eq_true rfl, Nat.le_of_ble_eq_true rfl⟩ ⟨Nat.le_of_ble_eq_true rfl, Nat.le_of_ble_eq_true rfl⟩ dX9_doAddLine_47 (fr_nx rfl) (fun r9 M9 H locs ho9 B => ?_)
          obtain ⟨rfl, rfl⟩ := oi_e ho9
          exact fr_iret C B hr rfl hlk (by rw [← Option.some.inj hF]) (Nat.le_of_ble_eq_true rfl) (Nat.le_of_ble_eq_true rfl) dX9_doAddLine_50
      · have hF := it_f hF (not_not_intro c13)
        refine lv_aload_n hx hb dX9_doAddLine_34 rfl (lv_at hl 1 rfl) ?_
        refine lv_iconst (v := 2) hx hb dX9_doAddLine_35 (by decide) ?_
        obtain ⟨r26, M27, hf25, hF⟩ := bp_e hF
        refine fr_cVi (As := [.int 2]) (rest := []) C B (cm_X9_fails hf25) ob_9 rfl yw_X9_fails wm_X9_63 rfl hl.1 rfl (Nat.le_of_ble_eq_true rfl) ⟨Nat.le_of_ble_eq_true rfl, Nat.le_of_ble_eq_true rfl⟩ ⟨Nat.le_of_ble_eq_true rfl, Nat.le_of_ble_eq_true rfl⟩ dX9_doAddLine_36 (fr_nx rfl) (fun r9 M9 H locs ho9 B => ?_)
        obtain ⟨rfl, rfl⟩ := oi_e ho9
        exact fr_iret C B hr rfl hlk (by rw [← Option.some.inj hF]) (Nat.le_of_ble_eq_true rfl) (Nat.le_of_ble_eq_true rfl) dX9_doAddLine_39
    · have hF := it_f hF (not_not_intro c12)
      refine lv_aload_n hx hb dX9_doAddLine_23 rfl (lv_at hl 1 rfl) ?_
      refine lv_iconst (v := 1) hx hb dX9_doAddLine_24 (by decide) ?_
      obtain ⟨r29, M30, hf28, hF⟩ := bp_e hF
      refine fr_cVi (As := [.int 1]) (rest := []) C B (cm_X9_fails hf28) ob_9 rfl yw_X9_fails wm_X9_63 rfl hl.1 rfl (Nat.le_of_ble_eq_true rfl) ⟨Nat.le_of_ble_eq_true rfl, Nat.le_of_ble_eq_true rfl⟩ ⟨Nat.le_of_ble_eq_true rfl, Nat.le_of_ble_eq_true rfl⟩ dX9_doAddLine_25 (fr_nx rfl) (fun r9 M9 H locs ho9 B => ?_)
      obtain ⟨rfl, rfl⟩ := oi_e ho9
      exact fr_iret C B hr rfl hlk (by rw [← Option.some.inj hF]) (Nat.le_of_ble_eq_true rfl) (Nat.le_of_ble_eq_true rfl) dX9_doAddLine_28
def F_X9_addLine (M : fw_M) (a1 : Int32) (a2 : Int32) : Option (Int32 × fw_M) :=
  bd_x (F_X9_keep M) fun M3 =>
  bd_p (F_X9_doAddLine M3 a1 a2) fun r5 M6 =>
  bd_p (F_X9_ends M6 r5) fun r8 M9 =>
  some (r8, M9)
set_option maxHeartbeats 4000000 in
set_option maxRecDepth 100000 in
theorem cm_X9_addLine {l : Launch} {X : fw_X} {M : fw_M} {a1 : Int32} {a2 : Int32}  {o : Int32 × fw_M} (hF : F_X9_addLine M a1 a2 = some o) : ct_i l X yX9_addLine cX9_addLine 3 (some .int) ({ frames := 3, cells := 0, slots := 0, locals := 81 } : Room) M [.ref (fw_ad X 378), .int a1, .int a2] (.inl o.1, o.2) := by
  refine fw_open rfl (Nat.le_of_ble_eq_true rfl) (fun p e s m below meth c ls C hr hlk hnm hex hl B => ?_)
  have C : fr_C X p c cX9_addLine 3 RX9 s m ([.ref (fw_ad X 378), .int a1, .int a2] : List Value).toArray := C
  have hx := C.1.1
  have hb := C.1.2.1
  have hl : lv_has ls 3 [(0, .ref (fw_ad X 378)), (1, .int a1), (2, .int a2)] := hl
  unfold F_X9_addLine at hF
  refine lv_aload_n hx hb dX9_addLine_0 rfl (lv_at hl 0 rfl) ?_
  obtain ⟨M3, hf1, hF⟩ := bx_e hF
  refine fr_cVv (As := []) (rest := []) C B (cm_X9_keep hf1) ob_9 rfl yw_X9_keep wm_X9_66 rfl hl.1 rfl (Nat.le_of_ble_eq_true rfl) ⟨Nat.le_of_ble_eq_true rfl, Nat.le_of_ble_eq_true rfl⟩ ⟨Nat.le_of_ble_eq_true rfl, Nat.le_of_ble_eq_true rfl⟩ dX9_addLine_1 (fr_nx rfl) (fun M9 H locs ho9 B => ?_)
  obtain ⟨-, rfl⟩ := oi_e ho9
  refine lv_aload_n hx hb dX9_addLine_4 rfl (lv_at hl 0 rfl) ?_
  refine lv_aload_n hx hb dX9_addLine_5 rfl (lv_at hl 0 rfl) ?_
  refine lv_iload_n hx hb dX9_addLine_6 rfl (lv_at hl 1 rfl) ?_
  refine lv_iload_n hx hb dX9_addLine_7 rfl (lv_at hl 2 rfl) ?_
  obtain ⟨r5, M6, hf4, hF⟩ := bp_e hF
  refine fr_cVi (As := [.int a1, .int a2]) (rest := [.ref (fw_ad X 378)]) C B (cm_X9_doAddLine hf4) ob_9 rfl yw_X9_doAddLine wm_X9_79 rfl hl.1 rfl (Nat.le_of_ble_eq_true rfl) ⟨Nat.le_of_ble_eq_true rfl, Nat.le_of_ble_eq_true rfl⟩ ⟨Nat.le_of_ble_eq_true rfl, Nat.le_of_ble_eq_true rfl⟩ dX9_addLine_8 (fr_nx rfl) (fun r9 M9 H locs ho9 B => ?_)
  obtain ⟨rfl, rfl⟩ := oi_e ho9
  obtain ⟨r8, M9, hf7, hF⟩ := bp_e hF
  refine fr_cVi (As := [.int r5]) (rest := []) C B (cm_X9_ends hf7) ob_9 rfl yw_X9_ends wm_X9_72 rfl hl.1 rfl (Nat.le_of_ble_eq_true rfl) ⟨Nat.le_of_ble_eq_true rfl, Nat.le_of_ble_eq_true rfl⟩ ⟨Nat.le_of_ble_eq_true rfl, Nat.le_of_ble_eq_true rfl⟩ dX9_addLine_11 (fr_nx rfl) (fun r9 M9 H locs ho9 B => ?_)
  obtain ⟨rfl, rfl⟩ := oi_e ho9
  exact fr_iret C B hr rfl hlk (by rw [← Option.some.inj hF]) (Nat.le_of_ble_eq_true rfl) (Nat.le_of_ble_eq_true rfl) dX9_addLine_14
def F_X9_doExtendLine (M : fw_M) (a1 : Int32) (a2 : Int32) : Option (Int32 × fw_M) :=
  bd_x (F_X9_isLine M a1) fun r2 =>
  if r2 = 0 then
    bd_p (F_X9_fails M 1) fun r6 M7 =>
    some (r6, M7)
  else
    bd_x (F_X9_isStop M a2) fun r9 =>
    if ¬ r9 = 0 then
      bd_x (F_X9_positionOf M a1 a2) fun r13 =>
      if r13 < 0 then
        bd_x (F_X9_lengthOf M a1) fun r17 =>
        if ¬ r17 = 6 then
          if ix_i (((16 + (7 * a1)) + 1) + r17) 129 then
          lt_x (fw_wi M 379 (((16 + (7 * a1)) + 1) + r17) a2) fun M21 =>
          if ix_i (16 + (7 * a1)) 129 then
          lt_x (fw_wi M21 379 (16 + (7 * a1)) ((fw_ri M21 379 (16 + (7 * a1))) + 1)) fun M23 =>
          some (r17, M23)
          else none
          else none
        else
          bd_p (F_X9_fails M 3) fun r25 M26 =>
          some (r25, M26)
      else
        bd_p (F_X9_fails M 2) fun r28 M29 =>
        some (r28, M29)
    else
      bd_p (F_X9_fails M 1) fun r31 M32 =>
      some (r31, M32)
set_option maxHeartbeats 4000000 in
set_option maxRecDepth 100000 in
theorem cm_X9_doExtendLine {l : Launch} {X : fw_X} {M : fw_M} {a1 : Int32} {a2 : Int32}  {o : Int32 × fw_M} (hF : F_X9_doExtendLine M a1 a2 = some o) : ct_i l X yX9_doExtendLine cX9_doExtendLine 4 (some .int) ({ frames := 2, cells := 0, slots := 0, locals := 46 } : Room) M [.ref (fw_ad X 378), .int a1, .int a2] (.inl o.1, o.2) := by
  refine fw_open rfl (Nat.le_of_ble_eq_true rfl) (fun p e s m below meth c ls C hr hlk hnm hex hl B => ?_)
  have C : fr_C X p c cX9_doExtendLine 4 RX9 s m ([.ref (fw_ad X 378), .int a1, .int a2] : List Value).toArray := C
  have hx := C.1.1
  have hb := C.1.2.1
  have hl : lv_has ls 4 [(0, .ref (fw_ad X 378)), (1, .int a1), (2, .int a2)] := hl
  unfold F_X9_doExtendLine at hF
  refine lv_aload_n hx hb dX9_doExtendLine_0 rfl (lv_at hl 0 rfl) ?_
  refine lv_iload_n hx hb dX9_doExtendLine_1 rfl (lv_at hl 1 rfl) ?_
  obtain ⟨r2, hf1, hF⟩ := bx_e hF
  refine fr_cVi (As := [.int a1]) (rest := []) C B (cm_X9_isLine hf1) ob_9 rfl yw_X9_isLine wm_X9_82 rfl hl.1 rfl (Nat.le_of_ble_eq_true rfl) ⟨Nat.le_of_ble_eq_true rfl, Nat.le_of_ble_eq_true rfl⟩ ⟨Nat.le_of_ble_eq_true rfl, Nat.le_of_ble_eq_true rfl⟩ dX9_doExtendLine_2 (fr_nx rfl) (fun r9 M9 H locs ho9 B => ?_)
  obtain ⟨rfl, rfl⟩ := oi_e ho9
  refine lv_if_eq (tgt := 16) hx hb dX9_doExtendLine_5 (by decide) (fun c4 => ?_) (fun c4 => ?_)
  · have hF := it_t hF c4
    refine lv_aload_n hx hb dX9_doExtendLine_16 rfl (lv_at hl 0 rfl) ?_
    refine lv_iconst (v := 1) hx hb dX9_doExtendLine_17 (by decide) ?_
    obtain ⟨r6, M7, hf5, hF⟩ := bp_e hF
    refine fr_cVi (As := [.int 1]) (rest := []) C B (cm_X9_fails hf5) ob_9 rfl yw_X9_fails wm_X9_63 rfl hl.1 rfl (Nat.le_of_ble_eq_true rfl) ⟨Nat.le_of_ble_eq_true rfl, Nat.le_of_ble_eq_true rfl⟩ ⟨Nat.le_of_ble_eq_true rfl, Nat.le_of_ble_eq_true rfl⟩ dX9_doExtendLine_18 (fr_nx rfl) (fun r9 M9 H locs ho9 B => ?_)
    obtain ⟨rfl, rfl⟩ := oi_e ho9
    exact fr_iret C B hr rfl hlk (by rw [← Option.some.inj hF]) (Nat.le_of_ble_eq_true rfl) (Nat.le_of_ble_eq_true rfl) dX9_doExtendLine_21
  · have hF := it_f hF c4
    refine lv_aload_n hx hb dX9_doExtendLine_8 rfl (lv_at hl 0 rfl) ?_
    refine lv_iload_n hx hb dX9_doExtendLine_9 rfl (lv_at hl 2 rfl) ?_
    obtain ⟨r9, hf8, hF⟩ := bx_e hF
    refine fr_cVi (As := [.int a2]) (rest := []) C B (cm_X9_isStop hf8) ob_9 rfl yw_X9_isStop wm_X9_75 rfl hl.1 rfl (Nat.le_of_ble_eq_true rfl) ⟨Nat.le_of_ble_eq_true rfl, Nat.le_of_ble_eq_true rfl⟩ ⟨Nat.le_of_ble_eq_true rfl, Nat.le_of_ble_eq_true rfl⟩ dX9_doExtendLine_10 (fr_nx rfl) (fun r9 M9 H locs ho9 B => ?_)
    obtain ⟨rfl, rfl⟩ := oi_e ho9
    refine lv_if_ne (tgt := 22) hx hb dX9_doExtendLine_13 (by decide) (fun c11 => ?_) (fun c11 => ?_)
    · have hF := it_t hF c11
      refine lv_aload_n hx hb dX9_doExtendLine_22 rfl (lv_at hl 0 rfl) ?_
      refine lv_iload_n hx hb dX9_doExtendLine_23 rfl (lv_at hl 1 rfl) ?_
      refine lv_iload_n hx hb dX9_doExtendLine_24 rfl (lv_at hl 2 rfl) ?_
      obtain ⟨r13, hf12, hF⟩ := bx_e hF
      refine fr_cVi (As := [.int a1, .int a2]) (rest := []) C B (cm_X9_positionOf hf12) ob_9 rfl yw_X9_positionOf wm_X9_85 rfl hl.1 rfl (Nat.le_of_ble_eq_true rfl) ⟨Nat.le_of_ble_eq_true rfl, Nat.le_of_ble_eq_true rfl⟩ ⟨Nat.le_of_ble_eq_true rfl, Nat.le_of_ble_eq_true rfl⟩ dX9_doExtendLine_25 (fr_nx rfl) (fun r9 M9 H locs ho9 B => ?_)
      obtain ⟨rfl, rfl⟩ := oi_e ho9
      refine lv_if_lt (tgt := 37) hx hb dX9_doExtendLine_28 (by decide) (fun c15 => ?_) (fun c15 => ?_)
      · have hF := it_t hF c15
        refine lv_aload_n hx hb dX9_doExtendLine_37 rfl (lv_at hl 0 rfl) ?_
        refine lv_iload_n hx hb dX9_doExtendLine_38 rfl (lv_at hl 1 rfl) ?_
        obtain ⟨r17, hf16, hF⟩ := bx_e hF
        refine fr_cVi (As := [.int a1]) (rest := []) C B (cm_X9_lengthOf hf16) ob_9 rfl yw_X9_lengthOf wm_X9_55 rfl hl.1 rfl (Nat.le_of_ble_eq_true rfl) ⟨Nat.le_of_ble_eq_true rfl, Nat.le_of_ble_eq_true rfl⟩ ⟨Nat.le_of_ble_eq_true rfl, Nat.le_of_ble_eq_true rfl⟩ dX9_doExtendLine_39 (fr_nx rfl) (fun r9 M9 H locs ho9 B => ?_)
        obtain ⟨rfl, rfl⟩ := oi_e ho9
        refine lv_istore_n (lv' := [(3, .int r17), (0, .ref (fw_ad X 378)), (1, .int a1), (2, .int a2)]) hx hb dX9_doExtendLine_42 rfl hl (by decide) rfl (fun ls hl => ?_)
        refine lv_iload_n hx hb dX9_doExtendLine_43 rfl (lv_at hl 0 rfl) ?_
        refine lv_bipush (v := 6) hx hb dX9_doExtendLine_44 (by decide) ?_
        refine lv_icmp_ne (tgt := 55) hx hb dX9_doExtendLine_46 (by decide) (fun c19 => ?_) (fun c19 => ?_)
        · have hF := it_t hF c19
          refine lv_aload_n hx hb dX9_doExtendLine_55 rfl (lv_at hl 1 rfl) ?_
          refine gf_X9_9 C B dX9_doExtendLine_56 ?_
          refine lv_bipush (v := 16) hx hb dX9_doExtendLine_59 (by decide) ?_
          refine lv_bipush (v := 7) hx hb dX9_doExtendLine_61 (by decide) ?_
          refine lv_iload_n hx hb dX9_doExtendLine_63 rfl (lv_at hl 2 rfl) ?_
          refine lv_imul hx hb dX9_doExtendLine_64 ?_
          refine lv_iadd hx hb dX9_doExtendLine_65 ?_
          refine lv_iconst (v := 1) hx hb dX9_doExtendLine_66 (by decide) ?_
          refine lv_iadd hx hb dX9_doExtendLine_67 ?_
          refine lv_iload_n hx hb dX9_doExtendLine_68 rfl (lv_at hl 0 rfl) ?_
          refine lv_iadd hx hb dX9_doExtendLine_69 ?_
          refine lv_iload_n hx hb dX9_doExtendLine_70 rfl (lv_at hl 3 rfl) ?_
          obtain ⟨c20, hF⟩ := of_g hF
          refine fr_is C B ar_9_379 c20 dX9_doExtendLine_71 (fun H locs B => ?_)
          obtain ⟨M21, eM21, hF⟩ := lt_e hF
          rw [← eM21] at B
          refine lv_aload_n hx hb dX9_doExtendLine_72 rfl (lv_at hl 1 rfl) ?_
          refine gf_X9_9 C B dX9_doExtendLine_73 ?_
          refine lv_bipush (v := 16) hx hb dX9_doExtendLine_76 (by decide) ?_
          refine lv_bipush (v := 7) hx hb dX9_doExtendLine_78 (by decide) ?_
          refine lv_iload_n hx hb dX9_doExtendLine_80 rfl (lv_at hl 2 rfl) ?_
          refine lv_imul hx hb dX9_doExtendLine_81 ?_
          refine lv_iadd hx hb dX9_doExtendLine_82 ?_
          refine lv_dup2_11 hx hb dX9_doExtendLine_83 rfl rfl ?_
          obtain ⟨c22, hF⟩ := of_g hF
          refine fr_ia C B ar_9_379 c22 dX9_doExtendLine_84 ?_
          refine lv_iconst (v := 1) hx hb dX9_doExtendLine_85 (by decide) ?_
          refine lv_iadd hx hb dX9_doExtendLine_86 ?_
          refine fr_is C B ar_9_379 c22 dX9_doExtendLine_87 (fun H locs B => ?_)
          obtain ⟨M23, eM23, hF⟩ := lt_e hF
          rw [← eM23] at B
          refine lv_iload_n hx hb dX9_doExtendLine_88 rfl (lv_at hl 0 rfl) ?_
          exact fr_iret C B hr rfl hlk (by rw [← Option.some.inj hF]) (Nat.le_of_ble_eq_true rfl) (Nat.le_of_ble_eq_true rfl) dX9_doExtendLine_89
        · have hF := it_f hF (not_not_intro c19)
          refine lv_aload_n hx hb dX9_doExtendLine_49 rfl (lv_at hl 1 rfl) ?_
          refine lv_iconst (v := 3) hx hb dX9_doExtendLine_50 (by decide) ?_
          obtain ⟨r25, M26, hf24, hF⟩ := bp_e hF
          refine fr_cVi (As := [.int 3]) (rest := []) C B (cm_X9_fails hf24) ob_9 rfl yw_X9_fails wm_X9_63 rfl hl.1 rfl (Nat.le_of_ble_eq_true rfl) ⟨Nat.le_of_ble_eq_true rfl, Nat.le_of_ble_eq_true rfl⟩ ⟨Nat.le_of_ble_eq_true rfl, Nat.le_of_ble_eq_true rfl⟩ dX9_doExtendLine_51 (fr_nx rfl) (fun r9 M9 H locs ho9 B => ?_)
          obtain ⟨rfl, rfl⟩ := oi_e ho9
          exact fr_iret C B hr rfl hlk (by rw [← Option.some.inj hF]) (Nat.le_of_ble_eq_true rfl) (Nat.le_of_ble_eq_true rfl) dX9_doExtendLine_54
      · have hF := it_f hF c15
        refine lv_aload_n hx hb dX9_doExtendLine_31 rfl (lv_at hl 0 rfl) ?_
        refine lv_iconst (v := 2) hx hb dX9_doExtendLine_32 (by decide) ?_
        obtain ⟨r28, M29, hf27, hF⟩ := bp_e hF
        refine fr_cVi (As := [.int 2]) (rest := []) C B (cm_X9_fails hf27) ob_9 rfl yw_X9_fails wm_X9_63 rfl hl.1 rfl (Nat.le_of_ble_eq_true rfl) ⟨Nat.le_of_ble_eq_true rfl, Nat.le_of_ble_eq_true rfl⟩ ⟨Nat.le_of_ble_eq_true rfl, Nat.le_of_ble_eq_true rfl⟩ dX9_doExtendLine_33 (fr_nx rfl) (fun r9 M9 H locs ho9 B => ?_)
        obtain ⟨rfl, rfl⟩ := oi_e ho9
        exact fr_iret C B hr rfl hlk (by rw [← Option.some.inj hF]) (Nat.le_of_ble_eq_true rfl) (Nat.le_of_ble_eq_true rfl) dX9_doExtendLine_36
    · have hF := it_f hF (not_not_intro c11)
      refine lv_aload_n hx hb dX9_doExtendLine_16 rfl (lv_at hl 0 rfl) ?_
      refine lv_iconst (v := 1) hx hb dX9_doExtendLine_17 (by decide) ?_
      obtain ⟨r31, M32, hf30, hF⟩ := bp_e hF
      refine fr_cVi (As := [.int 1]) (rest := []) C B (cm_X9_fails hf30) ob_9 rfl yw_X9_fails wm_X9_63 rfl hl.1 rfl (Nat.le_of_ble_eq_true rfl) ⟨Nat.le_of_ble_eq_true rfl, Nat.le_of_ble_eq_true rfl⟩ ⟨Nat.le_of_ble_eq_true rfl, Nat.le_of_ble_eq_true rfl⟩ dX9_doExtendLine_18 (fr_nx rfl) (fun r9 M9 H locs ho9 B => ?_)
      obtain ⟨rfl, rfl⟩ := oi_e ho9
      exact fr_iret C B hr rfl hlk (by rw [← Option.some.inj hF]) (Nat.le_of_ble_eq_true rfl) (Nat.le_of_ble_eq_true rfl) dX9_doExtendLine_21
def F_X9_extendLine (M : fw_M) (a1 : Int32) (a2 : Int32) : Option (Int32 × fw_M) :=
  bd_x (F_X9_keep M) fun M3 =>
  bd_p (F_X9_doExtendLine M3 a1 a2) fun r5 M6 =>
  bd_p (F_X9_ends M6 r5) fun r8 M9 =>
  some (r8, M9)
set_option maxHeartbeats 4000000 in
set_option maxRecDepth 100000 in
theorem cm_X9_extendLine {l : Launch} {X : fw_X} {M : fw_M} {a1 : Int32} {a2 : Int32}  {o : Int32 × fw_M} (hF : F_X9_extendLine M a1 a2 = some o) : ct_i l X yX9_extendLine cX9_extendLine 3 (some .int) ({ frames := 3, cells := 0, slots := 0, locals := 81 } : Room) M [.ref (fw_ad X 378), .int a1, .int a2] (.inl o.1, o.2) := by
  refine fw_open rfl (Nat.le_of_ble_eq_true rfl) (fun p e s m below meth c ls C hr hlk hnm hex hl B => ?_)
  have C : fr_C X p c cX9_extendLine 3 RX9 s m ([.ref (fw_ad X 378), .int a1, .int a2] : List Value).toArray := C
  have hx := C.1.1
  have hb := C.1.2.1
  have hl : lv_has ls 3 [(0, .ref (fw_ad X 378)), (1, .int a1), (2, .int a2)] := hl
  unfold F_X9_extendLine at hF
  refine lv_aload_n hx hb dX9_extendLine_0 rfl (lv_at hl 0 rfl) ?_
  obtain ⟨M3, hf1, hF⟩ := bx_e hF
  refine fr_cVv (As := []) (rest := []) C B (cm_X9_keep hf1) ob_9 rfl yw_X9_keep wm_X9_66 rfl hl.1 rfl (Nat.le_of_ble_eq_true rfl) ⟨Nat.le_of_ble_eq_true rfl, Nat.le_of_ble_eq_true rfl⟩ ⟨Nat.le_of_ble_eq_true rfl, Nat.le_of_ble_eq_true rfl⟩ dX9_extendLine_1 (fr_nx rfl) (fun M9 H locs ho9 B => ?_)
  obtain ⟨-, rfl⟩ := oi_e ho9
  refine lv_aload_n hx hb dX9_extendLine_4 rfl (lv_at hl 0 rfl) ?_
  refine lv_aload_n hx hb dX9_extendLine_5 rfl (lv_at hl 0 rfl) ?_
  refine lv_iload_n hx hb dX9_extendLine_6 rfl (lv_at hl 1 rfl) ?_
  refine lv_iload_n hx hb dX9_extendLine_7 rfl (lv_at hl 2 rfl) ?_
  obtain ⟨r5, M6, hf4, hF⟩ := bp_e hF
  refine fr_cVi (As := [.int a1, .int a2]) (rest := [.ref (fw_ad X 378)]) C B (cm_X9_doExtendLine hf4) ob_9 rfl yw_X9_doExtendLine wm_X9_88 rfl hl.1 rfl (Nat.le_of_ble_eq_true rfl) ⟨Nat.le_of_ble_eq_true rfl, Nat.le_of_ble_eq_true rfl⟩ ⟨Nat.le_of_ble_eq_true rfl, Nat.le_of_ble_eq_true rfl⟩ dX9_extendLine_8 (fr_nx rfl) (fun r9 M9 H locs ho9 B => ?_)
  obtain ⟨rfl, rfl⟩ := oi_e ho9
  obtain ⟨r8, M9, hf7, hF⟩ := bp_e hF
  refine fr_cVi (As := [.int r5]) (rest := []) C B (cm_X9_ends hf7) ob_9 rfl yw_X9_ends wm_X9_72 rfl hl.1 rfl (Nat.le_of_ble_eq_true rfl) ⟨Nat.le_of_ble_eq_true rfl, Nat.le_of_ble_eq_true rfl⟩ ⟨Nat.le_of_ble_eq_true rfl, Nat.le_of_ble_eq_true rfl⟩ dX9_extendLine_11 (fr_nx rfl) (fun r9 M9 H locs ho9 B => ?_)
  obtain ⟨rfl, rfl⟩ := oi_e ho9
  exact fr_iret C B hr rfl hlk (by rw [← Option.some.inj hF]) (Nat.le_of_ble_eq_true rfl) (Nat.le_of_ble_eq_true rfl) dX9_extendLine_14
def F_X9_stopCount (M : fw_M) : Option (Int32 × fw_M) :=
  lt_x (fw_up M 378 6 0) fun M1 =>
  if ix_i 0 129 then
  some ((fw_ri M1 379 0), M1)
  else none
set_option maxHeartbeats 4000000 in
set_option maxRecDepth 100000 in
theorem cm_X9_stopCount {l : Launch} {X : fw_X} {M : fw_M}  {o : Int32 × fw_M} (hF : F_X9_stopCount M = some o) : ct_i l X yX9_stopCount cX9_stopCount 1 (some .int) ({ frames := 0, cells := 0, slots := 0, locals := 0 } : Room) M [.ref (fw_ad X 378)] (.inl o.1, o.2) := by
  refine fw_open rfl (Nat.le_of_ble_eq_true rfl) (fun p e s m below meth c ls C hr hlk hnm hex hl B => ?_)
  have C : fr_C X p c cX9_stopCount 1 RX9 s m ([.ref (fw_ad X 378)] : List Value).toArray := C
  have hx := C.1.1
  have hb := C.1.2.1
  have hl : lv_has ls 1 [(0, .ref (fw_ad X 378))] := hl
  unfold F_X9_stopCount at hF
  refine lv_aload_n hx hb dX9_stopCount_0 rfl (lv_at hl 0 rfl) ?_
  refine lv_iconst (v := 0) hx hb dX9_stopCount_1 (by decide) ?_
  refine pf_X9_39 C B dX9_stopCount_2 (fun H locs B => ?_)
  obtain ⟨M1, eM1, hF⟩ := lt_e hF
  rw [← eM1] at B
  refine lv_aload_n hx hb dX9_stopCount_5 rfl (lv_at hl 0 rfl) ?_
  refine gf_X9_9 C B dX9_stopCount_6 ?_
  refine lv_iconst (v := 0) hx hb dX9_stopCount_9 (by decide) ?_
  obtain ⟨c2, hF⟩ := of_g hF
  refine fr_ia C B ar_9_379 c2 dX9_stopCount_10 ?_
  exact fr_iret C B hr rfl hlk (by rw [← Option.some.inj hF]) (Nat.le_of_ble_eq_true rfl) (Nat.le_of_ble_eq_true rfl) dX9_stopCount_11
def F_X9_zoneOf (M : fw_M) (a1 : Int32) : Option (Int32 × fw_M) :=
  bd_x (F_X9_isStop M a1) fun r2 =>
  bd_p (F_X9_isThere M r2) fun r5 M6 =>
  if r5 = 0 then
    some (0, M6)
  else
    if ix_i (6 + a1) 129 then
    some ((fw_ri M6 379 (6 + a1)), M6)
    else none
set_option maxHeartbeats 4000000 in
set_option maxRecDepth 100000 in
theorem cm_X9_zoneOf {l : Launch} {X : fw_X} {M : fw_M} {a1 : Int32}  {o : Int32 × fw_M} (hF : F_X9_zoneOf M a1 = some o) : ct_i l X yX9_zoneOf cX9_zoneOf 2 (some .int) ({ frames := 2, cells := 0, slots := 0, locals := 43 } : Room) M [.ref (fw_ad X 378), .int a1] (.inl o.1, o.2) := by
  refine fw_open rfl (Nat.le_of_ble_eq_true rfl) (fun p e s m below meth c ls C hr hlk hnm hex hl B => ?_)
  have C : fr_C X p c cX9_zoneOf 2 RX9 s m ([.ref (fw_ad X 378), .int a1] : List Value).toArray := C
  have hx := C.1.1
  have hb := C.1.2.1
  have hl : lv_has ls 2 [(0, .ref (fw_ad X 378)), (1, .int a1)] := hl
  unfold F_X9_zoneOf at hF
  refine lv_aload_n hx hb dX9_zoneOf_0 rfl (lv_at hl 0 rfl) ?_
  refine lv_aload_n hx hb dX9_zoneOf_1 rfl (lv_at hl 0 rfl) ?_
  refine lv_iload_n hx hb dX9_zoneOf_2 rfl (lv_at hl 1 rfl) ?_
  obtain ⟨r2, hf1, hF⟩ := bx_e hF
  refine fr_cVi (As := [.int a1]) (rest := [.ref (fw_ad X 378)]) C B (cm_X9_isStop hf1) ob_9 rfl yw_X9_isStop wm_X9_75 rfl hl.1 rfl (Nat.le_of_ble_eq_true rfl) ⟨Nat.le_of_ble_eq_true rfl, Nat.le_of_ble_eq_true rfl⟩ ⟨Nat.le_of_ble_eq_true rfl, Nat.le_of_ble_eq_true rfl⟩ dX9_zoneOf_3 (fr_nx rfl) (fun r9 M9 H locs ho9 B => ?_)
  obtain ⟨rfl, rfl⟩ := oi_e ho9
  obtain ⟨r5, M6, hf4, hF⟩ := bp_e hF
  refine fr_cVi (As := [.int r2]) (rest := []) C B (cm_X9_isThere hf4) ob_9 rfl yw_X9_isThere wm_X9_91 rfl hl.1 rfl (Nat.le_of_ble_eq_true rfl) ⟨Nat.le_of_ble_eq_true rfl, Nat.le_of_ble_eq_true rfl⟩ ⟨Nat.le_of_ble_eq_true rfl, Nat.le_of_ble_eq_true rfl⟩ dX9_zoneOf_6 (fr_nx rfl) (fun r9 M9 H locs ho9 B => ?_)
  obtain ⟨rfl, rfl⟩ := oi_e ho9
  refine lv_if_eq (tgt := 24) hx hb dX9_zoneOf_9 (by decide) (fun c7 => ?_) (fun c7 => ?_)
  · have hF := it_t hF c7
    refine lv_iconst (v := 0) hx hb dX9_zoneOf_24 (by decide) ?_
    exact fr_iret C B hr rfl hlk (by rw [← Option.some.inj hF]) (Nat.le_of_ble_eq_true rfl) (Nat.le_of_ble_eq_true rfl) dX9_zoneOf_25
  · have hF := it_f hF c7
    refine lv_aload_n hx hb dX9_zoneOf_12 rfl (lv_at hl 0 rfl) ?_
    refine gf_X9_9 C B dX9_zoneOf_13 ?_
    refine lv_bipush (v := 6) hx hb dX9_zoneOf_16 (by decide) ?_
    refine lv_iload_n hx hb dX9_zoneOf_18 rfl (lv_at hl 1 rfl) ?_
    refine lv_iadd hx hb dX9_zoneOf_19 ?_
    obtain ⟨c8, hF⟩ := of_g hF
    refine fr_ia C B ar_9_379 c8 dX9_zoneOf_20 ?_
    refine lv_goto (tgt := 25) hx hb dX9_zoneOf_21 (by decide) ?_
    exact fr_iret C B hr rfl hlk (by rw [← Option.some.inj hF]) (Nat.le_of_ble_eq_true rfl) (Nat.le_of_ble_eq_true rfl) dX9_zoneOf_25
def F_X9_isEnd_4 (M : fw_M) (a1 : Int32)  : Nat → Int32 → Int32 → Option (Int32)
  | 0, _, _ => none
  | n + 1, x2, x3 =>
    if ix_i 1 129 then
    if (fw_ri M 379 1) ≤ x3 then
      if (x2 = 0 ∨ x2 = 1) then
      some x2
      else none
    else
      if ¬ x2 = 0 then
        F_X9_isEnd_4 M a1 n 1 (x3 + 1)
      else
        bd_x (F_X9_stopOf M x3 0) fun r6 =>
        if r6 = a1 then
          F_X9_isEnd_4 M a1 n 1 (x3 + 1)
        else
          bd_x (F_X9_lengthOf M x3) fun r10 =>
          bd_x (F_X9_stopOf M x3 (r10 - 1)) fun r13 =>
          if ¬ r13 = a1 then
            F_X9_isEnd_4 M a1 n 0 (x3 + 1)
          else
            F_X9_isEnd_4 M a1 n 1 (x3 + 1)
    else none
def F_X9_isEnd (M : fw_M) (a1 : Int32) : Option (Int32) :=
  F_X9_isEnd_4 M a1 64 0 0
set_option maxHeartbeats 4000000 in
set_option maxRecDepth 100000 in
theorem cm_X9_isEnd {l : Launch} {X : fw_X} {M : fw_M} {a1 : Int32}  {o : Int32} (hF : F_X9_isEnd M a1 = some o) : ct_i l X yX9_isEnd cX9_isEnd 4 (some .boolean) ({ frames := 1, cells := 0, slots := 0, locals := 22 } : Room) M [.ref (fw_ad X 378), .int a1] (.inl o, M) := by
  refine fw_open rfl (Nat.le_of_ble_eq_true rfl) (fun p e s m below meth c ls C hr hlk hnm hex hl B => ?_)
  have C : fr_C X p c cX9_isEnd 4 RX9 s m ([.ref (fw_ad X 378), .int a1] : List Value).toArray := C
  have hx := C.1.1
  have hb := C.1.2.1
  have hl : lv_has ls 4 [(0, .ref (fw_ad X 378)), (1, .int a1)] := hl
  have hJ4 : ∀ (n : Nat), ∀ (x2 : Int32) (x3 : Int32) (H : Heap) (locs : List Loc) (ls : Array Slot), F_X9_isEnd_4 M a1 n x2 x3 = some o → fr_H X s M H locs → lv_has ls 4 [(0, .ref (fw_ad X 378)), (1, .int a1), (2, .int x2), (3, .int x3)] → W p l e ({ frames := 1, cells := 0, slots := 0, locals := 22 } : Room) s m ([.ref (fw_ad X 378), .int a1] : List Value).toArray below meth c H locs 0 0 (vx_MQ below (fw_Qi X (.inl o, M)) (fw_Qx X (.inl o, M)) ([.ref (fw_ad X 378), .int a1] : List Value).toArray s 0 0 (fw_A X)) (F0 m 4 ls []) := by
    intro n
    induction n with
    | zero =>
      intro x2 x3 H locs ls hF B hl
      exact absurd hF (by simp [F_X9_isEnd_4])
    | succ n ih =>
      intro x2 x3 H locs ls hF B hl
      rw [F_X9_isEnd_4] at hF
      refine lv_iload_n hx hb dX9_isEnd_4 rfl (lv_at hl 3 rfl) ?_
      refine lv_aload_n hx hb dX9_isEnd_5 rfl (lv_at hl 0 rfl) ?_
      refine gf_X9_9 C B dX9_isEnd_6 ?_
      refine lv_iconst (v := 1) hx hb dX9_isEnd_9 (by decide) ?_
      obtain ⟨c1, hF⟩ := of_g hF
      refine fr_ia C B ar_9_379 c1 dX9_isEnd_10 ?_
      refine lv_icmp_ge (tgt := 56) hx hb dX9_isEnd_11 (by decide) (fun c2 => ?_) (fun c2 => ?_)
      · have hF := it_t hF c2
        refine lv_iload_n hx hb dX9_isEnd_56 rfl (lv_at hl 2 rfl) ?_
        obtain ⟨c3, hF⟩ := of_g hF
        exact fr_iret C B hr (nz_b c3) hlk (by rw [← Option.some.inj hF]) (Nat.le_of_ble_eq_true rfl) (Nat.le_of_ble_eq_true rfl) dX9_isEnd_57
      · have hF := it_f hF c2
        refine lv_iload_n hx hb dX9_isEnd_14 rfl (lv_at hl 2 rfl) ?_
        refine lv_if_ne (tgt := 44) hx hb dX9_isEnd_15 (by decide) (fun c4 => ?_) (fun c4 => ?_)
        · have hF := it_t hF c4
          refine lv_iconst (v := 1) hx hb dX9_isEnd_44 (by decide) ?_
          refine lv_goto (tgt := 49) hx hb dX9_isEnd_45 (by decide) ?_
          refine lv_istore_n (lv' := [(2, .int 1), (0, .ref (fw_ad X 378)), (1, .int a1), (3, .int x3)]) hx hb dX9_isEnd_49 rfl hl (by decide) rfl (fun ls hl => ?_)
          refine lv_iinc (v := (x3 + 1)) (lv' := [(3, .int (x3 + 1)), (2, .int 1), (0, .ref (fw_ad X 378)), (1, .int a1)]) hx hb dX9_isEnd_50 hl (k := 3) rfl rfl (by decide) rfl (fun ls hl => ?_)
          refine lv_goto (tgt := 4) hx hb dX9_isEnd_53 (by decide) ?_
          exact ih 1 (x3 + 1) _ _ _ hF B (lv_sub hl [2, 3, 1, 0] rfl)
        · have hF := it_f hF (not_not_intro c4)
          refine lv_aload_n hx hb dX9_isEnd_18 rfl (lv_at hl 0 rfl) ?_
          refine lv_iload_n hx hb dX9_isEnd_19 rfl (lv_at hl 3 rfl) ?_
          refine lv_iconst (v := 0) hx hb dX9_isEnd_20 (by decide) ?_
          obtain ⟨r6, hf5, hF⟩ := bx_e hF
          refine fr_cVi (As := [.int x3, .int 0]) (rest := []) C B (cm_X9_stopOf hf5) ob_9 rfl yw_X9_stopOf wm_X9_59 rfl hl.1 rfl (Nat.le_of_ble_eq_true rfl) ⟨Nat.le_of_ble_eq_true rfl, Nat.le_of_ble_eq_true rfl⟩ ⟨Nat.le_of_ble_eq_true rfl, Nat.le_of_ble_eq_true rfl⟩ dX9_isEnd_21 (fr_nx rfl) (fun r9 M9 H locs ho9 B => ?_)
          obtain ⟨rfl, rfl⟩ := oi_e ho9
          refine lv_iload_n hx hb dX9_isEnd_24 rfl (lv_at hl 1 rfl) ?_
          refine lv_icmp_eq (tgt := 44) hx hb dX9_isEnd_25 (by decide) (fun c8 => ?_) (fun c8 => ?_)
          · have hF := it_t hF c8
            refine lv_iconst (v := 1) hx hb dX9_isEnd_44 (by decide) ?_
            refine lv_goto (tgt := 49) hx hb dX9_isEnd_45 (by decide) ?_
            refine lv_istore_n (lv' := [(2, .int 1), (0, .ref (fw_ad X 378)), (1, .int a1), (3, .int x3)]) hx hb dX9_isEnd_49 rfl hl (by decide) rfl (fun ls hl => ?_)
            refine lv_iinc (v := (x3 + 1)) (lv' := [(3, .int (x3 + 1)), (2, .int 1), (0, .ref (fw_ad X 378)), (1, .int a1)]) hx hb dX9_isEnd_50 hl (k := 3) rfl rfl (by decide) rfl (fun ls hl => ?_)
            refine lv_goto (tgt := 4) hx hb dX9_isEnd_53 (by decide) ?_
            exact ih 1 (x3 + 1) _ _ _ hF B (lv_sub hl [2, 3, 1, 0] rfl)
          · have hF := it_f hF c8
            refine lv_aload_n hx hb dX9_isEnd_28 rfl (lv_at hl 0 rfl) ?_
            refine lv_iload_n hx hb dX9_isEnd_29 rfl (lv_at hl 3 rfl) ?_
            refine lv_aload_n hx hb dX9_isEnd_30 rfl (lv_at hl 0 rfl) ?_
            refine lv_iload_n hx hb dX9_isEnd_31 rfl (lv_at hl 3 rfl) ?_
            obtain ⟨r10, hf9, hF⟩ := bx_e hF
            refine fr_cVi (As := [.int x3]) (rest := [.int x3, .ref (fw_ad X 378)]) C B (cm_X9_lengthOf hf9) ob_9 rfl yw_X9_lengthOf wm_X9_55 rfl hl.1 rfl (Nat.le_of_ble_eq_true rfl) ⟨Nat.le_of_ble_eq_true rfl, Nat.le_of_ble_eq_true rfl⟩ ⟨Nat.le_of_ble_eq_true rfl, Nat.le_of_ble_eq_true rfl⟩ dX9_isEnd_32 (fr_nx rfl) (fun r9 M9 H locs ho9 B => ?_)
            obtain ⟨rfl, rfl⟩ := oi_e ho9
            refine lv_iconst (v := 1) hx hb dX9_isEnd_35 (by decide) ?_
            refine lv_isub hx hb dX9_isEnd_36 ?_
            obtain ⟨r13, hf12, hF⟩ := bx_e hF
            refine fr_cVi (As := [.int x3, .int (r10 - 1)]) (rest := []) C B (cm_X9_stopOf hf12) ob_9 rfl yw_X9_stopOf wm_X9_59 rfl hl.1 rfl (Nat.le_of_ble_eq_true rfl) ⟨Nat.le_of_ble_eq_true rfl, Nat.le_of_ble_eq_true rfl⟩ ⟨Nat.le_of_ble_eq_true rfl, Nat.le_of_ble_eq_true rfl⟩ dX9_isEnd_37 (fr_nx rfl) (fun r9 M9 H locs ho9 B => ?_)
            obtain ⟨rfl, rfl⟩ := oi_e ho9
            refine lv_iload_n hx hb dX9_isEnd_40 rfl (lv_at hl 1 rfl) ?_
            refine lv_icmp_ne (tgt := 48) hx hb dX9_isEnd_41 (by decide) (fun c15 => ?_) (fun c15 => ?_)
            · have hF := it_t hF c15
              refine lv_iconst (v := 0) hx hb dX9_isEnd_48 (by decide) ?_
              refine lv_istore_n (lv' := [(2, .int 0), (0, .ref (fw_ad X 378)), (1, .int a1), (3, .int x3)]) hx hb dX9_isEnd_49 rfl hl (by decide) rfl (fun ls hl => ?_)
              refine lv_iinc (v := (x3 + 1)) (lv' := [(3, .int (x3 + 1)), (2, .int 0), (0, .ref (fw_ad X 378)), (1, .int a1)]) hx hb dX9_isEnd_50 hl (k := 3) rfl rfl (by decide) rfl (fun ls hl => ?_)
              refine lv_goto (tgt := 4) hx hb dX9_isEnd_53 (by decide) ?_
              exact ih 0 (x3 + 1) _ _ _ hF B (lv_sub hl [2, 3, 1, 0] rfl)
            · have hF := it_f hF (not_not_intro c15)
              refine lv_iconst (v := 1) hx hb dX9_isEnd_44 (by decide) ?_
              refine lv_goto (tgt := 49) hx hb dX9_isEnd_45 (by decide) ?_
              refine lv_istore_n (lv' := [(2, .int 1), (0, .ref (fw_ad X 378)), (1, .int a1), (3, .int x3)]) hx hb dX9_isEnd_49 rfl hl (by decide) rfl (fun ls hl => ?_)
              refine lv_iinc (v := (x3 + 1)) (lv' := [(3, .int (x3 + 1)), (2, .int 1), (0, .ref (fw_ad X 378)), (1, .int a1)]) hx hb dX9_isEnd_50 hl (k := 3) rfl rfl (by decide) rfl (fun ls hl => ?_)
              refine lv_goto (tgt := 4) hx hb dX9_isEnd_53 (by decide) ?_
              exact ih 1 (x3 + 1) _ _ _ hF B (lv_sub hl [2, 3, 1, 0] rfl)
  unfold F_X9_isEnd at hF
  refine lv_iconst (v := 0) hx hb dX9_isEnd_0 (by decide) ?_
  refine lv_istore_n (lv' := [(2, .int 0), (0, .ref (fw_ad X 378)), (1, .int a1)]) hx hb dX9_isEnd_1 rfl hl (by decide) rfl (fun ls hl => ?_)
  refine lv_iconst (v := 0) hx hb dX9_isEnd_2 (by decide) ?_
  refine lv_istore_n (lv' := [(3, .int 0), (2, .int 0), (0, .ref (fw_ad X 378)), (1, .int a1)]) hx hb dX9_isEnd_3 rfl hl (by decide) rfl (fun ls hl => ?_)
  exact hJ4 64 0 0 _ _ _ hF B (lv_sub hl [2, 3, 1, 0] rfl)
def F_X9_isTerminus (M : fw_M) (a1 : Int32) : Option (Int32 × fw_M) :=
  bd_x (F_X9_isStop M a1) fun r2 =>
  bd_p (F_X9_isThere M r2) fun r5 M6 =>
  if r5 = 0 then
    some (0, M6)
  else
    bd_x (F_X9_isEnd M6 a1) fun r9 =>
    if r9 = 0 then
      some (0, M6)
    else
      some (1, M6)
set_option maxHeartbeats 4000000 in
set_option maxRecDepth 100000 in
theorem cm_X9_isTerminus {l : Launch} {X : fw_X} {M : fw_M} {a1 : Int32}  {o : Int32 × fw_M} (hF : F_X9_isTerminus M a1 = some o) : ct_i l X yX9_isTerminus cX9_isTerminus 2 (some .boolean) ({ frames := 2, cells := 0, slots := 0, locals := 45 } : Room) M [.ref (fw_ad X 378), .int a1] (.inl o.1, o.2) := by
  refine fw_open rfl (Nat.le_of_ble_eq_true rfl) (fun p e s m below meth c ls C hr hlk hnm hex hl B => ?_)
  have C : fr_C X p c cX9_isTerminus 2 RX9 s m ([.ref (fw_ad X 378), .int a1] : List Value).toArray := C
  have hx := C.1.1
  have hb := C.1.2.1
  have hl : lv_has ls 2 [(0, .ref (fw_ad X 378)), (1, .int a1)] := hl
  unfold F_X9_isTerminus at hF
  refine lv_aload_n hx hb dX9_isTerminus_0 rfl (lv_at hl 0 rfl) ?_
  refine lv_aload_n hx hb dX9_isTerminus_1 rfl (lv_at hl 0 rfl) ?_
  refine lv_iload_n hx hb dX9_isTerminus_2 rfl (lv_at hl 1 rfl) ?_
  obtain ⟨r2, hf1, hF⟩ := bx_e hF
  refine fr_cVi (As := [.int a1]) (rest := [.ref (fw_ad X 378)]) C B (cm_X9_isStop hf1) ob_9 rfl yw_X9_isStop wm_X9_75 rfl hl.1 rfl (Nat.le_of_ble_eq_true rfl) ⟨Nat.le_of_ble_eq_true rfl, Nat.le_of_ble_eq_true rfl⟩ ⟨Nat.le_of_ble_eq_true rfl, Nat.le_of_ble_eq_true rfl⟩ dX9_isTerminus_3 (fr_nx rfl) (fun r9 M9 H locs ho9 B => ?_)
  obtain ⟨rfl, rfl⟩ := oi_e ho9
  obtain ⟨r5, M6, hf4, hF⟩ := bp_e hF
  refine fr_cVi (As := [.int r2]) (rest := []) C B (cm_X9_isThere hf4) ob_9 rfl yw_X9_isThere wm_X9_91 rfl hl.1 rfl (Nat.le_of_ble_eq_true rfl) ⟨Nat.le_of_ble_eq_true rfl, Nat.le_of_ble_eq_true rfl⟩ ⟨Nat.le_of_ble_eq_true rfl, Nat.le_of_ble_eq_true rfl⟩ dX9_isTerminus_6 (fr_nx rfl) (fun r9 M9 H locs ho9 B => ?_)
  obtain ⟨rfl, rfl⟩ := oi_e ho9
  refine lv_if_eq (tgt := 24) hx hb dX9_isTerminus_9 (by decide) (fun c7 => ?_) (fun c7 => ?_)
  · have hF := it_t hF c7
    refine lv_iconst (v := 0) hx hb dX9_isTerminus_24 (by decide) ?_
    exact fr_iret C B hr rfl hlk (by rw [← Option.some.inj hF]) (Nat.le_of_ble_eq_true rfl) (Nat.le_of_ble_eq_true rfl) dX9_isTerminus_25
  · have hF := it_f hF c7
    refine lv_aload_n hx hb dX9_isTerminus_12 rfl (lv_at hl 0 rfl) ?_
    refine lv_iload_n hx hb dX9_isTerminus_13 rfl (lv_at hl 1 rfl) ?_
    obtain ⟨r9, hf8, hF⟩ := bx_e hF
    refine fr_cVi (As := [.int a1]) (rest := []) C B (cm_X9_isEnd hf8) ob_9 rfl yw_X9_isEnd wm_X9_95 rfl hl.1 rfl (Nat.le_of_ble_eq_true rfl) ⟨Nat.le_of_ble_eq_true rfl, Nat.le_of_ble_eq_true rfl⟩ ⟨Nat.le_of_ble_eq_true rfl, Nat.le_of_ble_eq_true rfl⟩ dX9_isTerminus_14 (fr_nx rfl) (fun r9 M9 H locs ho9 B => ?_)
    obtain ⟨rfl, rfl⟩ := oi_e ho9
    refine lv_if_eq (tgt := 24) hx hb dX9_isTerminus_17 (by decide) (fun c11 => ?_) (fun c11 => ?_)
    · have hF := it_t hF c11
      refine lv_iconst (v := 0) hx hb dX9_isTerminus_24 (by decide) ?_
      exact fr_iret C B hr rfl hlk (by rw [← Option.some.inj hF]) (Nat.le_of_ble_eq_true rfl) (Nat.le_of_ble_eq_true rfl) dX9_isTerminus_25
    · have hF := it_f hF c11
      refine lv_iconst (v := 1) hx hb dX9_isTerminus_20 (by decide) ?_
      refine lv_goto (tgt := 25) hx hb dX9_isTerminus_21 (by decide) ?_
      exact fr_iret C B hr rfl hlk (by rw [← Option.some.inj hF]) (Nat.le_of_ble_eq_true rfl) (Nat.le_of_ble_eq_true rfl) dX9_isTerminus_25
