def F_X4_forget (M : fw_M) : Option (fw_M) :=
  lt_x (fw_up M 353 2 0) fun M1 =>
  some M1
set_option maxHeartbeats 4000000 in
set_option maxRecDepth 100000 in
theorem cm_X4_forget {l : Launch} {X : fw_X} {M : fw_M}  {o : fw_M} (hF : F_X4_forget M = some o) : ct_v l X yX4_forget cX4_forget 1 none ({ frames := 0, cells := 0, slots := 0, locals := 0 } : Room) M [.ref (fw_ad X 353)] (.inl 0, o) := by
  refine fw_open rfl (Nat.le_of_ble_eq_true rfl) (fun p e s m below meth c ls C hr hlk hnm hex hl B => ?_)
  have C : fr_C X p c cX4_forget 1 RX4 s m ([.ref (fw_ad X 353)] : List Value).toArray := C
  have hx := C.1.1
  have hb := C.1.2.1
  have hl : lv_has ls 1 [(0, .ref (fw_ad X 353))] := hl
  unfold F_X4_forget at hF
  refine lv_aload_n hx hb dX4_forget_0 rfl (lv_at hl 0 rfl) ?_
  refine lv_iconst (v := 0) hx hb dX4_forget_1 (by decide) ?_
  refine pf_X4_18 C B dX4_forget_2 (fun H locs B => ?_)
  obtain ⟨M1, eM1, hF⟩ := lt_e hF
  rw [← eM1] at B
  exact fr_vret C B hr hlk (by rw [← Option.some.inj hF]) (Nat.le_of_ble_eq_true rfl) (Nat.le_of_ble_eq_true rfl) dX4_forget_5
def F_X4_remember_32 (g1 : Nat)  (M : fw_M) : Option (fw_M) :=
  if ix_i (((M 353 1) + (M 353 2)) - ((M 353 1) + (M 353 2)) / 8 * 8) 8 then
  bd_x (F_X7_copyFrom M (96 + 32 * (((M 353 1) + (M 353 2)) - ((M 353 1) + (M 353 2)) / 8 * 8).toNatClampNeg) g1) fun M4 =>
  lt_x (fw_up M4 353 2 ((M4 353 2) + 1)) fun M5 =>
  some M5
  else none
def F_X4_remember (M : fw_M) (g1 : Nat) : Option (fw_M) :=
  if ¬ (M 353 2) = 8 then
    F_X4_remember_32 g1 M
  else
    lt_x (fw_up M 353 1 (((M 353 1) + 1) - ((M 353 1) + 1) / 8 * 8)) fun M7 =>
    lt_x (fw_up M7 353 2 ((M7 353 2) - 1)) fun M8 =>
    F_X4_remember_32 g1 M8
set_option maxHeartbeats 4000000 in
set_option maxRecDepth 100000 in
theorem cm_X4_remember {l : Launch} {X : fw_X} {M : fw_M} {g1 : Nat} (h1 : is7 g1) {o : fw_M} (hF : F_X4_remember M g1 = some o) : ct_v l X yX4_remember cX4_remember 2 none ({ frames := 3, cells := 0, slots := 0, locals := 103 } : Room) M [.ref (fw_ad X 353), .ref (fw_ad X g1)] (.inl 0, o) := by
  refine fw_open rfl (Nat.le_of_ble_eq_true rfl) (fun p e s m below meth c ls C hr hlk hnm hex hl B => ?_)
  have C : fr_C X p c cX4_remember 2 RX4 s m ([.ref (fw_ad X 353), .ref (fw_ad X g1)] : List Value).toArray := C
  have hx := C.1.1
  have hb := C.1.2.1
  have hl : lv_has ls 2 [(0, .ref (fw_ad X 353)), (1, .ref (fw_ad X g1))] := hl
  have hJ32 : ∀ (M : fw_M) (H : Heap) (locs : List Loc) (ls : Array Slot), F_X4_remember_32 g1 M = some o → fr_H X s M H locs → lv_has ls 2 [(0, .ref (fw_ad X 353)), (1, .ref (fw_ad X g1))] → W p l e ({ frames := 3, cells := 0, slots := 0, locals := 103 } : Room) s m ([.ref (fw_ad X 353), .ref (fw_ad X g1)] : List Value).toArray below meth c H locs 0 0 (vx_MQ below (fw_Qv X (.inl 0, o)) (fw_Qx X (.inl 0, o)) ([.ref (fw_ad X 353), .ref (fw_ad X g1)] : List Value).toArray s 0 0 (fw_A X)) (F0 m 32 ls []) := by
    intro M H locs ls hF B hl
    unfold F_X4_remember_32 at hF
    refine lv_aload_n hx hb dX4_remember_32 rfl (lv_at hl 0 rfl) ?_
    refine gf_X4_11 C B dX4_remember_33 ?_
    refine lv_aload_n hx hb dX4_remember_36 rfl (lv_at hl 0 rfl) ?_
    refine gf_X4_22 C B dX4_remember_37 ?_
    refine lv_aload_n hx hb dX4_remember_40 rfl (lv_at hl 0 rfl) ?_
    refine gf_X4_18 C B dX4_remember_41 ?_
    refine lv_iadd hx hb dX4_remember_44 ?_
    refine lv_bipush (v := 8) hx hb dX4_remember_45 (by decide) ?_
    refine lv_irem hx hb dX4_remember_47 (by decide) ?_
    obtain ⟨c1, hF⟩ := of_g hF
    refine fr_aa C B aq_4 c1 dX4_remember_48 ?_
    refine lv_aload_n hx hb dX4_remember_49 rfl (lv_at hl 1 rfl) ?_
    obtain ⟨M4, hf2, hF⟩ := bx_e hF
    refine fr_cVv (As := [.ref (fw_ad X g1)]) (rest := []) C B (cm_X7_copyFrom (is7_h (ix_lt c1)) h1 hf2) (ob_7 (is7_h (ix_lt c1))) rfl yw_X7_copyFrom wm_X4_25 rfl hl.1 rfl (Nat.le_of_ble_eq_true rfl) ⟨Nat.le_of_ble_eq_true rfl, Nat.le_of_ble_eq_true rfl⟩ ⟨Nat.le_of_ble_eq_true rfl, Nat.le_of_ble_eq_true rfl⟩ dX4_remember_50 (fr_nx rfl) (fun M9 H locs ho9 B => ?_)
    obtain ⟨-, rfl⟩ := oi_e ho9
    refine lv_aload_n hx hb dX4_remember_53 rfl (lv_at hl 0 rfl) ?_
    refine lv_dup hx hb dX4_remember_54 rfl ?_
    refine gf_X4_18 C B dX4_remember_55 ?_
    refine lv_iconst (v := 1) hx hb dX4_remember_58 (by decide) ?_
    refine lv_iadd hx hb dX4_remember_59 ?_
    refine pf_X4_18 C B dX4_remember_60 (fun H locs B => ?_)
    obtain ⟨M5, eM5, hF⟩ := lt_e hF
    rw [← eM5] at B
    exact fr_vret C B hr hlk (by rw [← Option.some.inj hF]) (Nat.le_of_ble_eq_true rfl) (Nat.le_of_ble_eq_true rfl) dX4_remember_63
  unfold F_X4_remember at hF
  refine lv_aload_n hx hb dX4_remember_0 rfl (lv_at hl 0 rfl) ?_
  refine gf_X4_18 C B dX4_remember_1 ?_
  refine lv_bipush (v := 8) hx hb dX4_remember_4 (by decide) ?_
  refine lv_icmp_ne (tgt := 32) hx hb dX4_remember_6 (by decide) (fun c6 => ?_) (fun c6 => ?_)
  · have hF := it_t hF c6
    exact hJ32 M _ _ _ hF B (lv_sub hl [0, 1] rfl)
  · have hF := it_f hF (not_not_intro c6)
    refine lv_aload_n hx hb dX4_remember_9 rfl (lv_at hl 0 rfl) ?_
    refine lv_aload_n hx hb dX4_remember_10 rfl (lv_at hl 0 rfl) ?_
    refine gf_X4_22 C B dX4_remember_11 ?_
    refine lv_iconst (v := 1) hx hb dX4_remember_14 (by decide) ?_
    refine lv_iadd hx hb dX4_remember_15 ?_
    refine lv_bipush (v := 8) hx hb dX4_remember_16 (by decide) ?_
    refine lv_irem hx hb dX4_remember_18 (by decide) ?_
    refine pf_X4_22 C B dX4_remember_19 (fun H locs B => ?_)
    obtain ⟨M7, eM7, hF⟩ := lt_e hF
    rw [← eM7] at B
    refine lv_aload_n hx hb dX4_remember_22 rfl (lv_at hl 0 rfl) ?_
    refine lv_dup hx hb dX4_remember_23 rfl ?_
    refine gf_X4_18 C B dX4_remember_24 ?_
    refine lv_iconst (v := 1) hx hb dX4_remember_27 (by decide) ?_
    refine lv_isub hx hb dX4_remember_28 ?_
    refine pf_X4_18 C B dX4_remember_29 (fun H locs B => ?_)
    obtain ⟨M8, eM8, hF⟩ := lt_e hF
    rw [← eM8] at B
    exact hJ32 M8 _ _ _ hF B (lv_sub hl [0, 1] rfl)
def F_X4_takeBack (M : fw_M) (g1 : Nat) : Option (fw_M) :=
  if (M 353 2) ≤ 0 then
    some M
  else
    lt_x (fw_up M 353 2 ((M 353 2) - 1)) fun M2 =>
    if ix_i (((M2 353 1) + (M2 353 2)) - ((M2 353 1) + (M2 353 2)) / 8 * 8) 8 then
    bd_x (F_X7_copyFrom M2 g1 (96 + 32 * (((M2 353 1) + (M2 353 2)) - ((M2 353 1) + (M2 353 2)) / 8 * 8).toNatClampNeg)) fun M6 =>
    some M6
    else none
set_option maxHeartbeats 4000000 in
set_option maxRecDepth 100000 in
theorem cm_X4_takeBack {l : Launch} {X : fw_X} {M : fw_M} {g1 : Nat} (h1 : is7 g1) {o : fw_M} (hF : F_X4_takeBack M g1 = some o) : ct_v l X yX4_takeBack cX4_takeBack 2 none ({ frames := 3, cells := 0, slots := 0, locals := 103 } : Room) M [.ref (fw_ad X 353), .ref (fw_ad X g1)] (.inl 0, o) := by
  refine fw_open rfl (Nat.le_of_ble_eq_true rfl) (fun p e s m below meth c ls C hr hlk hnm hex hl B => ?_)
  have C : fr_C X p c cX4_takeBack 2 RX4 s m ([.ref (fw_ad X 353), .ref (fw_ad X g1)] : List Value).toArray := C
  have hx := C.1.1
  have hb := C.1.2.1
  have hl : lv_has ls 2 [(0, .ref (fw_ad X 353)), (1, .ref (fw_ad X g1))] := hl
  unfold F_X4_takeBack at hF
  refine lv_aload_n hx hb dX4_takeBack_0 rfl (lv_at hl 0 rfl) ?_
  refine gf_X4_18 C B dX4_takeBack_1 ?_
  refine lv_if_le (tgt := 38) hx hb dX4_takeBack_4 (by decide) (fun c1 => ?_) (fun c1 => ?_)
  · have hF := it_t hF c1
    exact fr_vret C B hr hlk (by rw [← Option.some.inj hF]) (Nat.le_of_ble_eq_true rfl) (Nat.le_of_ble_eq_true rfl) dX4_takeBack_38
  · have hF := it_f hF c1
    refine lv_aload_n hx hb dX4_takeBack_7 rfl (lv_at hl 0 rfl) ?_
    refine lv_dup hx hb dX4_takeBack_8 rfl ?_
    refine gf_X4_18 C B dX4_takeBack_9 ?_
    refine lv_iconst (v := 1) hx hb dX4_takeBack_12 (by decide) ?_
    refine lv_isub hx hb dX4_takeBack_13 ?_
    refine pf_X4_18 C B dX4_takeBack_14 (fun H locs B => ?_)
    obtain ⟨M2, eM2, hF⟩ := lt_e hF
    rw [← eM2] at B
    refine lv_aload_n hx hb dX4_takeBack_17 rfl (lv_at hl 1 rfl) ?_
    refine lv_aload_n hx hb dX4_takeBack_18 rfl (lv_at hl 0 rfl) ?_
    refine gf_X4_11 C B dX4_takeBack_19 ?_
    refine lv_aload_n hx hb dX4_takeBack_22 rfl (lv_at hl 0 rfl) ?_
    refine gf_X4_22 C B dX4_takeBack_23 ?_
    refine lv_aload_n hx hb dX4_takeBack_26 rfl (lv_at hl 0 rfl) ?_
    refine gf_X4_18 C B dX4_takeBack_27 ?_
    refine lv_iadd hx hb dX4_takeBack_30 ?_
    refine lv_bipush (v := 8) hx hb dX4_takeBack_31 (by decide) ?_
    refine lv_irem hx hb dX4_takeBack_33 (by decide) ?_
    obtain ⟨c3, hF⟩ := of_g hF
    refine fr_aa C B aq_4 c3 dX4_takeBack_34 ?_
    obtain ⟨M6, hf4, hF⟩ := bx_e hF
    refine fr_cVv (As := [.ref (fw_ad X (96 + 32 * (((M2 353 1) + (M2 353 2)) - ((M2 353 1) + (M2 353 2)) / 8 * 8).toNatClampNeg))]) (rest := []) C B (cm_X7_copyFrom h1 (is7_h (ix_lt c3)) hf4) (ob_7 h1) rfl yw_X7_copyFrom wm_X4_25 rfl hl.1 rfl (Nat.le_of_ble_eq_true rfl) ⟨Nat.le_of_ble_eq_true rfl, Nat.le_of_ble_eq_true rfl⟩ ⟨Nat.le_of_ble_eq_true rfl, Nat.le_of_ble_eq_true rfl⟩ dX4_takeBack_35 (fr_nx rfl) (fun M9 H locs ho9 B => ?_)
    obtain ⟨-, rfl⟩ := oi_e ho9
    exact fr_vret C B hr hlk (by rw [← Option.some.inj hF]) (Nat.le_of_ble_eq_true rfl) (Nat.le_of_ble_eq_true rfl) dX4_takeBack_38
