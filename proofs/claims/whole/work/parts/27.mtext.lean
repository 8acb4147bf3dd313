def F_X0_append (M : fw_M) (a1 : Int32) : Option (Int32 × fw_M) :=
  if ix_i (M 360 0) 60 then
  lt_x (fw_wi M 361 (M 360 0) (fw_nc a1)) fun M2 =>
  lt_x (fw_up M2 360 0 ((M2 360 0) + 1)) fun M3 =>
  some ((M3 360 0), M3)
  else none
set_option maxHeartbeats 4000000 in
set_option maxRecDepth 100000 in
theorem cm_X0_append {l : Launch} {X : fw_X} {M : fw_M} {a1 : Int32}  {o : Int32 × fw_M} (hF : F_X0_append M a1 = some o) : ct_i l X yX0_append cX0_append 2 (some .int) ({ frames := 0, cells := 0, slots := 0, locals := 0 } : Room) M [.ref (fw_ad X 360), .int a1] (.inl o.1, o.2) := by
  refine fw_open rfl (Nat.le_of_ble_eq_true rfl) (fun p e s m below meth c ls C hr hlk hnm hex hl B => ?_)
  have C : fr_C X p c cX0_append 2 RX0 s m ([.ref (fw_ad X 360), .int a1] : List Value).toArray := C
  have hx := C.1.1
  have hb := C.1.2.1
  have hl : lv_has ls 2 [(0, .ref (fw_ad X 360)), (1, .int a1)] := hl
  unfold F_X0_append at hF
  refine lv_aload_n hx hb dX0_append_0 rfl (lv_at hl 0 rfl) ?_
  refine gf_X0_9 C B dX0_append_1 ?_
  refine lv_aload_n hx hb dX0_append_4 rfl (lv_at hl 0 rfl) ?_
  refine gf_X0_24 C B dX0_append_5 ?_
  refine lv_iload_n hx hb dX0_append_8 rfl (lv_at hl 1 rfl) ?_
  obtain ⟨c1, hF⟩ := of_g hF
  refine fr_cs C B ar_0_361 c1 dX0_append_9 (fun H locs B => ?_)
  obtain ⟨M2, eM2, hF⟩ := lt_e hF
  rw [← eM2] at B
  refine lv_aload_n hx hb dX0_append_10 rfl (lv_at hl 0 rfl) ?_
  refine lv_dup hx hb dX0_append_11 rfl ?_
  refine gf_X0_24 C B dX0_append_12 ?_
  refine lv_iconst (v := 1) hx hb dX0_append_15 (by decide) ?_
  refine lv_iadd hx hb dX0_append_16 ?_
  refine pf_X0_24 C B dX0_append_17 (fun H locs B => ?_)
  obtain ⟨M3, eM3, hF⟩ := lt_e hF
  rw [← eM3] at B
  refine lv_aload_n hx hb dX0_append_20 rfl (lv_at hl 0 rfl) ?_
  refine gf_X0_24 C B dX0_append_21 ?_
  exact fr_iret C B hr rfl hlk (by rw [← Option.some.inj hF]) (Nat.le_of_ble_eq_true rfl) (Nat.le_of_ble_eq_true rfl) dX0_append_24
def F_X0_empty (M : fw_M) : Option (fw_M) :=
  lt_x (fw_up M 360 0 0) fun M1 =>
  some M1
set_option maxHeartbeats 4000000 in
set_option maxRecDepth 100000 in
theorem cm_X0_empty {l : Launch} {X : fw_X} {M : fw_M}  {o : fw_M} (hF : F_X0_empty M = some o) : ct_v l X yX0_empty cX0_empty 1 none ({ frames := 0, cells := 0, slots := 0, locals := 0 } : Room) M [.ref (fw_ad X 360)] (.inl 0, o) := by
  refine fw_open rfl (Nat.le_of_ble_eq_true rfl) (fun p e s m below meth c ls C hr hlk hnm hex hl B => ?_)
  have C : fr_C X p c cX0_empty 1 RX0 s m ([.ref (fw_ad X 360)] : List Value).toArray := C
  have hx := C.1.1
  have hb := C.1.2.1
  have hl : lv_has ls 1 [(0, .ref (fw_ad X 360))] := hl
  unfold F_X0_empty at hF
  refine lv_aload_n hx hb dX0_empty_0 rfl (lv_at hl 0 rfl) ?_
  refine lv_iconst (v := 0) hx hb dX0_empty_1 (by decide) ?_
  refine pf_X0_24 C B dX0_empty_2 (fun H locs B => ?_)
  obtain ⟨M1, eM1, hF⟩ := lt_e hF
  rw [← eM1] at B
  exact fr_vret C B hr hlk (by rw [← Option.some.inj hF]) (Nat.le_of_ble_eq_true rfl) (Nat.le_of_ble_eq_true rfl) dX0_empty_5
def F_X0_take (M : fw_M) (a1 : Int32) : Option (Int32 × fw_M) :=
  if (M 360 0) ≤ (M 360 2) then
    some (0, M)
  else
    if ix_i (M 360 2) 60 then
    if (fw_ri M 361 (M 360 2)) = a1 then
      lt_x (fw_up M 360 2 ((M 360 2) + 1)) fun M4 =>
      some (1, M4)
    else
      some (0, M)
    else none
set_option maxHeartbeats 4000000 in
set_option maxRecDepth 100000 in
theorem cm_X0_take {l : Launch} {X : fw_X} {M : fw_M} {a1 : Int32}  {o : Int32 × fw_M} (hF : F_X0_take M a1 = some o) : ct_i l X yX0_take cX0_take 2 (some .boolean) ({ frames := 0, cells := 0, slots := 0, locals := 0 } : Room) M [.ref (fw_ad X 360), .int a1] (.inl o.1, o.2) := by
  refine fw_open rfl (Nat.le_of_ble_eq_true rfl) (fun p e s m below meth c ls C hr hlk hnm hex hl B => ?_)
  have C : fr_C X p c cX0_take 2 RX0 s m ([.ref (fw_ad X 360), .int a1] : List Value).toArray := C
  have hx := C.1.1
  have hb := C.1.2.1
  have hl : lv_has ls 2 [(0, .ref (fw_ad X 360)), (1, .int a1)] := hl
  unfold F_X0_take at hF
  refine lv_aload_n hx hb dX0_take_0 rfl (lv_at hl 0 rfl) ?_
  refine gf_X0_28 C B dX0_take_1 ?_
  refine lv_aload_n hx hb dX0_take_4 rfl (lv_at hl 0 rfl) ?_
  refine gf_X0_24 C B dX0_take_5 ?_
  refine lv_icmp_ge (tgt := 24) hx hb dX0_take_8 (by decide) (fun c1 => ?_) (fun c1 => ?_)
  · have hF := it_t hF c1
    refine lv_iconst (v := 0) hx hb dX0_take_24 (by decide) ?_
    exact fr_iret C B hr rfl hlk (by rw [← Option.some.inj hF]) (Nat.le_of_ble_eq_true rfl) (Nat.le_of_ble_eq_true rfl) dX0_take_25
  · have hF := it_f hF c1
    refine lv_aload_n hx hb dX0_take_11 rfl (lv_at hl 0 rfl) ?_
    refine gf_X0_9 C B dX0_take_12 ?_
    refine lv_aload_n hx hb dX0_take_15 rfl (lv_at hl 0 rfl) ?_
    refine gf_X0_28 C B dX0_take_16 ?_
    obtain ⟨c2, hF⟩ := of_g hF
    refine fr_ca C B ar_0_361 c2 dX0_take_19 ?_
    refine lv_iload_n hx hb dX0_take_20 rfl (lv_at hl 1 rfl) ?_
    refine lv_icmp_eq (tgt := 26) hx hb dX0_take_21 (by decide) (fun c3 => ?_) (fun c3 => ?_)
    · have hF := it_t hF c3
      refine lv_aload_n hx hb dX0_take_26 rfl (lv_at hl 0 rfl) ?_
      refine lv_dup hx hb dX0_take_27 rfl ?_
      refine gf_X0_28 C B dX0_take_28 ?_
      refine lv_iconst (v := 1) hx hb dX0_take_31 (by decide) ?_
      refine lv_iadd hx hb dX0_take_32 ?_
      refine pf_X0_28 C B dX0_take_33 (fun H locs B => ?_)
      obtain ⟨M4, eM4, hF⟩ := lt_e hF
      rw [← eM4] at B
      refine lv_iconst (v := 1) hx hb dX0_take_36 (by decide) ?_
      exact fr_iret C B hr rfl hlk (by rw [← Option.some.inj hF]) (Nat.le_of_ble_eq_true rfl) (Nat.le_of_ble_eq_true rfl) dX0_take_37
    · have hF := it_f hF c3
      refine lv_iconst (v := 0) hx hb dX0_take_24 (by decide) ?_
      exact fr_iret C B hr rfl hlk (by rw [← Option.some.inj hF]) (Nat.le_of_ble_eq_true rfl) (Nat.le_of_ble_eq_true rfl) dX0_take_25
def F_X0_takeDigit (M : fw_M) (a1 : Int32) : Option (Int32 × fw_M) :=
  if (M 360 0) ≤ (M 360 2) then
    some (0, M)
  else
    if ix_i (M 360 2) 60 then
    if (fw_ri M 361 (M 360 2)) < 48 then
      some (0, M)
    else
      if (fw_ri M 361 (M 360 2)) ≤ 57 then
        if ix_i (M 360 3) 12 then
        if ix_i a1 3 then
        lt_x (fw_wi M (364 + (M 360 3).toNatClampNeg) a1 ((fw_ri M 361 (M 360 2)) - 48)) fun M7 =>
        lt_x (fw_up M7 360 2 ((M7 360 2) + 1)) fun M8 =>
        some (1, M8)
        else none
        else none
      else
        some (0, M)
    else none
set_option maxHeartbeats 4000000 in
set_option maxRecDepth 100000 in
theorem cm_X0_takeDigit {l : Launch} {X : fw_X} {M : fw_M} {a1 : Int32}  {o : Int32 × fw_M} (hF : F_X0_takeDigit M a1 = some o) : ct_i l X yX0_takeDigit cX0_takeDigit 2 (some .boolean) ({ frames := 0, cells := 0, slots := 0, locals := 0 } : Room) M [.ref (fw_ad X 360), .int a1] (.inl o.1, o.2) := by
  refine fw_open rfl (Nat.le_of_ble_eq_true rfl) (fun p e s m below meth c ls C hr hlk hnm hex hl B => ?_)
  have C : fr_C X p c cX0_takeDigit 2 RX0 s m ([.ref (fw_ad X 360), .int a1] : List Value).toArray := C
  have hx := C.1.1
  have hb := C.1.2.1
  have hl : lv_has ls 2 [(0, .ref (fw_ad X 360)), (1, .int a1)] := hl
  unfold F_X0_takeDigit at hF
  refine lv_aload_n hx hb dX0_takeDigit_0 rfl (lv_at hl 0 rfl) ?_
  refine gf_X0_28 C B dX0_takeDigit_1 ?_
  refine lv_aload_n hx hb dX0_takeDigit_4 rfl (lv_at hl 0 rfl) ?_
  refine gf_X0_24 C B dX0_takeDigit_5 ?_
  refine lv_icmp_ge (tgt := 39) hx hb dX0_takeDigit_8 (by decide) (fun c1 => ?_) (fun c1 => ?_)
  · have hF := it_t hF c1
    refine lv_iconst (v := 0) hx hb dX0_takeDigit_39 (by decide) ?_
    exact fr_iret C B hr rfl hlk (by rw [← Option.some.inj hF]) (Nat.le_of_ble_eq_true rfl) (Nat.le_of_ble_eq_true rfl) dX0_takeDigit_40
  · have hF := it_f hF c1
    refine lv_aload_n hx hb dX0_takeDigit_11 rfl (lv_at hl 0 rfl) ?_
    refine gf_X0_9 C B dX0_takeDigit_12 ?_
    refine lv_aload_n hx hb dX0_takeDigit_15 rfl (lv_at hl 0 rfl) ?_
    refine gf_X0_28 C B dX0_takeDigit_16 ?_
    obtain ⟨c2, hF⟩ := of_g hF
    refine fr_ca C B ar_0_361 c2 dX0_takeDigit_19 ?_
    refine lv_bipush (v := 48) hx hb dX0_takeDigit_20 (by decide) ?_
    refine lv_icmp_lt (tgt := 39) hx hb dX0_takeDigit_22 (by decide) (fun c3 => ?_) (fun c3 => ?_)
    · have hF := it_t hF c3
      refine lv_iconst (v := 0) hx hb dX0_takeDigit_39 (by decide) ?_
      exact fr_iret C B hr rfl hlk (by rw [← Option.some.inj hF]) (Nat.le_of_ble_eq_true rfl) (Nat.le_of_ble_eq_true rfl) dX0_takeDigit_40
    · have hF := it_f hF c3
      refine lv_aload_n hx hb dX0_takeDigit_25 rfl (lv_at hl 0 rfl) ?_
      refine gf_X0_9 C B dX0_takeDigit_26 ?_
      refine lv_aload_n hx hb dX0_takeDigit_29 rfl (lv_at hl 0 rfl) ?_
      refine gf_X0_28 C B dX0_takeDigit_30 ?_
      refine fr_ca C B ar_0_361 c2 dX0_takeDigit_33 ?_
      refine lv_bipush (v := 57) hx hb dX0_takeDigit_34 (by decide) ?_
      refine lv_icmp_le (tgt := 41) hx hb dX0_takeDigit_36 (by decide) (fun c4 => ?_) (fun c4 => ?_)
      · have hF := it_t hF c4
        refine lv_aload_n hx hb dX0_takeDigit_41 rfl (lv_at hl 0 rfl) ?_
        refine gf_X0_21 C B dX0_takeDigit_42 ?_
        refine lv_aload_n hx hb dX0_takeDigit_45 rfl (lv_at hl 0 rfl) ?_
        refine gf_X0_31 C B dX0_takeDigit_46 ?_
        obtain ⟨c5, hF⟩ := of_g hF
        refine fr_aa C B aq_0 c5 dX0_takeDigit_49 ?_
        refine lv_iload_n hx hb dX0_takeDigit_50 rfl (lv_at hl 1 rfl) ?_
        refine lv_aload_n hx hb dX0_takeDigit_51 rfl (lv_at hl 0 rfl) ?_
        refine gf_X0_9 C B dX0_takeDigit_52 ?_
        refine lv_aload_n hx hb dX0_takeDigit_55 rfl (lv_at hl 0 rfl) ?_
        refine gf_X0_28 C B dX0_takeDigit_56 ?_
        refine fr_ca C B ar_0_361 c2 dX0_takeDigit_59 ?_
        refine lv_bipush (v := 48) hx hb dX0_takeDigit_60 (by decide) ?_
        refine lv_isub hx hb dX0_takeDigit_62 ?_
        obtain ⟨c6, hF⟩ := of_g hF
        refine fr_is C B (ar_0_row (ix_lt c5)) c6 dX0_takeDigit_63 (fun H locs B => ?_)
        obtain ⟨M7, eM7, hF⟩ := lt_e hF
        rw [← eM7] at B
        refine lv_aload_n hx hb dX0_takeDigit_64 rfl (lv_at hl 0 rfl) ?_
        refine lv_dup hx hb dX0_takeDigit_65 rfl ?_
        refine gf_X0_28 C B dX0_takeDigit_66 ?_
        refine lv_iconst (v := 1) hx hb dX0_takeDigit_69 (by decide) ?_
        refine lv_iadd hx hb dX0_takeDigit_70 ?_
        refine pf_X0_28 C B dX0_takeDigit_71 (fun H locs B => ?_)
        obtain ⟨M8, eM8, hF⟩ := lt_e hF
        rw [← eM8] at B
        refine lv_iconst (v := 1) hx hb dX0_takeDigit_74 (by decide) ?_
        exact fr_iret C B hr rfl hlk (by rw [← Option.some.inj hF]) (Nat.le_of_ble_eq_true rfl) (Nat.le_of_ble_eq_true rfl) dX0_takeDigit_75
      · have hF := it_f hF c4
        refine lv_iconst (v := 0) hx hb dX0_takeDigit_39 (by decide) ?_
        exact fr_iret C B hr rfl hlk (by rw [← Option.some.inj hF]) (Nat.le_of_ble_eq_true rfl) (Nat.le_of_ble_eq_true rfl) dX0_takeDigit_40
