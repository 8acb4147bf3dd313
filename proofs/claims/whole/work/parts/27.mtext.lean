def F_X0_append (M : fw_M) (a1 : Int32) : Option (Int32 × fw_M) :=
  if ix_i (M 360 0) 60 then
  lt_x (fw_wi M 361 (M 360 0) (fw_nc a1)) fun M2 =>
  lt_x (fw_up M2 360 0 ((M2 360 0) + 1)) fun M3 =>
  some ((M3 360 0), M3)
  else none
set_option maxHeartbeats 4000000 in
set_option maxRecDepth 100000 in
theorem cm_X0_append {l : Launch} {X : fw_X} {M : fw_M} {a1 : Int32}  {o : Int32 × fw_M} (hF : F_X0_append M a1 = some o) : ct_i l X yX0_append cX0_append 2 (some .int) ({ frames := 0, cells := 0, slots := 0, locals := 0 } : Room) M [.ref (fw_ad X 360), .int a1] (.inl o.1, o.2) := by
  refine fw_open rfl (Nat.le_of_ble_eq_true rfl) (fun p e s m below meth c ls C hr hlk hnm hex hl B => ?_)
  have C : fr_C X p c cX0_append 2 RX0 s m ([.ref (fw_ad X 360), .int a1] : List Value).toArray := C
  have hx := C.1.1
  have hb := C.1.2.1
  have hl : lv_has ls 2 [(0, .ref (fw_ad X 360)), (1, .int a1)] := hl
  unfold F_X0_append at hF
  refine lv_aload_n hx hb dX0_append_0 rfl (lv_at hl 0 rfl) ?_
  refine gf_X0_9 C B dX0_append_1 ?_
  refine lv_aload_n hx hb dX0_append_4 rfl (lv_at hl 0 rfl) ?_
  refine gf_X0_24 C B dX0_append_5 ?_
  refine lv_iload_n hx hb dX0_append_8 rfl (lv_at hl 1 rfl) ?_
  obtain ⟨c1, hF⟩ := of_g hF
  refine fr_cs C B ar_0_361 c1 dX0_append_9 (fun H locs B => ?_)
  obtain ⟨M2, eM2, hF⟩ := lt_e hF
  rw [← eM2] at B
  refine lv_aload_n hx hb dX0_append_10 rfl (lv_at hl 0 rfl) ?_
  refine lv_dup hx hb dX0_append_11 rfl ?_
  refine gf_X0_24 C B dX0_append_12 ?_
  refine lv_iconst (v := 1) hx hb dX0_append_15 (by decide) ?_
  refine lv_iadd hx hb dX0_append_16 ?_
  refine pf_X0_24 C B dX0_append_17 (fun H locs B => ?_)
  obtain ⟨M3, eM3, hF⟩ := lt_e hF
  rw [← eM3] at B
  refine lv_aload_n hx hb dX0_append_20 rfl (lv_at hl 0 rfl) ?_
  refine gf_X0_24 C B dX0_append_21 ?_
  exact fr_iret C B hr rfl hlk (by rw [← Option.some.inj hF]) (Nat.le_of_ble_eq_true rfl) (Nat.le_of_ble_eq_true rfl) dX0_append_24
def F_X0_empty (M : fw_M) : Option (fw_M) :=
  lt_x (fw_up M 360 0 0) fun M1 =>
  some M1
set_option maxHeartbeats 4000000 in
set_option maxRecDepth 100000 in
theorem cm_X0_empty {l : Launch} {X : fw_X} {M : fw_M}  {o : fw_M} (hF : F_X0_empty M = some o) : ct_v l X yX0_empty cX0_empty 1 none ({ frames := 0, cells := 0, slots := 0, locals := 0 } : Room) M [.ref (fw_ad X 360)] (.inl 0, o) := by
  refine fw_open rfl (Nat.le_of_ble_eq_true rfl) (fun p e s m below meth c ls C hr hlk hnm hex hl B => ?_)
  have C : fr_C X p c cX0_empty 1 RX0 s m ([.ref (fw_ad X 360)] : List Value).toArray := C
  have hx := C.1.1
  have hb := C.1.2.1
  have hl : lv_has ls 1 [(0, .ref (fw_ad X 360))] := hl
  unfold F_X0_empty at hF
  refine lv_aload_n hx hb dX0_empty_0 rfl (lv_at hl 0 rfl) ?_
  refine lv_iconst (v := 0) hx hb dX0_empty_1 (by decide) ?_
  refine pf_X0_24 C B dX0_empty_2 (fun H locs B => ?_)
  obtain ⟨M1, eM1, hF⟩ := lt_e hF
  rw [← eM1] at B
  exact fr_vret C B hr hlk (by rw [← Option.some.inj hF]) (Nat.le_of_ble_eq_true rfl) (Nat.le_of_ble_eq_true rfl) dX0_empty_5
def F_X0_take (M : fw_M) (a1 : Int32) : Option (Int32 × fw_M) :=
  if (M 360 0) ≤ (M 360 2) then
    some (0, M)
  else
    if ix_i (M 360 2) 60 then
    if (fw_ri M 361 (M 360 2)) = a1 then
      lt_x (fw_up M 360 2 ((M 360 2) + 1)) fun M4 =>
      some (1, M4)
    else
      some (0, M)
    else none
set_option maxHeartbeats 4000000 in
set_option maxRecDepth 100000 in
theorem cm_X0_take {l : Launch} {X : fw_X} {M : fw_M} {a1 : Int32}  {o : Int32 × fw_M} (hF : F_X0_take M a1 = some o) : ct_i l X yX0_take cX0_take 2 (some .boolean) ({ frames := 0, cells := 0, slots := 0, locals := 0 } : Room) M [.ref (fw_ad X 360), .int a1] (.inl o.1, o.2) := by
  refine fw_open rfl (Nat.le_of_ble_eq_true rfl) (fun p e s m below meth c ls C hr hlk hnm hex hl B => ?_)
  have C : fr_C X p c cX0_take 2 RX0 s m ([.ref (fw_ad X 360), .int a1] : List Value).toArray := C
  have hx := C.1.1
  have hb := C.1.2.1
  have hl : lv_has ls 2 [(0, .ref (fw_ad X 360)), (1, .int a1)] := hl
  unfold F_X0_take at hF
  refine lv_aload_n hx hb dX0_take_0 rfl (lv_at hl 0 rfl) ?_
  refine gf_X0_28 C B dX0_take_1 ?_
  refine lv_aload_n hx hb dX0_take_4 rfl (lv_at hl 0 rfl) ?_
  refine gf_X0_24 C B dX0_take_5 ?_
  refine lv_icmp_ge (tgt := 24) hx hb dX0_take_8 (by decide) (fun c1 => ?_) (fun c1 => ?_)
  · have hF := it_t hF c1
    refine lv_iconst (v := 0) hx hb dX0_take_24 (by decide) ?_
    exact fr_iret C B hr rfl hlk (by rw [← Option.some.inj hF]) (Nat.le_of_ble_eq_true rfl) (Nat.le_of_ble_eq_true rfl) dX0_take_25
  · have hF := it_f hF c1
    refine lv_aload_n hx hb dX0_take_11 rfl (lv_at hl 0 rfl) ?_
    refine gf_X0_9 C B dX0_take_12 ?_
    refine lv_aload_n hx hb dX0_take_15 rfl (lv_at hl 0 rfl) ?_
    refine gf_X0_28 C B dX0_take_16 ?_
    obtain ⟨c2, hF⟩ := of_g hF
    refine fr_ca C B ar_0_361 c2 dX0_take_19 ?_
    refine lv_iload_n hx hb dX0_take_20 rfl (lv_at hl 1 rfl) ?_
    refine lv_icmp_eq (tgt := 26) hx hb dX0_take_21 (by decide) (fun c3 => ?_) (fun c3 => ?_)
    · have hF := it_t hF c3
      refine lv_aload_n hx hb dX0_take_26 rfl (lv_at hl 0 rfl) ?_
      refine lv_dup hx hb dX0_take_27 rfl ?_
      refine gf_X0_28 C B dX0_take_28 ?_
      refine lv_iconst (v := 1) hx hb dX0_take_31 (by decide) ?_
      refine lv_iadd hx hb dX0_take_32 ?_
      refine pf_X0_28 C B dX0_take_33 (fun H locs B => ?_)
      obtain ⟨M4, eM4, hF⟩ := lt_e hF
      rw [← eM4] at B
      refine lv_iconst (v := 1) hx hb dX0_take_36 (by decide) ?_
      exact fr_iret C B hr rfl hlk (by rw [← Option.some.inj hF]) (Nat.le_of_ble_eq_true rfl) (Nat.le_of_ble_eq_true rfl) dX0_take_37
    · have hF := it_f hF c3
      refine lv_iconst (v := 0) hx hb dX0_take_24 (by decide) ?_
      exact fr_iret C B hr rfl hlk (by rw [← Option.some.inj hF]) (Nat.le_of_ble_eq_true rfl) (Nat.le_of_ble_eq_true rfl) dX0_take_25
def F_X0_takeDigit (M : fw_M) (a1 : Int32) : Option (Int32 × fw_M) :=
  if (M 360 0) ≤ (M 360 2) then
    some (0, M)
  else
    if ix_i (M 360 2) 60 then
    if (fw_ri M 361 (M 360 2)) < 48 then
      some (0, M)
    else
      if (fw_ri M 361 (M 360 2)) ≤ 57 then
        if ix_i (M 360 3) 12 then
        if ix_i a1 3 then
        lt_x (fw_wi M (364 + (M 360 3).toNatClampNeg) a1 ((fw_ri M 361 (M 360 2)) - 48)) fun M7 =>
        lt_x (fw_up M7 360 2 ((M7 360 2) + 1)) fun M8 =>
        some (1, M8)
        else none
        else none
      else
        some (0, M)
    else none
set_option maxHeartbeats 4000000 in
set_option maxRecDepth 100000 in
theorem cm_X0_takeDigit {l : Launch} {X : fw_X} {M : fw_M} {a1 : Int32}  {o : Int32 × fw_M} (hF : F_X0_takeDigit M a1 = some o) : ct_i l X yX0_takeDigit cX0_takeDigit 2 (some .boolean) ({ frames := 0, cells := 0, slots := 0, locals := 0 } : Room) M [.ref (fw_ad X 360), .int a1] (.inl o.1, o.2) := by
  refine fw_open rfl (Nat.le_of_ble_eq_true rfl) (fun p e s m below meth c ls C hr hlk hnm hex hl B => ?_)
  have C : fr_C X p c cX0_takeDigit 2 RX0 s m ([.ref (fw_ad X 360), .int a1] : List Value).toArray := C
  have hx := C.1.1
  have hb := C.1.2.1
  have hl : lv_has ls 2 [(0, .ref (fw_ad X 360)), (1, .int a1)] := hl
  unfold F_X0_takeDigit at hF
  refine lv_aload_n hx hb dX0_takeDigit_0 rfl (lv_at hl 0 rfl) ?_
  refine gf_X0_28 C B dX0_takeDigit_1 ?_
  refine lv_aload_n hx hb dX0_takeDigit_4 rfl (lv_at hl 0 rfl) ?_
  refine gf_X0_24 C B dX0_takeDigit_5 ?_
  refine lv_icmp_ge (tgt := 39) hx hb dX0_takeDigit_8 (by decide) (fun c1 => ?_) (fun c1 => ?_)
  · have hF := it_t hF c1
    refine lv_iconst (v := 0) hx hb dX0_takeDigit_39 (by decide) ?_
    exact fr_iret C B hr rfl hlk (by rw [← Option.some.inj hF]) (Nat.le_of_ble_eq_true rfl) (Nat.le_of_ble_eq_true rfl) dX0_takeDigit_40
  · have hF := it_f hF c1
    refine lv_aload_n hx hb dX0_takeDigit_11 rfl (lv_at hl 0 rfl) ?_
    refine gf_X0_9 C B dX0_takeDigit_12 ?_
    refine lv_aload_n hx hb dX0_takeDigit_15 rfl (lv_at hl 0 rfl) ?_
    refine gf_X0_28 C B dX0_takeDigit_16 ?_
    obtain ⟨c2, hF⟩ := of_g hF
    refine fr_ca C B ar_0_361 c2 dX0_takeDigit_19 ?_
    refine lv_bipush (v := 48) hx hb dX0_takeDigit_20 (by decide) ?_
    refine lv_icmp_lt (tgt := 39) hx hb dX0_takeDigit_22 (by decide) (fun c3 => ?_) (fun c3 => ?_)
    · have hF := it_t hF c3
      refine lv_iconst (v := 0) hx hb dX0_takeDigit_39 (by decide) ?_
      exact fr_iret C B hr rfl hlk (by rw [← Option.some.inj hF]) (Nat.le_of_ble_eq_true rfl) (Nat.le_of_ble_eq_true rfl) dX0_takeDigit_40
    · have hF := it_f hF c3
      refine lv_aload_n hx hb dX0_takeDigit_25 rfl (lv_at hl 0 rfl) ?_
      refine gf_X0_9 C B dX0_takeDigit_26 ?_
      refine lv_aload_n hx hb dX0_takeDigit_29 rfl (lv_at hl 0 rfl) ?_
      refine gf_X0_28 C B dX0_takeDigit_30 ?_
      refine fr_ca C B ar_0_361 c2 dX0_takeDigit_33 ?_
      refine lv_bipush (v := 57) hx hb dX0_takeDigit_34 (by decide) ?_
      refine lv_icmp_le (tgt := 41) hx hb dX0_takeDigit_36 (by decide) (fun c4 => ?_) (fun c4 => ?_)
      · have hF := it_t hF c4
        refine lv_aload_n hx hb dX0_takeDigit_41 rfl (lv_at hl 0 rfl) ?_
        refine gf_X0_21 C B dX0_takeDigit_42 ?_
        refine lv_aload_n hx hb dX0_takeDigit_45 rfl (lv_at hl 0 rfl) ?_
        refine gf_X0_31 C B dX0_takeDigit_46 ?_
        obtain ⟨c5, hF⟩ := of_g hF
        refine fr_aa C B aq_0 c5 dX0_takeDigit_49 ?_
        refine lv_iload_n hx hb dX0_takeDigit_50 rfl (lv_at hl 1 rfl) ?_
        refine lv_aload_n hx hb dX0_takeDigit_51 rfl (lv_at hl 0 rfl) ?_
        refine gf_X0_9 C B dX0_takeDigit_52 ?_
        refine lv_aload_n hx hb dX0_takeDigit_55 rfl (lv_at hl 0 rfl) ?_
        refine gf_X0_28 C B dX0_takeDigit_56 ?_
        refine fr_ca C B ar_0_361 c2 dX0_takeDigit_59 ?_
        refine lv_bipush (v := 48) hx hb dX0_takeDigit_60 (by decide) ?_
        refine lv_isub hx hb dX0_takeDigit_62 ?_
        obtain ⟨c6, hF⟩ := of_g hF
        refine fr_is C B (ar_0_row (ix_lt c5)) c6 dX0_takeDigit_63 (fun H locs B => ?_)
        obtain ⟨M7, eM7, hF⟩ := lt_e hF
        rw [← eM7] at B
        refine lv_aload_n hx hb dX0_takeDigit_64 rfl (lv_at hl 0 rfl) ?_
        refine lv_dup hx hb dX0_takeDigit_65 rfl ?_
        refine gf_X0_28 C B dX0_takeDigit_66 ?_
        refine lv_iconst (v := 1) hx hb dX0_takeDigit_69 (by decide) ?_
        refine lv_iadd hx hb dX0_takeDigit_70 ?_
        refine pf_X0_28 C B dX0_takeDigit_71 (fun H locs B => ?_)
        obtain ⟨M8, eM8, hF⟩ := lt_e hF
        rw [← eM8] at B
        refine lv_iconst (v := 1) hx hb dX0_takeDigit_74 (by decide) ?_
        exact fr_iret C B hr rfl hlk (by rw [← Option.some.inj hF]) (Nat.le_of_ble_eq_true rfl) (Nat.le_of_ble_eq_true rfl) dX0_takeDigit_75
      · have hF := it_f hF c4
        refine lv_iconst (v := 0) hx hb dX0_takeDigit_39 (by decide) ?_
        exact fr_iret C B hr rfl hlk (by rw [← Option.some.inj hF]) (Nat.le_of_ble_eq_true rfl) (Nat.le_of_ble_eq_true rfl) dX0_takeDigit_40
def F_X0_matchedLength_19 (M : fw_M) (i1 : Nat)  : Nat → Int32 → Int32 → Option (Int32)
  | 0, _, _ => none
  | n + 1, x2, x3 =>
    if x2 ≤ x3 then
      some x2
    else
      if ix_i ((M 360 2) + x3) 60 then
      bd_x (F_J0_charAt_5068e M i1 x3) fun r4 =>
      if (fw_ri M 361 ((M 360 2) + x3)) = r4 then
        F_X0_matchedLength_19 M i1 n x2 (x3 + 1)
      else
        some x3
      else none
def F_X0_matchedLength (M : fw_M) (i1 : Nat) : Option (Int32) :=
  bd_x (F_J0_length_8abf5 M i1) fun r7 =>
  F_X0_matchedLength_19 M i1 64 (if ((M 360 0) - (M 360 2)) < r7 then ((M 360 0) - (M 360 2)) else r7) 0
set_option maxHeartbeats 4000000 in
set_option maxRecDepth 100000 in
theorem cm_X0_matchedLength {l : Launch} {X : fw_X} {M : fw_M} {i1 : Nat} (hi1 : i1 < 12) {o : Int32} (hF : F_X0_matchedLength M i1 = some o) : ct_i l X yX0_matchedLength cX0_matchedLength 4 (some .int) ({ frames := 4, cells := 0, slots := 0, locals := 85 } : Room) M [.ref (fw_ad X 360), .ref (fw_sg X (10 + i1))] (.inl o, M) := by
  refine fw_open rfl (Nat.le_of_ble_eq_true rfl) (fun p e s m below meth c ls C hr hlk hnm hex hl B => ?_)
  have C : fr_C X p c cX0_matchedLength 4 RX0 s m ([.ref (fw_ad X 360), .ref (fw_sg X (10 + i1))] : List Value).toArray := C
  have hx := C.1.1
  have hb := C.1.2.1
  have hl : lv_has ls 4 [(0, .ref (fw_ad X 360)), (1, .ref (fw_sg X (10 + i1)))] := hl
  have hJ19 : ∀ (n : Nat), ∀ (x2 : Int32) (x3 : Int32) (H : Heap) (locs : List Loc) (ls : Array Slot), F_X0_matchedLength_19 M i1 n x2 x3 = some o → fr_H X s M H locs → lv_has ls 4 [(0, .ref (fw_ad X 360)), (1, .ref (fw_sg X (10 + i1))), (2, .int x2), (3, .int x3)] → W p l e ({ frames := 4, cells := 0, slots := 0, locals := 85 } : Room) s m ([.ref (fw_ad X 360), .ref (fw_sg X (10 + i1))] : List Value).toArray below meth c H locs 0 0 (vx_MQ below (fw_Qi X (.inl o, M)) (fw_Qx X (.inl o, M)) ([.ref (fw_ad X 360), .ref (fw_sg X (10 + i1))] : List Value).toArray s 0 0 (fw_A X)) (F0 m 19 ls []) := by
    intro n
    induction n with
    | zero =>
      intro x2 x3 H locs ls hF B hl
      exact absurd hF (by simp [F_X0_matchedLength_19])
    | succ n ih =>
      intro x2 x3 H locs ls hF B hl
      rw [F_X0_matchedLength_19] at hF
      refine lv_iload_n hx hb dX0_matchedLength_19 rfl (lv_at hl 3 rfl) ?_
      refine lv_iload_n hx hb dX0_matchedLength_20 rfl (lv_at hl 2 rfl) ?_
      refine lv_icmp_ge (tgt := 51) hx hb dX0_matchedLength_21 (by decide) (fun c1 => ?_) (fun c1 => ?_)
      · have hF := it_t hF c1
        refine lv_iload_n hx hb dX0_matchedLength_51 rfl (lv_at hl 2 rfl) ?_
        exact fr_iret C B hr rfl hlk (by rw [← Option.some.inj hF]) (Nat.le_of_ble_eq_true rfl) (Nat.le_of_ble_eq_true rfl) dX0_matchedLength_52
      · have hF := it_f hF c1
        refine lv_aload_n hx hb dX0_matchedLength_24 rfl (lv_at hl 0 rfl) ?_
        refine gf_X0_9 C B dX0_matchedLength_25 ?_
        refine lv_aload_n hx hb dX0_matchedLength_28 rfl (lv_at hl 0 rfl) ?_
        refine gf_X0_28 C B dX0_matchedLength_29 ?_
        refine lv_iload_n hx hb dX0_matchedLength_32 rfl (lv_at hl 3 rfl) ?_
        refine lv_iadd hx hb dX0_matchedLength_33 ?_
        obtain ⟨c2, hF⟩ := of_g hF
        refine fr_ca C B ar_0_361 c2 dX0_matchedLength_34 ?_
        refine lv_aload_n hx hb dX0_matchedLength_35 rfl (lv_at hl 1 rfl) ?_
        refine lv_iload_n hx hb dX0_matchedLength_36 rfl (lv_at hl 3 rfl) ?_
        obtain ⟨r4, hf3, hF⟩ := bx_e hF
        refine fr_sV (As := [.int x3]) (rest := [.int (fw_ri M 361 ((M 360 2) + x3))]) C B hi1 (cr_J0_charAt_5068e hi1 hf3) rfl yw_J0_charAt_5068e wm_X0_71 rfl hl.1 rfl (Nat.le_of_ble_eq_true rfl) ⟨Nat.le_of_ble_eq_true rfl, Nat.le_of_ble_eq_true rfl⟩ ⟨rfl, rfl⟩ ⟨(Nat.le_of_ble_eq_true rfl), (Nat.le_of_ble_eq_true rfl)⟩ dX0_matchedLength_37 ?_
        refine lv_icmp_eq (tgt := 45) hx hb dX0_matchedLength_40 (by decide) (fun c5 => ?_) (fun c5 => ?_)
        · have hF := it_t hF c5
          refine lv_iinc (v := (x3 + 1)) (lv' := [(3, .int (x3 + 1)), (0, .ref (fw_ad X 360)), (1, .ref (fw_sg X (10 + i1))), (2, .int x2)]) hx hb dX0_matchedLength_45 hl (k := 3) rfl rfl (by decide) rfl (fun ls hl => ?_)
          refine lv_goto (tgt := 19) hx hb dX0_matchedLength_48 (by decide) ?_
          exact ih x2 (x3 + 1) _ _ _ hF B (lv_sub hl [1, 2, 3, 0] rfl)
        · have hF := it_f hF c5
          refine lv_iload_n hx hb dX0_matchedLength_43 rfl (lv_at hl 3 rfl) ?_
          exact fr_iret C B hr rfl hlk (by rw [← Option.some.inj hF]) (Nat.le_of_ble_eq_true rfl) (Nat.le_of_ble_eq_true rfl) dX0_matchedLength_44
  unfold F_X0_matchedLength at hF
  refine lv_aload_n hx hb dX0_matchedLength_0 rfl (lv_at hl 1 rfl) ?_
  obtain ⟨r7, hf6, hF⟩ := bx_e hF
  refine fr_sV (As := []) (rest := []) C B hi1 (cr_J0_length_8abf5 hi1 hf6) rfl yw_J0_length_8abf5 wm_X0_61 rfl hl.1 rfl (Nat.le_of_ble_eq_true rfl) ⟨Nat.le_of_ble_eq_true rfl, Nat.le_of_ble_eq_true rfl⟩ ⟨rfl, rfl⟩ ⟨(Nat.le_of_ble_eq_true rfl), (Nat.le_of_ble_eq_true rfl)⟩ dX0_matchedLength_1 ?_
  refine lv_aload_n hx hb dX0_matchedLength_4 rfl (lv_at hl 0 rfl) ?_
  refine gf_X0_24 C B dX0_matchedLength_5 ?_
  refine lv_aload_n hx hb dX0_matchedLength_8 rfl (lv_at hl 0 rfl) ?_
  refine gf_X0_28 C B dX0_matchedLength_9 ?_
  refine lv_isub hx hb dX0_matchedLength_12 ?_
  refine va_mmin hx hb (C.1.2.2.1.trans hl.1.symm) C.1.2.2.2.1 (C.1.2.2.2.2 _ wm_X0_65) (C.1.2.2.2.2 _ wt_Mmin) (C.1.2.2.2.2 _ wi_Math) (C.1.2.2.2.2 _ wc_Mmin) (Nat.le_of_ble_eq_true rfl) (Nat.le_of_ble_eq_true rfl) (Nat.le_of_ble_eq_true rfl) (Nat.le_of_ble_eq_true rfl) dX0_matchedLength_13 ?_
  refine lv_istore_n (lv' := [(2, .int (if ((M 360 0) - (M 360 2)) < r7 then ((M 360 0) - (M 360 2)) else r7)), (0, .ref (fw_ad X 360)), (1, .ref (fw_sg X (10 + i1)))]) hx hb dX0_matchedLength_16 rfl hl (by decide) rfl (fun ls hl => ?_)
  refine lv_iconst (v := 0) hx hb dX0_matchedLength_17 (by decide) ?_
  refine lv_istore_n (lv' := [(3, .int 0), (2, .int (if ((M 360 0) - (M 360 2)) < r7 then ((M 360 0) - (M 360 2)) else r7)), (0, .ref (fw_ad X 360)), (1, .ref (fw_sg X (10 + i1)))]) hx hb dX0_matchedLength_18 rfl hl (by decide) rfl (fun ls hl => ?_)
  exact hJ19 64 (if ((M 360 0) - (M 360 2)) < r7 then ((M 360 0) - (M 360 2)) else r7) 0 _ _ _ hF B (lv_sub hl [2, 3, 1, 0] rfl)
def F_X0_takeWord_6   : Nat → Int32 → Int32 → Int32 → fw_M → Option (Int32 × fw_M)
  | 0, _, _, _, _ => none
  | n + 1, x1, x2, x3, M =>
    if 11 ≤ x3 then
      lt_x (fw_up M 360 2 ((M 360 2) + x1)) fun M2 =>
      some (x2, M2)
    else
      bd_x (F_X0_wordOf M x3) fun r4 =>
      if r4 < 12 then
      bd_x (F_X0_matchedLength M r4) fun r7 =>
      if r7 ≤ x1 then
        if ¬ r7 = x1 then
          F_X0_takeWord_6  n x1 x2 (x3 + 1) M
        else
          bd_x (F_J0_length_8abf5 M r4) fun r12 =>
          if ¬ r7 = r12 then
            F_X0_takeWord_6  n x1 x2 (x3 + 1) M
          else
            F_X0_takeWord_6  n x1 x3 (x3 + 1) M
      else
        if ¬ r7 = r7 then
          F_X0_takeWord_6  n r7 (-1) (x3 + 1) M
        else
          bd_x (F_J0_length_8abf5 M r4) fun r16 =>
          if ¬ r7 = r16 then
            F_X0_takeWord_6  n r7 (-1) (x3 + 1) M
          else
            F_X0_takeWord_6  n r7 x3 (x3 + 1) M
      else none
def F_X0_takeWord (M : fw_M) : Option (Int32 × fw_M) :=
  F_X0_takeWord_6 64 0 (-1) 0 M
set_option maxHeartbeats 4000000 in
set_option maxRecDepth 100000 in
theorem cm_X0_takeWord {l : Launch} {X : fw_X} {M : fw_M}  {o : Int32 × fw_M} (hF : F_X0_takeWord M = some o) : ct_i l X yX0_takeWord cX0_takeWord 6 (some .int) ({ frames := 5, cells := 0, slots := 0, locals := 108 } : Room) M [.ref (fw_ad X 360)] (.inl o.1, o.2) := by
  refine fw_open rfl (Nat.le_of_ble_eq_true rfl) (fun p e s m below meth c ls C hr hlk hnm hex hl B => ?_)
  have C : fr_C X p c cX0_takeWord 6 RX0 s m ([.ref (fw_ad X 360)] : List Value).toArray := C
  have hx := C.1.1
  have hb := C.1.2.1
  have hl : lv_has ls 6 [(0, .ref (fw_ad X 360))] := hl
  have hJ6 : ∀ (n : Nat), ∀ (x1 : Int32) (x2 : Int32) (x3 : Int32) (M : fw_M) (H : Heap) (locs : List Loc) (ls : Array Slot), F_X0_takeWord_6  n x1 x2 x3 M = some o → fr_H X s M H locs → lv_has ls 6 [(0, .ref (fw_ad X 360)), (1, .int x1), (2, .int x2), (3, .int x3)] → W p l e ({ frames := 5, cells := 0, slots := 0, locals := 108 } : Room) s m ([.ref (fw_ad X 360)] : List Value).toArray below meth c H locs 0 0 (vx_MQ below (fw_Qi X (.inl o.1, o.2)) (fw_Qx X (.inl o.1, o.2)) ([.ref (fw_ad X 360)] : List Value).toArray s 0 0 (fw_A X)) (F0 m 6 ls []) := by
    intro n
    induction n with
    | zero =>
      intro x1 x2 x3 M H locs ls hF B hl
      exact absurd hF (by simp [F_X0_takeWord_6])
    | succ n ih =>
      intro x1 x2 x3 M H locs ls hF B hl
      rw [F_X0_takeWord_6] at hF
      refine lv_iload_n hx hb dX0_takeWord_6 rfl (lv_at hl 3 rfl) ?_
      refine lv_bipush (v := 11) hx hb dX0_takeWord_7 (by decide) ?_
      refine lv_icmp_ge (tgt := 61) hx hb dX0_takeWord_9 (by decide) (fun c1 => ?_) (fun c1 => ?_)
      · have hF := it_t hF c1
        refine lv_aload_n hx hb dX0_takeWord_61 rfl (lv_at hl 0 rfl) ?_
        refine lv_dup hx hb dX0_takeWord_62 rfl ?_
        refine gf_X0_28 C B dX0_takeWord_63 ?_
        refine lv_iload_n hx hb dX0_takeWord_66 rfl (lv_at hl 1 rfl) ?_
        refine lv_iadd hx hb dX0_takeWord_67 ?_
        refine pf_X0_28 C B dX0_takeWord_68 (fun H locs B => ?_)
        obtain ⟨M2, eM2, hF⟩ := lt_e hF
        rw [← eM2] at B
        refine lv_iload_n hx hb dX0_takeWord_71 rfl (lv_at hl 2 rfl) ?_
        exact fr_iret C B hr rfl hlk (by rw [← Option.some.inj hF]) (Nat.le_of_ble_eq_true rfl) (Nat.le_of_ble_eq_true rfl) dX0_takeWord_72
      · have hF := it_f hF c1
        refine lv_iload_n hx hb dX0_takeWord_12 rfl (lv_at hl 3 rfl) ?_
        obtain ⟨r4, hf3, hF⟩ := bx_e hF
        refine jr_S (As := [.int x3]) (rest := []) C B (cr_X0_wordOf hf3) yw_X0_wordOf wm_X0_53 rfl hl.1 rfl (Nat.le_of_ble_eq_true rfl) ⟨Nat.le_of_ble_eq_true rfl, Nat.le_of_ble_eq_true rfl⟩ ⟨rfl, rfl⟩ ⟨(Nat.le_of_ble_eq_true rfl), (Nat.le_of_ble_eq_true rfl)⟩ dX0_takeWord_13 ?_
        obtain ⟨c5, hF⟩ := of_g hF
        refine lv_astore (lv' := [(4, .ref (fw_sg X (10 + r4))), (0, .ref (fw_ad X 360)), (1, .int x1), (2, .int x2), (3, .int x3)]) hx hb dX0_takeWord_16 hl (by decide) rfl (fun ls hl => ?_)
        refine lv_aload_n hx hb dX0_takeWord_18 rfl (lv_at hl 1 rfl) ?_
        refine lv_aload hx hb dX0_takeWord_19 (lv_at hl 0 rfl) ?_
        obtain ⟨r7, hf6, hF⟩ := bx_e hF
        refine fr_cVi (As := [.ref (fw_sg X (10 + r4))]) (rest := []) C B (cm_X0_matchedLength c5 hf6) ob_0 rfl yw_X0_matchedLength wm_X0_57 rfl hl.1 rfl (Nat.le_of_ble_eq_true rfl) ⟨Nat.le_of_ble_eq_true rfl, Nat.le_of_ble_eq_true rfl⟩ ⟨Nat.le_of_ble_eq_true rfl, Nat.le_of_ble_eq_true rfl⟩ dX0_takeWord_21 (fr_nx rfl) (fun r9 M9 H locs ho9 B => ?_)
        obtain ⟨rfl, rfl⟩ := oi_e ho9
        refine lv_istore (lv' := [(5, .int r7), (4, .ref (fw_sg X (10 + r4))), (0, .ref (fw_ad X 360)), (1, .int x1), (2, .int x2), (3, .int x3)]) hx hb dX0_takeWord_24 hl (by decide) rfl (fun ls hl => ?_)
        refine lv_iload hx hb dX0_takeWord_26 (lv_at hl 0 rfl) ?_
        refine lv_iload_n hx hb dX0_takeWord_28 rfl (lv_at hl 3 rfl) ?_
        refine lv_icmp_le (tgt := 37) hx hb dX0_takeWord_29 (by decide) (fun c9 => ?_) (fun c9 => ?_)
        · have hF := it_t hF c9
          refine lv_iload hx hb dX0_takeWord_37 (lv_at hl 0 rfl) ?_
          refine lv_iload_n hx hb dX0_takeWord_39 rfl (lv_at hl 3 rfl) ?_
          refine lv_icmp_ne (tgt := 55) hx hb dX0_takeWord_40 (by decide) (fun c10 => ?_) (fun c10 => ?_)
          · have hF := it_t hF c10
            refine lv_iinc (v := (x3 + 1)) (lv' := [(3, .int (x3 + 1)), (5, .int r7), (4, .ref (fw_sg X (10 + r4))), (0, .ref (fw_ad X 360)), (1, .int x1), (2, .int x2)]) hx hb dX0_takeWord_55 hl (k := 5) rfl rfl (by decide) rfl (fun ls hl => ?_)
            refine lv_goto (tgt := 6) hx hb dX0_takeWord_58 (by decide) ?_
            exact ih x1 x2 (x3 + 1) M _ _ _ hF B (lv_sub hl [3, 4, 5, 0] rfl)
          · have hF := it_f hF (not_not_intro c10)
            refine lv_iload hx hb dX0_takeWord_43 (lv_at hl 0 rfl) ?_
            refine lv_aload hx hb dX0_takeWord_45 (lv_at hl 1 rfl) ?_
            obtain ⟨r12, hf11, hF⟩ := bx_e hF
            refine fr_sV (As := []) (rest := [.int r7]) C B c5 (cr_J0_length_8abf5 c5 hf11) rfl yw_J0_length_8abf5 wm_X0_61 rfl hl.1 rfl (Nat.le_of_ble_eq_true rfl) ⟨Nat.le_of_ble_eq_true rfl, Nat.le_of_ble_eq_true rfl⟩ ⟨rfl, rfl⟩ ⟨(Nat.le_of_ble_eq_true rfl), (Nat.le_of_ble_eq_true rfl)⟩ dX0_takeWord_47 ?_
            refine lv_icmp_ne (tgt := 55) hx hb dX0_takeWord_50 (by decide) (fun c13 => ?_) (fun c13 => ?_)
            · have hF := it_t hF c13
              refine lv_iinc (v := (x3 + 1)) (lv' := [(3, .int (x3 + 1)), (5, .int r7), (4, .ref (fw_sg X (10 + r4))), (0, .ref (fw_ad X 360)), (1, .int x1), (2, .int x2)]) hx hb dX0_takeWord_55 hl (k := 5) rfl rfl (by decide) rfl (fun ls hl => ?_)
              refine lv_goto (tgt := 6) hx hb dX0_takeWord_58 (by decide) ?_
              exact ih x1 x2 (x3 + 1) M _ _ _ hF B (lv_sub hl [3, 4, 5, 0] rfl)
            · have hF := it_f hF (not_not_intro c13)
              refine lv_iload_n hx hb dX0_takeWord_53 rfl (lv_at hl 5 rfl) ?_
              refine lv_istore_n (lv' := [(2, .int x3), (5, .int r7), (4, .ref (fw_sg X (10 + r4))), (0, .ref (fw_ad X 360)), (1, .int x1), (3, .int x3)]) hx hb dX0_takeWord_54 rfl hl (by decide) rfl (fun ls hl => ?_)
              refine lv_iinc (v := (x3 + 1)) (lv' := [(3, .int (x3 + 1)), (2, .int x3), (5, .int r7), (4, .ref (fw_sg X (10 + r4))), (0, .ref (fw_ad X 360)), (1, .int x1)]) hx hb dX0_takeWord_55 hl (k := 5) rfl rfl (by decide) rfl (fun ls hl => ?_)
              refine lv_goto (tgt := 6) hx hb dX0_takeWord_58 (by decide) ?_
              exact ih x1 x3 (x3 + 1) M _ _ _ hF B (lv_sub hl [4, 5, 1, 0] rfl)
        · have hF := it_f hF c9
          refine lv_iload hx hb dX0_takeWord_32 (lv_at hl 0 rfl) ?_
          refine lv_istore_n (lv' := [(1, .int r7), (5, .int r7), (4, .ref (fw_sg X (10 + r4))), (0, .ref (fw_ad X 360)), (2, .int x2), (3, .int x3)]) hx hb dX0_takeWord_34 rfl hl (by decide) rfl (fun ls hl => ?_)
          refine lv_iconst (v := (-1)) hx hb dX0_takeWord_35 (by decide) ?_
          refine lv_istore_n (lv' := [(2, .int (-1)), (1, .int r7), (5, .int r7), (4, .ref (fw_sg X (10 + r4))), (0, .ref (fw_ad X 360)), (3, .int x3)]) hx hb dX0_takeWord_36 rfl hl (by decide) rfl (fun ls hl => ?_)
          refine lv_iload hx hb dX0_takeWord_37 (lv_at hl 2 rfl) ?_
          refine lv_iload_n hx hb dX0_takeWord_39 rfl (lv_at hl 1 rfl) ?_
          refine lv_icmp_ne (tgt := 55) hx hb dX0_takeWord_40 (by decide) (fun c14 => ?_) (fun c14 => ?_)
          · have hF := it_t hF c14
            refine lv_iinc (v := (x3 + 1)) (lv' := [(3, .int (x3 + 1)), (2, .int (-1)), (1, .int r7), (5, .int r7), (4, .ref (fw_sg X (10 + r4))), (0, .ref (fw_ad X 360))]) hx hb dX0_takeWord_55 hl (k := 5) rfl rfl (by decide) rfl (fun ls hl => ?_)
            refine lv_goto (tgt := 6) hx hb dX0_takeWord_58 (by decide) ?_
            exact ih r7 (-1) (x3 + 1) M _ _ _ hF B (lv_sub hl [5, 2, 1, 0] rfl)
          · have hF := it_f hF (not_not_intro c14)
            refine lv_iload hx hb dX0_takeWord_43 (lv_at hl 2 rfl) ?_
            refine lv_aload hx hb dX0_takeWord_45 (lv_at hl 3 rfl) ?_
            obtain ⟨r16, hf15, hF⟩ := bx_e hF
            refine fr_sV (As := []) (rest := [.int r7]) C B c5 (cr_J0_length_8abf5 c5 hf15) rfl yw_J0_length_8abf5 wm_X0_61 rfl hl.1 rfl (Nat.le_of_ble_eq_true rfl) ⟨Nat.le_of_ble_eq_true rfl, Nat.le_of_ble_eq_true rfl⟩ ⟨rfl, rfl⟩ ⟨(Nat.le_of_ble_eq_true rfl), (Nat.le_of_ble_eq_true rfl)⟩ dX0_takeWord_47 ?_
            refine lv_icmp_ne (tgt := 55) hx hb dX0_takeWord_50 (by decide) (fun c17 => ?_) (fun c17 => ?_)
            · have hF := it_t hF c17
              refine lv_iinc (v := (x3 + 1)) (lv' := [(3, .int (x3 + 1)), (2, .int (-1)), (1, .int r7), (5, .int r7), (4, .ref (fw_sg X (10 + r4))), (0, .ref (fw_ad X 360))]) hx hb dX0_takeWord_55 hl (k := 5) rfl rfl (by decide) rfl (fun ls hl => ?_)
              refine lv_goto (tgt := 6) hx hb dX0_takeWord_58 (by decide) ?_
              exact ih r7 (-1) (x3 + 1) M _ _ _ hF B (lv_sub hl [5, 2, 1, 0] rfl)
            · have hF := it_f hF (not_not_intro c17)
              refine lv_iload_n hx hb dX0_takeWord_53 rfl (lv_at hl 5 rfl) ?_
              refine lv_istore_n (lv' := [(2, .int x3), (1, .int r7), (5, .int r7), (4, .ref (fw_sg X (10 + r4))), (0, .ref (fw_ad X 360)), (3, .int x3)]) hx hb dX0_takeWord_54 rfl hl (by decide) rfl (fun ls hl => ?_)
              refine lv_iinc (v := (x3 + 1)) (lv' := [(3, .int (x3 + 1)), (2, .int x3), (1, .int r7), (5, .int r7), (4, .ref (fw_sg X (10 + r4))), (0, .ref (fw_ad X 360))]) hx hb dX0_takeWord_55 hl (k := 5) rfl rfl (by decide) rfl (fun ls hl => ?_)
              refine lv_goto (tgt := 6) hx hb dX0_takeWord_58 (by decide) ?_
              exact ih r7 x3 (x3 + 1) M _ _ _ hF B (lv_sub hl [5, 2, 1, 0] rfl)
  unfold F_X0_takeWord at hF
  refine lv_iconst (v := 0) hx hb dX0_takeWord_0 (by decide) ?_
  refine lv_istore_n (lv' := [(1, .int 0), (0, .ref (fw_ad X 360))]) hx hb dX0_takeWord_1 rfl hl (by decide) rfl (fun ls hl => ?_)
  refine lv_iconst (v := (-1)) hx hb dX0_takeWord_2 (by decide) ?_
  refine lv_istore_n (lv' := [(2, .int (-1)), (1, .int 0), (0, .ref (fw_ad X 360))]) hx hb dX0_takeWord_3 rfl hl (by decide) rfl (fun ls hl => ?_)
  refine lv_iconst (v := 0) hx hb dX0_takeWord_4 (by decide) ?_
  refine lv_istore_n (lv' := [(3, .int 0), (2, .int (-1)), (1, .int 0), (0, .ref (fw_ad X 360))]) hx hb dX0_takeWord_5 rfl hl (by decide) rfl (fun ls hl => ?_)
  exact hJ6 64 0 (-1) 0 M _ _ _ hF B (lv_sub hl [3, 2, 1, 0] rfl)
def F_X0_takeCommand_24   : Nat → Int32 → Int32 → fw_M → Option (Int32 × fw_M)
  | 0, _, _, _ => none
  | n + 1, x1, x2, M =>
    if ix_i x1 11 then
    if (fw_dk x1) ≤ x2 then
      some (1, M)
    else
      bd_p (F_X0_take M 32) fun r4 M5 =>
      if r4 = 0 then
        some (0, M5)
      else
        bd_p (F_X0_takeDigit M5 x2) fun r8 M9 =>
        if ¬ r8 = 0 then
          F_X0_takeCommand_24  n x1 (x2 + 1) M9
        else
          some (0, M9)
    else none
def F_X0_takeCommand (M : fw_M) : Option (Int32 × fw_M) :=
  bd_p (F_X0_takeWord M) fun r12 M13 =>
  if ¬ r12 = (-1) then
    if ix_i (M13 360 3) 12 then
    lt_x (fw_wi M13 362 (M13 360 3) r12) fun M16 =>
    F_X0_takeCommand_24 64 r12 0 M16
    else none
  else
    some (0, M13)
set_option maxHeartbeats 4000000 in
set_option maxRecDepth 100000 in
theorem cm_X0_takeCommand {l : Launch} {X : fw_X} {M : fw_M}  {o : Int32 × fw_M} (hF : F_X0_takeCommand M = some o) : ct_i l X yX0_takeCommand cX0_takeCommand 3 (some .boolean) ({ frames := 6, cells := 0, slots := 0, locals := 133 } : Room) M [.ref (fw_ad X 360)] (.inl o.1, o.2) := by
  refine fw_open rfl (Nat.le_of_ble_eq_true rfl) (fun p e s m below meth c ls C hr hlk hnm hex hl B => ?_)
  have C : fr_C X p c cX0_takeCommand 3 RX0 s m ([.ref (fw_ad X 360)] : List Value).toArray := C
  have hx := C.1.1
  have hb := C.1.2.1
  have hl : lv_has ls 3 [(0, .ref (fw_ad X 360))] := hl
  have hJ24 : ∀ (n : Nat), ∀ (x1 : Int32) (x2 : Int32) (M : fw_M) (H : Heap) (locs : List Loc) (ls : Array Slot), F_X0_takeCommand_24  n x1 x2 M = some o → fr_H X s M H locs → lv_has ls 3 [(0, .ref (fw_ad X 360)), (1, .int x1), (2, .int x2)] → W p l e ({ frames := 6, cells := 0, slots := 0, locals := 133 } : Room) s m ([.ref (fw_ad X 360)] : List Value).toArray below meth c H locs 0 0 (vx_MQ below (fw_Qi X (.inl o.1, o.2)) (fw_Qx X (.inl o.1, o.2)) ([.ref (fw_ad X 360)] : List Value).toArray s 0 0 (fw_A X)) (F0 m 24 ls []) := by
    intro n
    induction n with
    | zero =>
      intro x1 x2 M H locs ls hF B hl
      exact absurd hF (by simp [F_X0_takeCommand_24])
    | succ n ih =>
      intro x1 x2 M H locs ls hF B hl
      rw [F_X0_takeCommand_24] at hF
      refine lv_iload_n hx hb dX0_takeCommand_24 rfl (lv_at hl 2 rfl) ?_
      refine fr_dk C B dX0_takeCommand_25 ?_
      refine lv_iload_n hx hb dX0_takeCommand_28 rfl (lv_at hl 1 rfl) ?_
      obtain ⟨c1, hF⟩ := of_g hF
      refine fr_dki C B c1 dX0_takeCommand_29 ?_
      refine lv_icmp_ge (tgt := 58) hx hb dX0_takeCommand_30 (by decide) (fun c2 => ?_) (fun c2 => ?_)
      · have hF := it_t hF c2
        refine lv_iconst (v := 1) hx hb dX0_takeCommand_58 (by decide) ?_
        exact fr_iret C B hr rfl hlk (by rw [← Option.some.inj hF]) (Nat.le_of_ble_eq_true rfl) (Nat.le_of_ble_eq_true rfl) dX0_takeCommand_59
      · have hF := it_f hF c2
        refine lv_aload_n hx hb dX0_takeCommand_33 rfl (lv_at hl 0 rfl) ?_
        refine lv_bipush (v := 32) hx hb dX0_takeCommand_34 (by decide) ?_
        obtain ⟨r4, M5, hf3, hF⟩ := bp_e hF
        refine fr_cVi (As := [.int 32]) (rest := []) C B (cm_X0_take hf3) ob_0 rfl yw_X0_take wm_X0_38 rfl hl.1 rfl (Nat.le_of_ble_eq_true rfl) ⟨Nat.le_of_ble_eq_true rfl, Nat.le_of_ble_eq_true rfl⟩ ⟨Nat.le_of_ble_eq_true rfl, Nat.le_of_ble_eq_true rfl⟩ dX0_takeCommand_36 (fr_nx rfl) (fun r9 M9 H locs ho9 B => ?_)
        obtain ⟨rfl, rfl⟩ := oi_e ho9
        refine lv_if_eq (tgt := 50) hx hb dX0_takeCommand_39 (by decide) (fun c6 => ?_) (fun c6 => ?_)
        · have hF := it_t hF c6
          refine lv_iconst (v := 0) hx hb dX0_takeCommand_50 (by decide) ?_
          exact fr_iret C B hr rfl hlk (by rw [← Option.some.inj hF]) (Nat.le_of_ble_eq_true rfl) (Nat.le_of_ble_eq_true rfl) dX0_takeCommand_51
        · have hF := it_f hF c6
          refine lv_aload_n hx hb dX0_takeCommand_42 rfl (lv_at hl 0 rfl) ?_
          refine lv_iload_n hx hb dX0_takeCommand_43 rfl (lv_at hl 2 rfl) ?_
          obtain ⟨r8, M9, hf7, hF⟩ := bp_e hF
          refine fr_cVi (As := [.int x2]) (rest := []) C B (cm_X0_takeDigit hf7) ob_0 rfl yw_X0_takeDigit wm_X0_49 rfl hl.1 rfl (Nat.le_of_ble_eq_true rfl) ⟨Nat.le_of_ble_eq_true rfl, Nat.le_of_ble_eq_true rfl⟩ ⟨Nat.le_of_ble_eq_true rfl, Nat.le_of_ble_eq_true rfl⟩ dX0_takeCommand_44 (fr_nx rfl) (fun r9 M9 H locs ho9 B => ?_)
          obtain ⟨rfl, rfl⟩ := oi_e ho9
          refine lv_if_ne (tgt := 52) hx hb dX0_takeCommand_47 (by decide) (fun c10 => ?_) (fun c10 => ?_)
          · have hF := it_t hF c10
            refine lv_iinc (v := (x2 + 1)) (lv' := [(2, .int (x2 + 1)), (0, .ref (fw_ad X 360)), (1, .int x1)]) hx hb dX0_takeCommand_52 hl (k := 2) rfl rfl (by decide) rfl (fun ls hl => ?_)
            refine lv_goto (tgt := 24) hx hb dX0_takeCommand_55 (by decide) ?_
            exact ih x1 (x2 + 1) M9 _ _ _ hF B (lv_sub hl [1, 2, 0] rfl)
          · have hF := it_f hF (not_not_intro c10)
            refine lv_iconst (v := 0) hx hb dX0_takeCommand_50 (by decide) ?_
            exact fr_iret C B hr rfl hlk (by rw [← Option.some.inj hF]) (Nat.le_of_ble_eq_true rfl) (Nat.le_of_ble_eq_true rfl) dX0_takeCommand_51
  unfold F_X0_takeCommand at hF
  refine lv_aload_n hx hb dX0_takeCommand_0 rfl (lv_at hl 0 rfl) ?_
  obtain ⟨r12, M13, hf11, hF⟩ := bp_e hF
  refine fr_cVi (As := []) (rest := []) C B (cm_X0_takeWord hf11) ob_0 rfl yw_X0_takeWord wm_X0_42 rfl hl.1 rfl (Nat.le_of_ble_eq_true rfl) ⟨Nat.le_of_ble_eq_true rfl, Nat.le_of_ble_eq_true rfl⟩ ⟨Nat.le_of_ble_eq_true rfl, Nat.le_of_ble_eq_true rfl⟩ dX0_takeCommand_1 (fr_nx rfl) (fun r9 M9 H locs ho9 B => ?_)
  obtain ⟨rfl, rfl⟩ := oi_e ho9
  refine lv_istore_n (lv' := [(1, .int r12), (0, .ref (fw_ad X 360))]) hx hb dX0_takeCommand_4 rfl hl (by decide) rfl (fun ls hl => ?_)
  refine lv_iload_n hx hb dX0_takeCommand_5 rfl (lv_at hl 0 rfl) ?_
  refine lv_iconst (v := (-1)) hx hb dX0_takeCommand_6 (by decide) ?_
  refine lv_icmp_ne (tgt := 12) hx hb dX0_takeCommand_7 (by decide) (fun c14 => ?_) (fun c14 => ?_)
  · have hF := it_t hF c14
    refine lv_aload_n hx hb dX0_takeCommand_12 rfl (lv_at hl 1 rfl) ?_
    refine gf_X0_15 C B dX0_takeCommand_13 ?_
    refine lv_aload_n hx hb dX0_takeCommand_16 rfl (lv_at hl 1 rfl) ?_
    refine gf_X0_31 C B dX0_takeCommand_17 ?_
    refine lv_iload_n hx hb dX0_takeCommand_20 rfl (lv_at hl 0 rfl) ?_
    obtain ⟨c15, hF⟩ := of_g hF
    refine fr_is C B ar_0_362 c15 dX0_takeCommand_21 (fun H locs B => ?_)
    obtain ⟨M16, eM16, hF⟩ := lt_e hF
    rw [← eM16] at B
    refine lv_iconst (v := 0) hx hb dX0_takeCommand_22 (by decide) ?_
    refine lv_istore_n (lv' := [(2, .int 0), (1, .int r12), (0, .ref (fw_ad X 360))]) hx hb dX0_takeCommand_23 rfl hl (by decide) rfl (fun ls hl => ?_)
    exact hJ24 64 r12 0 M16 _ _ _ hF B (lv_sub hl [2, 1, 0] rfl)
  · have hF := it_f hF (not_not_intro c14)
    refine lv_iconst (v := 0) hx hb dX0_takeCommand_10 (by decide) ?_
    exact fr_iret C B hr rfl hlk (by rw [← Option.some.inj hF]) (Nat.le_of_ble_eq_true rfl) (Nat.le_of_ble_eq_true rfl) dX0_takeCommand_11
def F_X0_parse_10   : Nat → fw_M → Option (Int32 × fw_M)
  | 0, _ => none
  | n + 1, M =>
    if 12 ≤ (M 360 3) then
      some (0, M)
    else
      bd_p (F_X0_takeCommand M) fun r3 M4 =>
      if ¬ r3 = 0 then
        lt_x (fw_up M4 360 3 ((M4 360 3) + 1)) fun M6 =>
        if ¬ (M6 360 2) = (M6 360 0) then
          bd_p (F_X0_take M6 59) fun r9 M10 =>
          if ¬ r9 = 0 then
            F_X0_parse_10  n M10
          else
            some (0, M10)
        else
          some (1, M6)
      else
        some (0, M4)
def F_X0_parse (M : fw_M) : Option (Int32 × fw_M) :=
  lt_x (fw_up M 360 2 0) fun M12 =>
  lt_x (fw_up M12 360 3 0) fun M13 =>
  F_X0_parse_10 64 M13
set_option maxHeartbeats 4000000 in
set_option maxRecDepth 100000 in
theorem cm_X0_parse {l : Launch} {X : fw_X} {M : fw_M}  {o : Int32 × fw_M} (hF : F_X0_parse M = some o) : ct_i l X yX0_parse cX0_parse 1 (some .boolean) ({ frames := 7, cells := 0, slots := 0, locals := 155 } : Room) M [.ref (fw_ad X 360)] (.inl o.1, o.2) := by
  refine fw_open rfl (Nat.le_of_ble_eq_true rfl) (fun p e s m below meth c ls C hr hlk hnm hex hl B => ?_)
  have C : fr_C X p c cX0_parse 1 RX0 s m ([.ref (fw_ad X 360)] : List Value).toArray := C
  have hx := C.1.1
  have hb := C.1.2.1
  have hl : lv_has ls 1 [(0, .ref (fw_ad X 360))] := hl
  have hJ10 : ∀ (n : Nat), ∀ (M : fw_M) (H : Heap) (locs : List Loc) (ls : Array Slot), F_X0_parse_10  n M = some o → fr_H X s M H locs → lv_has ls 1 [(0, .ref (fw_ad X 360))] → W p l e ({ frames := 7, cells := 0, slots := 0, locals := 155 } : Room) s m ([.ref (fw_ad X 360)] : List Value).toArray below meth c H locs 0 0 (vx_MQ below (fw_Qi X (.inl o.1, o.2)) (fw_Qx X (.inl o.1, o.2)) ([.ref (fw_ad X 360)] : List Value).toArray s 0 0 (fw_A X)) (F0 m 10 ls []) := by
    intro n
    induction n with
    | zero =>
      intro M H locs ls hF B hl
      exact absurd hF (by simp [F_X0_parse_10])
    | succ n ih =>
      intro M H locs ls hF B hl
      rw [F_X0_parse_10] at hF
      refine lv_aload_n hx hb dX0_parse_10 rfl (lv_at hl 0 rfl) ?_
      refine gf_X0_31 C B dX0_parse_11 ?_
      refine lv_bipush (v := 12) hx hb dX0_parse_14 (by decide) ?_
      refine lv_icmp_ge (tgt := 62) hx hb dX0_parse_16 (by decide) (fun c1 => ?_) (fun c1 => ?_)
      · have hF := it_t hF c1
        refine lv_iconst (v := 0) hx hb dX0_parse_62 (by decide) ?_
        exact fr_iret C B hr rfl hlk (by rw [← Option.some.inj hF]) (Nat.le_of_ble_eq_true rfl) (Nat.le_of_ble_eq_true rfl) dX0_parse_63
      · have hF := it_f hF c1
        refine lv_aload_n hx hb dX0_parse_19 rfl (lv_at hl 0 rfl) ?_
        obtain ⟨r3, M4, hf2, hF⟩ := bp_e hF
        refine fr_cVi (As := []) (rest := []) C B (cm_X0_takeCommand hf2) ob_0 rfl yw_X0_takeCommand wm_X0_34 rfl hl.1 rfl (Nat.le_of_ble_eq_true rfl) ⟨Nat.le_of_ble_eq_true rfl, Nat.le_of_ble_eq_true rfl⟩ ⟨Nat.le_of_ble_eq_true rfl, Nat.le_of_ble_eq_true rfl⟩ dX0_parse_20 (fr_nx rfl) (fun r9 M9 H locs ho9 B => ?_)
        obtain ⟨rfl, rfl⟩ := oi_e ho9
        refine lv_if_ne (tgt := 28) hx hb dX0_parse_23 (by decide) (fun c5 => ?_) (fun c5 => ?_)
        · have hF := it_t hF c5
          refine lv_aload_n hx hb dX0_parse_28 rfl (lv_at hl 0 rfl) ?_
          refine lv_dup hx hb dX0_parse_29 rfl ?_
          refine gf_X0_31 C B dX0_parse_30 ?_
          refine lv_iconst (v := 1) hx hb dX0_parse_33 (by decide) ?_
          refine lv_iadd hx hb dX0_parse_34 ?_
          refine pf_X0_31 C B dX0_parse_35 (fun H locs B => ?_)
          obtain ⟨M6, eM6, hF⟩ := lt_e hF
          rw [← eM6] at B
          refine lv_aload_n hx hb dX0_parse_38 rfl (lv_at hl 0 rfl) ?_
          refine gf_X0_28 C B dX0_parse_39 ?_
          refine lv_aload_n hx hb dX0_parse_42 rfl (lv_at hl 0 rfl) ?_
          refine gf_X0_24 C B dX0_parse_43 ?_
          refine lv_icmp_ne (tgt := 51) hx hb dX0_parse_46 (by decide) (fun c7 => ?_) (fun c7 => ?_)
          · have hF := it_t hF c7
            refine lv_aload_n hx hb dX0_parse_51 rfl (lv_at hl 0 rfl) ?_
            refine lv_bipush (v := 59) hx hb dX0_parse_52 (by decide) ?_
            obtain ⟨r9, M10, hf8, hF⟩ := bp_e hF
            refine fr_cVi (As := [.int 59]) (rest := []) C B (cm_X0_take hf8) ob_0 rfl yw_X0_take wm_X0_38 rfl hl.1 rfl (Nat.le_of_ble_eq_true rfl) ⟨Nat.le_of_ble_eq_true rfl, Nat.le_of_ble_eq_true rfl⟩ ⟨Nat.le_of_ble_eq_true rfl, Nat.le_of_ble_eq_true rfl⟩ dX0_parse_54 (fr_nx rfl) (fun r9 M9 H locs ho9 B => ?_)
            obtain ⟨rfl, rfl⟩ := oi_e ho9
            refine lv_if_ne (tgt := 10) hx hb dX0_parse_57 (by decide) (fun c11 => ?_) (fun c11 => ?_)
            · have hF := it_t hF c11
              exact ih M10 _ _ _ hF B (lv_sub hl [0] rfl)
            · have hF := it_f hF (not_not_intro c11)
              refine lv_iconst (v := 0) hx hb dX0_parse_60 (by decide) ?_
              exact fr_iret C B hr rfl hlk (by rw [← Option.some.inj hF]) (Nat.le_of_ble_eq_true rfl) (Nat.le_of_ble_eq_true rfl) dX0_parse_61
          · have hF := it_f hF (not_not_intro c7)
            refine lv_iconst (v := 1) hx hb dX0_parse_49 (by decide) ?_
            exact fr_iret C B hr rfl hlk (by rw [← Option.some.inj hF]) (Nat.le_of_ble_eq_true rfl) (Nat.le_of_ble_eq_true rfl) dX0_parse_50
        · have hF := it_f hF (not_not_intro c5)
          refine lv_iconst (v := 0) hx hb dX0_parse_26 (by decide) ?_
          exact fr_iret C B hr rfl hlk (by rw [← Option.some.inj hF]) (Nat.le_of_ble_eq_true rfl) (Nat.le_of_ble_eq_true rfl) dX0_parse_27
  unfold F_X0_parse at hF
  refine lv_aload_n hx hb dX0_parse_0 rfl (lv_at hl 0 rfl) ?_
  refine lv_iconst (v := 0) hx hb dX0_parse_1 (by decide) ?_
  refine pf_X0_28 C B dX0_parse_2 (fun H locs B => ?_)
  obtain ⟨M12, eM12, hF⟩ := lt_e hF
  rw [← eM12] at B
  refine lv_aload_n hx hb dX0_parse_5 rfl (lv_at hl 0 rfl) ?_
  refine lv_iconst (v := 0) hx hb dX0_parse_6 (by decide) ?_
  refine pf_X0_31 C B dX0_parse_7 (fun H locs B => ?_)
  obtain ⟨M13, eM13, hF⟩ := lt_e hF
  rw [← eM13] at B
  exact hJ10 64 M13 _ _ _ hF B (lv_sub hl [0] rfl)
