theorem yp_J5_length_8abf5 : yw_P yJ5_length_8abf5 cJ5_length_8abf5 1 (some .int) 0 := ⟨wx_J5_length_8abf5, wp_J4, wn_J5_length_8abf5, wi_J5, wc_J5_length_8abf5, by decide +kernel, by decide +kernel⟩
theorem yp_J5_charAt_5068e : yw_P yJ5_charAt_5068e cJ5_charAt_5068e 5 (some .char) 1 := ⟨wx_J5_charAt_5068e, wp_J4, wn_J5_charAt_5068e, wi_J5, wc_J5_charAt_5068e, by decide +kernel, by decide +kernel⟩
def F_J6_stringSize_0f7a4_16 (M : fw_M) (a1 : Int32)  : Nat → Int32 → Int32 → Int32 → Int32 → Option (Int32)
  | 0, _, _, _, _ => none
  | n + 1, x0, x1, x2, x3 =>
    if 10 ≤ x3 then
      some (10 + x1)
    else
      if x0 ≤ x2 then
        F_J6_stringSize_0f7a4_16 M a1 n x0 x1 (10 * x2) (x3 + 1)
      else
        some (x3 + x1)
def F_J6_stringSize_0f7a4 (M : fw_M) (a1 : Int32) : Option (Int32) :=
  if a1 < 0 then
    F_J6_stringSize_0f7a4_16 M a1 64 a1 1 (-10) 1
  else
    F_J6_stringSize_0f7a4_16 M a1 64 (-a1) 0 (-10) 1
set_option maxHeartbeats 4000000 in
set_option maxRecDepth 100000 in
theorem cr_J6_stringSize_0f7a4 {l : Launch} {X : fw_X} {M : fw_M} {a1 : Int32}   {o : Int32} (hF : F_J6_stringSize_0f7a4 M a1 = some o) : ct_r l X yJ6_stringSize_0f7a4 cJ6_stringSize_0f7a4 4 (some .int) ({ frames := 0, cells := 0, slots := 0, locals := 0 } : Room) M [.int a1] (some (.int o)) := by
  refine fw_openR rfl (Nat.le_of_ble_eq_true rfl) (fun p e s m below meth c ls b C hr hlk hl B => ?_)
  have C : fr_C X p c cJ6_stringSize_0f7a4 4 RJ6 s m ([.int a1] : List Value).toArray := C
  have hx := C.1.1
  have hb := C.1.2.1
  have hl : lv_has ls 4 [(0, .int a1)] := hl
  have hJ16 : ∀ (n : Nat), ∀ (x0 : Int32) (x1 : Int32) (x2 : Int32) (x3 : Int32) (ls : Array Slot), F_J6_stringSize_0f7a4_16 M a1 n x0 x1 x2 x3 = some o → fr_Hb X s M b s.heap [] → lv_has ls 4 [(0, .int x0), (1, .int x1), (2, .int x2), (3, .int x3)] → W p l e ({ frames := 0, cells := 0, slots := 0, locals := 0 } : Room) s m ([.int a1] : List Value).toArray below meth c s.heap [] 0 0 (MQ below (fw_QR (some (.int o))) ([.int a1] : List Value).toArray s 0 0 (fun _ => False)) (F0 m 16 ls []) := by
    intro n
    induction n with
    | zero =>
      intro x0 x1 x2 x3 ls hF B hl
      exact absurd hF (by simp [F_J6_stringSize_0f7a4_16])
    | succ n ih =>
      intro x0 x1 x2 x3 ls hF B hl
      rw [F_J6_stringSize_0f7a4_16] at hF
      refine lv_iload_n hx hb dJ6_stringSize_0f7a4_16 rfl (lv_at hl 3 rfl) ?_
      refine lv_bipush (v := 10) hx hb dJ6_stringSize_0f7a4_17 (by decide) ?_
      refine lv_icmp_ge (tgt := 42) hx hb dJ6_stringSize_0f7a4_19 (by decide) (fun c1 => ?_) (fun c1 => ?_)
      · have hF := it_t hF c1
        refine lv_bipush (v := 10) hx hb dJ6_stringSize_0f7a4_42 (by decide) ?_
        refine lv_iload_n hx hb dJ6_stringSize_0f7a4_44 rfl (lv_at hl 1 rfl) ?_
        refine lv_iadd hx hb dJ6_stringSize_0f7a4_45 ?_
        exact jr_i C hr rfl hlk (by rw [← Option.some.inj hF]) dJ6_stringSize_0f7a4_46
      · have hF := it_f hF c1
        refine lv_iload_n hx hb dJ6_stringSize_0f7a4_22 rfl (lv_at hl 0 rfl) ?_
        refine lv_iload_n hx hb dJ6_stringSize_0f7a4_23 rfl (lv_at hl 2 rfl) ?_
        refine lv_icmp_le (tgt := 31) hx hb dJ6_stringSize_0f7a4_24 (by decide) (fun c2 => ?_) (fun c2 => ?_)
        · have hF := it_t hF c2
          refine lv_bipush (v := 10) hx hb dJ6_stringSize_0f7a4_31 (by decide) ?_
          refine lv_iload_n hx hb dJ6_stringSize_0f7a4_33 rfl (lv_at hl 2 rfl) ?_
          refine lv_imul hx hb dJ6_stringSize_0f7a4_34 ?_
          refine lv_istore_n (lv' := [(2, .int (10 * x2)), (0, .int x0), (1, .int x1), (3, .int x3)]) hx hb dJ6_stringSize_0f7a4_35 rfl hl (by decide) rfl (fun ls hl => ?_)
          refine lv_iinc (v := (x3 + 1)) (lv' := [(3, .int (x3 + 1)), (2, .int (10 * x2)), (0, .int x0), (1, .int x1)]) hx hb dJ6_stringSize_0f7a4_36 hl (k := 3) rfl rfl (by decide) rfl (fun ls hl => ?_)
          refine lv_goto (tgt := 16) hx hb dJ6_stringSize_0f7a4_39 (by decide) ?_
          exact ih x0 x1 (10 * x2) (x3 + 1) _ hF B (lv_sub hl [2, 3, 1, 0] rfl)
        · have hF := it_f hF c2
          refine lv_iload_n hx hb dJ6_stringSize_0f7a4_27 rfl (lv_at hl 3 rfl) ?_
          refine lv_iload_n hx hb dJ6_stringSize_0f7a4_28 rfl (lv_at hl 1 rfl) ?_
          refine lv_iadd hx hb dJ6_stringSize_0f7a4_29 ?_
          exact jr_i C hr rfl hlk (by rw [← Option.some.inj hF]) dJ6_stringSize_0f7a4_30
  unfold F_J6_stringSize_0f7a4 at hF
  refine lv_iconst (v := 1) hx hb dJ6_stringSize_0f7a4_0 (by decide) ?_
  refine lv_istore_n (lv' := [(1, .int 1), (0, .int a1)]) hx hb dJ6_stringSize_0f7a4_1 rfl hl (by decide) rfl (fun ls hl => ?_)
  refine lv_iload_n hx hb dJ6_stringSize_0f7a4_2 rfl (lv_at hl 1 rfl) ?_
  refine lv_if_lt (tgt := 11) hx hb dJ6_stringSize_0f7a4_3 (by decide) (fun c3 => ?_) (fun c3 => ?_)
  · have hF := it_t hF c3
    refine lv_bipush (v := (-10)) hx hb dJ6_stringSize_0f7a4_11 (by decide) ?_
    refine lv_istore_n (lv' := [(2, .int (-10)), (1, .int 1), (0, .int a1)]) hx hb dJ6_stringSize_0f7a4_13 rfl hl (by decide) rfl (fun ls hl => ?_)
    refine lv_iconst (v := 1) hx hb dJ6_stringSize_0f7a4_14 (by decide) ?_
    refine lv_istore_n (lv' := [(3, .int 1), (2, .int (-10)), (1, .int 1), (0, .int a1)]) hx hb dJ6_stringSize_0f7a4_15 rfl hl (by decide) rfl (fun ls hl => ?_)
    exact hJ16 64 a1 1 (-10) 1 _ hF B (lv_sub hl [3, 2, 1, 0] rfl)
  · have hF := it_f hF c3
    refine lv_iconst (v := 0) hx hb dJ6_stringSize_0f7a4_6 (by decide) ?_
    refine lv_istore_n (lv' := [(1, .int 0), (0, .int a1)]) hx hb dJ6_stringSize_0f7a4_7 rfl hl (by decide) rfl (fun ls hl => ?_)
    refine lv_iload_n hx hb dJ6_stringSize_0f7a4_8 rfl (lv_at hl 1 rfl) ?_
    refine lv_ineg hx hb dJ6_stringSize_0f7a4_9 ?_
    refine lv_istore_n (lv' := [(0, .int (-a1)), (1, .int 0)]) hx hb dJ6_stringSize_0f7a4_10 rfl hl (by decide) rfl (fun ls hl => ?_)
    refine lv_bipush (v := (-10)) hx hb dJ6_stringSize_0f7a4_11 (by decide) ?_
    refine lv_istore_n (lv' := [(2, .int (-10)), (0, .int (-a1)), (1, .int 0)]) hx hb dJ6_stringSize_0f7a4_13 rfl hl (by decide) rfl (fun ls hl => ?_)
    refine lv_iconst (v := 1) hx hb dJ6_stringSize_0f7a4_14 (by decide) ?_
    refine lv_istore_n (lv' := [(3, .int 1), (2, .int (-10)), (0, .int (-a1)), (1, .int 0)]) hx hb dJ6_stringSize_0f7a4_15 rfl hl (by decide) rfl (fun ls hl => ?_)
    exact hJ16 64 (-a1) 0 (-10) 1 _ hF B (lv_sub hl [2, 3, 1, 0] rfl)
def F_J1_canEncode_fc78d (M : fw_M) (a1 : Int32) : Option (Int32) :=
  if 255 < a1 then
    some 0
  else
    some 1
set_option maxHeartbeats 4000000 in
set_option maxRecDepth 100000 in
theorem cr_J1_canEncode_fc78d {l : Launch} {X : fw_X} {M : fw_M} {a1 : Int32}   {o : Int32} (hF : F_J1_canEncode_fc78d M a1 = some o) : ct_r l X yJ1_canEncode_fc78d cJ1_canEncode_fc78d 1 (some .boolean) ({ frames := 0, cells := 0, slots := 0, locals := 0 } : Room) M [.int a1] (some (.int o)) := by
  refine fw_openR rfl (Nat.le_of_ble_eq_true rfl) (fun p e s m below meth c ls b C hr hlk hl B => ?_)
  have C : fr_C X p c cJ1_canEncode_fc78d 1 RJ1 s m ([.int a1] : List Value).toArray := C
  have hx := C.1.1
  have hb := C.1.2.1
  have hl : lv_has ls 1 [(0, .int a1)] := hl
  unfold F_J1_canEncode_fc78d at hF
  refine lv_iload_n hx hb dJ1_canEncode_fc78d_0 rfl (lv_at hl 0 rfl) ?_
  refine lv_sipush (v := 255) hx hb dJ1_canEncode_fc78d_1 (by decide) ?_
  refine lv_icmp_gt (tgt := 11) hx hb dJ1_canEncode_fc78d_4 (by decide) (fun c1 => ?_) (fun c1 => ?_)
  · have hF := it_t hF c1
    refine lv_iconst (v := 0) hx hb dJ1_canEncode_fc78d_11 (by decide) ?_
    exact jr_i C hr rfl hlk (by rw [← Option.some.inj hF]) dJ1_canEncode_fc78d_12
  · have hF := it_f hF c1
    refine lv_iconst (v := 1) hx hb dJ1_canEncode_fc78d_7 (by decide) ?_
    refine lv_goto (tgt := 12) hx hb dJ1_canEncode_fc78d_8 (by decide) ?_
    exact jr_i C hr rfl hlk (by rw [← Option.some.inj hF]) dJ1_canEncode_fc78d_12
def F_J5_isLatin1_aae02 (M : fw_M) : Option (Int32) :=
  if ¬ (M 376 1) = 0 then
    some 0
  else
    some 1
set_option maxHeartbeats 4000000 in
set_option maxRecDepth 100000 in
theorem cr_J5_isLatin1_aae02 {l : Launch} {X : fw_X} {M : fw_M}   {o : Int32} (hF : F_J5_isLatin1_aae02 M = some o) : ct_r l X yJ5_isLatin1_aae02 cJ5_isLatin1_aae02 1 (some .boolean) ({ frames := 0, cells := 0, slots := 0, locals := 0 } : Room) M [.ref (fw_ad X 376)] (some (.int o)) := by
  refine fw_openR rfl (Nat.le_of_ble_eq_true rfl) (fun p e s m below meth c ls b C hr hlk hl B => ?_)
  have C : fr_C X p c cJ5_isLatin1_aae02 1 RJ5 s m ([.ref (fw_ad X 376)] : List Value).toArray := C
  have hx := C.1.1
  have hb := C.1.2.1
  have hl : lv_has ls 1 [(0, .ref (fw_ad X 376))] := hl
  unfold F_J5_isLatin1_aae02 at hF
  refine va_gets hx hb C.2.2.1.2.2.2.2.2.1 B.2.2 C.1.2.2.2.1 (C.1.2.2.2.2 _ wf_J5_18) (fun _ h => h) dJ5_isLatin1_aae02_0 ?_
  refine lv_if_eq (tgt := 17) hx hb dJ5_isLatin1_aae02_3 (by decide) (fun c1 => ?_) (fun c1 => ?_)
  · exact absurd c1 (by decide)
  · refine lv_aload_n hx hb dJ5_isLatin1_aae02_6 rfl (lv_at hl 0 rfl) ?_
    refine jb_get (j := 1) C B (by decide) in_J4 wf_J5_22 (fun _ h => h) rfl dJ5_isLatin1_aae02_7 ?_
    refine lv_if_ne (tgt := 17) hx hb dJ5_isLatin1_aae02_10 (by decide) (fun c2 => ?_) (fun c2 => ?_)
    · have hF := it_t hF c2
      refine lv_iconst (v := 0) hx hb dJ5_isLatin1_aae02_17 (by decide) ?_
      exact jr_i C hr rfl hlk (by rw [← Option.some.inj hF]) dJ5_isLatin1_aae02_18
    · have hF := it_f hF (not_not_intro c2)
      refine lv_iconst (v := 1) hx hb dJ5_isLatin1_aae02_13 (by decide) ?_
      refine lv_goto (tgt := 18) hx hb dJ5_isLatin1_aae02_14 (by decide) ?_
      exact jr_i C hr rfl hlk (by rw [← Option.some.inj hF]) dJ5_isLatin1_aae02_18
def F_J5_length_8abf5 (M : fw_M) : Option (Int32) :=
  some (M 376 3)
set_option maxHeartbeats 4000000 in
set_option maxRecDepth 100000 in
theorem cr_J5_length_8abf5 {l : Launch} {X : fw_X} {M : fw_M}   {o : Int32} (hF : F_J5_length_8abf5 M = some o) : ct_r l X yJ5_length_8abf5 cJ5_length_8abf5 1 (some .int) ({ frames := 0, cells := 0, slots := 0, locals := 0 } : Room) M [.ref (fw_ad X 376)] (some (.int o)) := by
  refine fw_openR rfl (Nat.le_of_ble_eq_true rfl) (fun p e s m below meth c ls b C hr hlk hl B => ?_)
  have C : fr_C X p c cJ5_length_8abf5 1 RJ5 s m ([.ref (fw_ad X 376)] : List Value).toArray := C
  have hx := C.1.1
  have hb := C.1.2.1
  have hl : lv_has ls 1 [(0, .ref (fw_ad X 376))] := hl
  unfold F_J5_length_8abf5 at hF
  refine lv_aload_n hx hb dJ5_length_8abf5_0 rfl (lv_at hl 0 rfl) ?_
  refine jb_get (j := 3) C B (by decide) in_J4 wf_J5_79 (fun _ h => h) rfl dJ5_length_8abf5_1 ?_
  exact jr_i C hr rfl hlk (by rw [← Option.some.inj hF]) dJ5_length_8abf5_4
def F_J4_length_8abf5 (M : fw_M) : Option (Int32) :=
  bd_x (F_J5_length_8abf5 M) fun r1 =>
  some r1
set_option maxHeartbeats 4000000 in
set_option maxRecDepth 100000 in
theorem cr_J4_length_8abf5 {l : Launch} {X : fw_X} {M : fw_M}   {o : Int32} (hF : F_J4_length_8abf5 M = some o) : ct_r l X yJ4_length_8abf5 cJ4_length_8abf5 1 (some .int) ({ frames := 1, cells := 0, slots := 0, locals := 20 } : Room) M [.ref (fw_ad X 376)] (some (.int o)) := by
  refine fw_openR rfl (Nat.le_of_ble_eq_true rfl) (fun p e s m below meth c ls b C hr hlk hl B => ?_)
  have C : fr_C X p c cJ4_length_8abf5 1 RJ4 s m ([.ref (fw_ad X 376)] : List Value).toArray := C
  have hx := C.1.1
  have hb := C.1.2.1
  have hl : lv_has ls 1 [(0, .ref (fw_ad X 376))] := hl
  unfold F_J4_length_8abf5 at hF
  refine lv_aload_n hx hb dJ4_length_8abf5_0 rfl (lv_at hl 0 rfl) ?_
  obtain ⟨r1, h2, hF⟩ := bx_e hF
  refine jr_P (As := []) (rest := []) C B (cr_J5_length_8abf5 h2) yp_J5_length_8abf5 wm_J4_343 rfl hl.1 rfl (Nat.le_of_ble_eq_true rfl) ⟨Nat.le_of_ble_eq_true rfl, Nat.le_of_ble_eq_true rfl⟩ ⟨rfl, rfl⟩ ⟨Nat.zero_le _, Nat.zero_le _⟩ dJ4_length_8abf5_1 ?_
  exact jr_i C hr rfl hlk (by rw [← Option.some.inj hF]) dJ4_length_8abf5_4
def F_J8_newLength_cabcc (M : fw_M) (a1 : Int32) (a2 : Int32) (a3 : Int32) : Option (Int32) :=
  if (a1 + (if a2 < a3 then a3 else a2)) ≤ (0 : Int32) then
    none
  else
    if 2147483639 < (a1 + (if a2 < a3 then a3 else a2)) then
      none
    else
      some (a1 + (if a2 < a3 then a3 else a2))
set_option maxHeartbeats 4000000 in
set_option maxRecDepth 100000 in
theorem cr_J8_newLength_cabcc {l : Launch} {X : fw_X} {M : fw_M} {a1 : Int32} {a2 : Int32} {a3 : Int32}   {o : Int32} (hF : F_J8_newLength_cabcc M a1 a2 a3 = some o) : ct_r l X yJ8_newLength_cabcc cJ8_newLength_cabcc 4 (some .int) ({ frames := 1, cells := 0, slots := 0, locals := 40 } : Room) M [.int a1, .int a2, .int a3] (some (.int o)) := by
  refine fw_openR rfl (Nat.le_of_ble_eq_true rfl) (fun p e s m below meth c ls b C hr hlk hl B => ?_)
  have C : fr_C X p c cJ8_newLength_cabcc 4 RJ8 s m ([.int a1, .int a2, .int a3] : List Value).toArray := C
  have hx := C.1.1
  have hb := C.1.2.1
  have hl : lv_has ls 4 [(0, .int a1), (1, .int a2), (2, .int a3)] := hl
  unfold F_J8_newLength_cabcc at hF
  refine lv_iload_n hx hb dJ8_newLength_cabcc_0 rfl (lv_at hl 0 rfl) ?_
  refine lv_iload_n hx hb dJ8_newLength_cabcc_1 rfl (lv_at hl 1 rfl) ?_
  refine lv_iload_n hx hb dJ8_newLength_cabcc_2 rfl (lv_at hl 2 rfl) ?_
  refine va_mmax hx hb (C.1.2.2.1.trans hl.1.symm) C.1.2.2.2.1 (C.1.2.2.2.2 _ wm_J8_194) (C.1.2.2.2.2 _ wt_Mmax) (C.1.2.2.2.2 _ wi_Math) (C.1.2.2.2.2 _ wc_Mmax) (Nat.le_of_ble_eq_true rfl) (Nat.le_of_ble_eq_true rfl) (Nat.le_of_ble_eq_true rfl) (Nat.le_of_ble_eq_true rfl) dJ8_newLength_cabcc_3 ?_
  refine lv_iadd hx hb dJ8_newLength_cabcc_6 ?_
  refine lv_istore_n (lv' := [(3, .int (a1 + (if a2 < a3 then a3 else a2))), (0, .int a1), (1, .int a2), (2, .int a3)]) hx hb dJ8_newLength_cabcc_7 rfl hl (by decide) rfl (fun ls hl => ?_)
  refine lv_iconst (v := 0) hx hb dJ8_newLength_cabcc_8 (by decide) ?_
  refine lv_iload_n hx hb dJ8_newLength_cabcc_9 rfl (lv_at hl 0 rfl) ?_
  refine lv_icmp_ge (tgt := 21) hx hb dJ8_newLength_cabcc_10 (by decide) (fun c1 => ?_) (fun c1 => ?_)
  · have hF := it_t hF c1
    refine lv_iload_n hx hb dJ8_newLength_cabcc_21 rfl (lv_at hl 1 rfl) ?_
    refine lv_iload_n hx hb dJ8_newLength_cabcc_22 rfl (lv_at hl 2 rfl) ?_
    cases hF
  · have hF := it_f hF c1
    refine lv_iload_n hx hb dJ8_newLength_cabcc_13 rfl (lv_at hl 0 rfl) ?_
    refine lv_ldc hx hb C.1.2.2.2.1 (C.1.2.2.2.2 _ wk_J8_200) dJ8_newLength_cabcc_14 ?_
    refine lv_icmp_gt (tgt := 21) hx hb dJ8_newLength_cabcc_16 (by decide) (fun c2 => ?_) (fun c2 => ?_)
    · have hF := it_t hF c2
      refine lv_iload_n hx hb dJ8_newLength_cabcc_21 rfl (lv_at hl 1 rfl) ?_
      refine lv_iload_n hx hb dJ8_newLength_cabcc_22 rfl (lv_at hl 2 rfl) ?_
      cases hF
    · have hF := it_f hF c2
      refine lv_iload_n hx hb dJ8_newLength_cabcc_19 rfl (lv_at hl 0 rfl) ?_
      exact jr_i C hr rfl hlk (by rw [← Option.some.inj hF]) dJ8_newLength_cabcc_20
def F_J5_newCapacity_0f7a4 (M : fw_M) (a1 : Int32) : Option (Int32) :=
  bd_x (F_J8_newLength_cabcc M (Int32.ofNat (fw_cap M)) ((a1 <<< ((M 376 1) &&& 31)) - (Int32.ofNat (fw_cap M))) ((Int32.ofNat (fw_cap M)) + (2 <<< ((M 376 1) &&& 31)))) fun r1 =>
  if ¬ r1 = 2147483647 then
    some (r1 >>> ((M 376 1) &&& 31))
  else
    none
set_option maxHeartbeats 4000000 in
set_option maxRecDepth 100000 in
theorem cr_J5_newCapacity_0f7a4 {l : Launch} {X : fw_X} {M : fw_M} {a1 : Int32}   {o : Int32} (hF : F_J5_newCapacity_0f7a4 M a1 = some o) : ct_r l X yJ5_newCapacity_0f7a4 cJ5_newCapacity_0f7a4 6 (some .int) ({ frames := 2, cells := 0, slots := 0, locals := 63 } : Room) M [.ref (fw_ad X 376), .int a1] (some (.int o)) := by
  refine fw_openR rfl (Nat.le_of_ble_eq_true rfl) (fun p e s m below meth c ls b C hr hlk hl B => ?_)
  have C : fr_C X p c cJ5_newCapacity_0f7a4 6 RJ5 s m ([.ref (fw_ad X 376), .int a1] : List Value).toArray := C
  have hx := C.1.1
  have hb := C.1.2.1
  have hl : lv_has ls 6 [(0, .ref (fw_ad X 376)), (1, .int a1)] := hl
  unfold F_J5_newCapacity_0f7a4 at hF
  refine lv_aload_n hx hb dJ5_newCapacity_0f7a4_0 rfl (lv_at hl 0 rfl) ?_
  refine jb_get (j := 0) C B (by decide) in_J4 wf_J5_15 (fun _ h => h) rfl dJ5_newCapacity_0f7a4_1 ?_
  refine jb_al C B rfl dJ5_newCapacity_0f7a4_4 ?_
  refine lv_istore_n (lv' := [(2, .int (Int32.ofNat (fw_cap M))), (0, .ref (fw_ad X 376)), (1, .int a1)]) hx hb dJ5_newCapacity_0f7a4_5 rfl hl (by decide) rfl (fun ls hl => ?_)
  refine lv_iload_n hx hb dJ5_newCapacity_0f7a4_6 rfl (lv_at hl 2 rfl) ?_
  refine lv_aload_n hx hb dJ5_newCapacity_0f7a4_7 rfl (lv_at hl 1 rfl) ?_
  refine jb_get (j := 1) C B (by decide) in_J4 wf_J5_22 (fun _ h => h) rfl dJ5_newCapacity_0f7a4_8 ?_
  refine lv_ishl hx hb dJ5_newCapacity_0f7a4_11 ?_
  refine lv_istore_n (lv' := [(3, .int (a1 <<< ((M 376 1) &&& 31))), (2, .int (Int32.ofNat (fw_cap M))), (0, .ref (fw_ad X 376)), (1, .int a1)]) hx hb dJ5_newCapacity_0f7a4_12 rfl hl (by decide) rfl (fun ls hl => ?_)
  refine lv_iload_n hx hb dJ5_newCapacity_0f7a4_13 rfl (lv_at hl 0 rfl) ?_
  refine lv_iload_n hx hb dJ5_newCapacity_0f7a4_14 rfl (lv_at hl 1 rfl) ?_
  refine lv_isub hx hb dJ5_newCapacity_0f7a4_15 ?_
  refine lv_istore (lv' := [(4, .int ((a1 <<< ((M 376 1) &&& 31)) - (Int32.ofNat (fw_cap M)))), (3, .int (a1 <<< ((M 376 1) &&& 31))), (2, .int (Int32.ofNat (fw_cap M))), (0, .ref (fw_ad X 376)), (1, .int a1)]) hx hb dJ5_newCapacity_0f7a4_16 hl (by decide) rfl (fun ls hl => ?_)
  refine lv_iload_n hx hb dJ5_newCapacity_0f7a4_18 rfl (lv_at hl 2 rfl) ?_
  refine lv_iload hx hb dJ5_newCapacity_0f7a4_19 (lv_at hl 0 rfl) ?_
  refine lv_iload_n hx hb dJ5_newCapacity_0f7a4_21 rfl (lv_at hl 2 rfl) ?_
  refine lv_iconst (v := 2) hx hb dJ5_newCapacity_0f7a4_22 (by decide) ?_
  refine lv_aload_n hx hb dJ5_newCapacity_0f7a4_23 rfl (lv_at hl 3 rfl) ?_
  refine jb_get (j := 1) C B (by decide) in_J4 wf_J5_22 (fun _ h => h) rfl dJ5_newCapacity_0f7a4_24 ?_
  refine lv_ishl hx hb dJ5_newCapacity_0f7a4_27 ?_
  refine lv_iadd hx hb dJ5_newCapacity_0f7a4_28 ?_
  obtain ⟨r1, h2, hF⟩ := bx_e hF
  refine jr_S (As := [.int (Int32.ofNat (fw_cap M)), .int ((a1 <<< ((M 376 1) &&& 31)) - (Int32.ofNat (fw_cap M))), .int ((Int32.ofNat (fw_cap M)) + (2 <<< ((M 376 1) &&& 31)))]) (rest := []) C B.h (cr_J8_newLength_cabcc h2) yw_J8_newLength_cabcc wm_J5_114 rfl hl.1 rfl (Nat.le_of_ble_eq_true rfl) ⟨Nat.le_of_ble_eq_true rfl, Nat.le_of_ble_eq_true rfl⟩ ⟨rfl, rfl⟩ ⟨Nat.zero_le _, Nat.zero_le _⟩ dJ5_newCapacity_0f7a4_29 ?_
  refine lv_istore (lv' := [(5, .int r1), (4, .int ((a1 <<< ((M 376 1) &&& 31)) - (Int32.ofNat (fw_cap M)))), (3, .int (a1 <<< ((M 376 1) &&& 31))), (2, .int (Int32.ofNat (fw_cap M))), (0, .ref (fw_ad X 376)), (1, .int a1)]) hx hb dJ5_newCapacity_0f7a4_32 hl (by decide) rfl (fun ls hl => ?_)
  refine lv_iload hx hb dJ5_newCapacity_0f7a4_34 (lv_at hl 0 rfl) ?_
  refine lv_ldc hx hb C.1.2.2.2.1 (C.1.2.2.2.2 _ wk_J5_39) dJ5_newCapacity_0f7a4_36 ?_
  refine lv_icmp_ne (tgt := 51) hx hb dJ5_newCapacity_0f7a4_38 (by decide) (fun c3 => ?_) (fun c3 => ?_)
  · have hF := it_t hF c3
    refine lv_iload hx hb dJ5_newCapacity_0f7a4_51 (lv_at hl 0 rfl) ?_
    refine lv_aload_n hx hb dJ5_newCapacity_0f7a4_53 rfl (lv_at hl 4 rfl) ?_
    refine jb_get (j := 1) C B (by decide) in_J4 wf_J5_22 (fun _ h => h) rfl dJ5_newCapacity_0f7a4_54 ?_
    refine lv_ishr hx hb dJ5_newCapacity_0f7a4_57 ?_
    exact jr_i C hr rfl hlk (by rw [← Option.some.inj hF]) dJ5_newCapacity_0f7a4_58
  · have hF := it_f hF (not_not_intro c3)
    cases hF
def F_J0_coder_7d493 (M : fw_M) (i0 : Nat) : Option (Int32) :=
  some 0
set_option maxHeartbeats 4000000 in
set_option maxRecDepth 100000 in
theorem cr_J0_coder_7d493 {l : Launch} {X : fw_X} {M : fw_M} {i0 : Nat}  (hi0 : i0 < 12) {o : Int32} (hF : F_J0_coder_7d493 M i0 = some o) : ct_r l X yJ0_coder_7d493 cJ0_coder_7d493 1 (some .byte) ({ frames := 0, cells := 0, slots := 0, locals := 0 } : Room) M [.ref (fw_sg X (10 + i0))] (some (.int o)) := by
  refine fw_openR rfl (Nat.le_of_ble_eq_true rfl) (fun p e s m below meth c ls b C hr hlk hl B => ?_)
  have C : fr_C X p c cJ0_coder_7d493 1 RJ0 s m ([.ref (fw_sg X (10 + i0))] : List Value).toArray := C
  have hx := C.1.1
  have hb := C.1.2.1
  have hl : lv_has ls 1 [(0, .ref (fw_sg X (10 + i0)))] := hl
  unfold F_J0_coder_7d493 at hF
  refine va_gets hx hb C.2.2.1.2.2.2.2.2.1 B.2.2 C.1.2.2.2.1 (C.1.2.2.2.2 _ wf_J0_38) (fun _ h => h) dJ0_coder_7d493_0 ?_
  refine lv_if_eq (tgt := 13) hx hb dJ0_coder_7d493_3 (by decide) (fun c1 => ?_) (fun c1 => ?_)
  · exact absurd c1 (by decide)
  · refine lv_aload_n hx hb dJ0_coder_7d493_6 rfl (lv_at hl 0 rfl) ?_
    refine vk_getf hx hb (C.2.2.1.2.2.2.2.1.1 _ hi0).2.1 B.2.2 C.1.2.2.2.1 (C.1.2.2.2.2 _ wf_J0_15) (fun _ h => h) dJ0_coder_7d493_7 ?_
    refine lv_goto (tgt := 14) hx hb dJ0_coder_7d493_10 (by decide) ?_
    exact jr_i C hr rfl hlk (by rw [← Option.some.inj hF]) dJ0_coder_7d493_14
def F_J0_isLatin1_aae02 (M : fw_M) (i0 : Nat) : Option (Int32) :=
  some 1
set_option maxHeartbeats 4000000 in
set_option maxRecDepth 100000 in
theorem cr_J0_isLatin1_aae02 {l : Launch} {X : fw_X} {M : fw_M} {i0 : Nat}  (hi0 : i0 < 12) {o : Int32} (hF : F_J0_isLatin1_aae02 M i0 = some o) : ct_r l X yJ0_isLatin1_aae02 cJ0_isLatin1_aae02 1 (some .boolean) ({ frames := 0, cells := 0, slots := 0, locals := 0 } : Room) M [.ref (fw_sg X (10 + i0))] (some (.int o)) := by
  refine fw_openR rfl (Nat.le_of_ble_eq_true rfl) (fun p e s m below meth c ls b C hr hlk hl B => ?_)
  have C : fr_C X p c cJ0_isLatin1_aae02 1 RJ0 s m ([.ref (fw_sg X (10 + i0))] : List Value).toArray := C
  have hx := C.1.1
  have hb := C.1.2.1
  have hl : lv_has ls 1 [(0, .ref (fw_sg X (10 + i0)))] := hl
  unfold F_J0_isLatin1_aae02 at hF
  refine va_gets hx hb C.2.2.1.2.2.2.2.2.1 B.2.2 C.1.2.2.2.1 (C.1.2.2.2.2 _ wf_J0_38) (fun _ h => h) dJ0_isLatin1_aae02_0 ?_
  refine lv_if_eq (tgt := 17) hx hb dJ0_isLatin1_aae02_3 (by decide) (fun c1 => ?_) (fun c1 => ?_)
  · exact absurd c1 (by decide)
  · refine lv_aload_n hx hb dJ0_isLatin1_aae02_6 rfl (lv_at hl 0 rfl) ?_
    refine vk_getf hx hb (C.2.2.1.2.2.2.2.1.1 _ hi0).2.1 B.2.2 C.1.2.2.2.1 (C.1.2.2.2.2 _ wf_J0_15) (fun _ h => h) dJ0_isLatin1_aae02_7 ?_
    refine lv_if_ne (tgt := 17) hx hb dJ0_isLatin1_aae02_10 (by decide) (fun c2 => ?_) (fun c2 => ?_)
    · exact absurd c2 (by decide)
    · refine lv_iconst (v := 1) hx hb dJ0_isLatin1_aae02_13 (by decide) ?_
      refine lv_goto (tgt := 18) hx hb dJ0_isLatin1_aae02_14 (by decide) ?_
      exact jr_i C hr rfl hlk (by rw [← Option.some.inj hF]) dJ0_isLatin1_aae02_18
def F_J0_length_8abf5 (M : fw_M) (i0 : Nat) : Option (Int32) :=
  bd_x (F_J0_coder_7d493 M i0) fun r1 =>
  some ((Int32.ofNat (fw_wlen.getD i0 0)) >>> (r1 &&& 31))
set_option maxHeartbeats 4000000 in
set_option maxRecDepth 100000 in
theorem cr_J0_length_8abf5 {l : Launch} {X : fw_X} {M : fw_M} {i0 : Nat}  (hi0 : i0 < 12) {o : Int32} (hF : F_J0_length_8abf5 M i0 = some o) : ct_r l X yJ0_length_8abf5 cJ0_length_8abf5 1 (some .int) ({ frames := 1, cells := 0, slots := 0, locals := 20 } : Room) M [.ref (fw_sg X (10 + i0))] (some (.int o)) := by
  refine fw_openR rfl (Nat.le_of_ble_eq_true rfl) (fun p e s m below meth c ls b C hr hlk hl B => ?_)
  have C : fr_C X p c cJ0_length_8abf5 1 RJ0 s m ([.ref (fw_sg X (10 + i0))] : List Value).toArray := C
  have hx := C.1.1
  have hb := C.1.2.1
  have hl : lv_has ls 1 [(0, .ref (fw_sg X (10 + i0)))] := hl
  unfold F_J0_length_8abf5 at hF
  refine lv_aload_n hx hb dJ0_length_8abf5_0 rfl (lv_at hl 0 rfl) ?_
  refine vk_getf hx hb (C.2.2.1.2.2.2.2.1.1 _ hi0).2.2.1 B.2.2 C.1.2.2.2.1 (C.1.2.2.2.2 _ wf_J0_9) (fun _ h => h) dJ0_length_8abf5_1 ?_
  refine va_tlen hx hb (C.2.2.1.2.2.2.2.1.1 _ hi0).2.2.2 B.2.2 rfl dJ0_length_8abf5_4 ?_
  refine lv_aload_n hx hb dJ0_length_8abf5_5 rfl (lv_at hl 0 rfl) ?_
  obtain ⟨r1, h2, hF⟩ := bx_e hF
  refine jr_V (As := []) (rest := [.int (Int32.ofNat (fw_wlen.getD i0 0))]) C B.h (cr_J0_coder_7d493 hi0 h2) (vk_recv (i := i0) C.2.2.1.2.2.2.2.1 hi0 B.2.2) yw_J0_coder_7d493 wm_J0_335 rfl hl.1 rfl (Nat.le_of_ble_eq_true rfl) ⟨Nat.le_of_ble_eq_true rfl, Nat.le_of_ble_eq_true rfl⟩ ⟨rfl, rfl⟩ ⟨Nat.zero_le _, Nat.zero_le _⟩ dJ0_length_8abf5_6 ?_
  refine lv_ishr hx hb dJ0_length_8abf5_9 ?_
  exact jr_i C hr rfl hlk (by rw [← Option.some.inj hF]) dJ0_length_8abf5_10
def F_J3_checkIndex_8e157_n (M : fw_M) (a1 : Int32) (a2 : Int32) : Option (Int32) :=
  if a1 < 0 then
    none
  else
    if a1 < a2 then
      some a1
    else
      none
set_option maxHeartbeats 4000000 in
set_option maxRecDepth 100000 in
theorem cr_J3_checkIndex_8e157_n {l : Launch} {X : fw_X} {M : fw_M} {a1 : Int32} {a2 : Int32}   {o : Int32} (hF : F_J3_checkIndex_8e157_n M a1 a2 = some o) : ct_r l X yJ3_checkIndex_8e157 cJ3_checkIndex_8e157 3 (some .int) ({ frames := 0, cells := 0, slots := 0, locals := 0 } : Room) M [.int a1, .int a2, .null] (some (.int o)) := by
  refine fw_openR rfl (Nat.le_of_ble_eq_true rfl) (fun p e s m below meth c ls b C hr hlk hl B => ?_)
  have C : fr_C X p c cJ3_checkIndex_8e157 3 RJ3 s m ([.int a1, .int a2, .null] : List Value).toArray := C
  have hx := C.1.1
  have hb := C.1.2.1
  have hl : lv_has ls 3 [(0, .int a1), (1, .int a2), (2, .null)] := hl
  unfold F_J3_checkIndex_8e157_n at hF
  refine lv_iload_n hx hb dJ3_checkIndex_8e157_0 rfl (lv_at hl 0 rfl) ?_
  refine lv_if_lt (tgt := 9) hx hb dJ3_checkIndex_8e157_1 (by decide) (fun c1 => ?_) (fun c1 => ?_)
  · have hF := it_t hF c1
    cases hF
  · have hF := it_f hF c1
    refine lv_iload_n hx hb dJ3_checkIndex_8e157_4 rfl (lv_at hl 0 rfl) ?_
    refine lv_iload_n hx hb dJ3_checkIndex_8e157_5 rfl (lv_at hl 1 rfl) ?_
    refine lv_icmp_lt (tgt := 16) hx hb dJ3_checkIndex_8e157_6 (by decide) (fun c2 => ?_) (fun c2 => ?_)
    · have hF := it_t hF c2
      refine lv_iload_n hx hb dJ3_checkIndex_8e157_16 rfl (lv_at hl 0 rfl) ?_
      exact jr_i C hr rfl hlk (by rw [← Option.some.inj hF]) dJ3_checkIndex_8e157_17
    · have hF := it_f hF c2
      cases hF
def F_J3_checkIndex_8e157_r (M : fw_M) (a1 : Int32) (a2 : Int32) : Option (Int32) :=
  if a1 < 0 then
    none
  else
    if a1 < a2 then
      some a1
    else
      none
set_option maxHeartbeats 4000000 in
set_option maxRecDepth 100000 in
theorem cr_J3_checkIndex_8e157_r {l : Launch} {X : fw_X} {M : fw_M} {a1 : Int32} {a2 : Int32} {q9 : Nat}  {o : Int32} (hF : F_J3_checkIndex_8e157_r M a1 a2 = some o) : ct_r l X yJ3_checkIndex_8e157 cJ3_checkIndex_8e157 3 (some .int) ({ frames := 0, cells := 0, slots := 0, locals := 0 } : Room) M [.int a1, .int a2, .ref q9] (some (.int o)) := by
  refine fw_openR rfl (Nat.le_of_ble_eq_true rfl) (fun p e s m below meth c ls b C hr hlk hl B => ?_)
  have C : fr_C X p c cJ3_checkIndex_8e157 3 RJ3 s m ([.int a1, .int a2, .ref q9] : List Value).toArray := C
  have hx := C.1.1
  have hb := C.1.2.1
  have hl : lv_has ls 3 [(0, .int a1), (1, .int a2), (2, .ref q9)] := hl
  unfold F_J3_checkIndex_8e157_r at hF
  refine lv_iload_n hx hb dJ3_checkIndex_8e157_0 rfl (lv_at hl 0 rfl) ?_
  refine lv_if_lt (tgt := 9) hx hb dJ3_checkIndex_8e157_1 (by decide) (fun c1 => ?_) (fun c1 => ?_)
  · have hF := it_t hF c1
    cases hF
  · have hF := it_f hF c1
    refine lv_iload_n hx hb dJ3_checkIndex_8e157_4 rfl (lv_at hl 0 rfl) ?_
    refine lv_iload_n hx hb dJ3_checkIndex_8e157_5 rfl (lv_at hl 1 rfl) ?_
    refine lv_icmp_lt (tgt := 16) hx hb dJ3_checkIndex_8e157_6 (by decide) (fun c2 => ?_) (fun c2 => ?_)
    · have hF := it_t hF c2
      refine lv_iload_n hx hb dJ3_checkIndex_8e157_16 rfl (lv_at hl 0 rfl) ?_
      exact jr_i C hr rfl hlk (by rw [← Option.some.inj hF]) dJ3_checkIndex_8e157_17
    · have hF := it_f hF c2
      cases hF
def F_J0_checkIndex_df160 (M : fw_M) (a1 : Int32) (a2 : Int32) : Option Unit := bd_x (F_J3_checkIndex_8e157_n M a1 a2) fun _ => some ()
theorem ck_nr {M : fw_M} {a1 a2 : Int32} : F_J3_checkIndex_8e157_r M a1 a2 = F_J3_checkIndex_8e157_n M a1 a2 := rfl
set_option maxHeartbeats 4000000 in
set_option maxRecDepth 100000 in
theorem cr_J0_checkIndex_df160 {l : Launch} {X : fw_X} {M : fw_M} {a1 a2 : Int32} {o : Unit} (hF : F_J0_checkIndex_df160 M a1 a2 = some o) : ct_r l X yJ0_checkIndex_df160 cJ0_checkIndex_df160 2 none ({ frames := 1, cells := 0, slots := 0, locals := 22 } : Room) M [.int a1, .int a2] none := by
  refine fw_openR rfl (Nat.le_of_ble_eq_true rfl) (fun p e s m below meth c ls b C hr hlk hl B => ?_)
  have C : fr_C X p c cJ0_checkIndex_df160 2 RJ0 s m ([.int a1, .int a2] : List Value).toArray := C
  have hx := C.1.1
  have hb := C.1.2.1
  have hl : lv_has ls 2 [(0, .int a1), (1, .int a2)] := hl
  unfold F_J0_checkIndex_df160 at hF
  obtain ⟨r, hn, hF⟩ := bx_e hF
  refine lv_iload_n hx hb dJ0_checkIndex_df160_0 rfl (lv_at hl 0 rfl) ?_
  refine lv_iload_n hx hb dJ0_checkIndex_df160_1 rfl (lv_at hl 1 rfl) ?_
  rcases C.2.2.1.2.2.2.2.2.2.2.2.2.2 with hZ | ⟨q9, hZ⟩
  · refine va_gets hx hb hZ B.2.2 C.1.2.2.2.1 (C.1.2.2.2.2 _ wf_J0_1053) (fun _ h => h) dJ0_checkIndex_df160_2 ?_
    refine jr_S (As := [.int a1, .int a2, .null]) (rest := []) C B.h (cr_J3_checkIndex_8e157_n hn) yw_J3_checkIndex_8e157 wm_J0_1059 rfl hl.1 rfl (Nat.le_of_ble_eq_true rfl) ⟨Nat.le_of_ble_eq_true rfl, Nat.le_of_ble_eq_true rfl⟩ ⟨rfl, rfl⟩ ⟨Nat.zero_le _, Nat.zero_le _⟩ dJ0_checkIndex_df160_5 ?_
    refine lv_pop hx hb dJ0_checkIndex_df160_8 rfl ?_
    exact jr_v C hr hlk dJ0_checkIndex_df160_9
  · refine va_gets hx hb hZ B.2.2 C.1.2.2.2.1 (C.1.2.2.2.2 _ wf_J0_1053) (fun _ h => h) dJ0_checkIndex_df160_2 ?_
    refine jr_S (As := [.int a1, .int a2, .ref q9]) (rest := []) C B.h (cr_J3_checkIndex_8e157_r (ck_nr.trans hn)) yw_J3_checkIndex_8e157 wm_J0_1059 rfl hl.1 rfl (Nat.le_of_ble_eq_true rfl) ⟨Nat.le_of_ble_eq_true rfl, Nat.le_of_ble_eq_true rfl⟩ ⟨rfl, rfl⟩ ⟨Nat.zero_le _, Nat.zero_le _⟩ dJ0_checkIndex_df160_5 ?_
    refine lv_pop hx hb dJ0_checkIndex_df160_8 rfl ?_
    exact jr_v C hr hlk dJ0_checkIndex_df160_9
def F_J1_charAt_3b067 (M : fw_M) (i1 : Nat) (a2 : Int32) : Option (Int32) :=
  bd_x (F_J0_checkIndex_df160 M a2 (Int32.ofNat (fw_wlen.getD i1 0))) fun _ =>
  if ix_i a2 (fw_wlen.getD i1 0) then
  if fw_nc (((((fw_wbyt.getD i1 []).getD a2.toNatClampNeg 0) &&& 255).toUInt32 % 65536).toInt32) = ((((fw_wbyt.getD i1 []).getD a2.toNatClampNeg 0) &&& 255).toUInt32 % 65536).toInt32 then
  some (((((fw_wbyt.getD i1 []).getD a2.toNatClampNeg 0) &&& 255).toUInt32 % 65536).toInt32)
  else none
  else none
set_option maxHeartbeats 4000000 in
set_option maxRecDepth 100000 in
theorem cr_J1_charAt_3b067 {l : Launch} {X : fw_X} {M : fw_M} {i1 : Nat} {a2 : Int32}  (hi1 : i1 < 12) {o : Int32} (hF : F_J1_charAt_3b067 M i1 a2 = some o) : ct_r l X yJ1_charAt_3b067 cJ1_charAt_3b067 2 (some .char) ({ frames := 2, cells := 0, slots := 0, locals := 43 } : Room) M [.ref (fw_sg X (30 + i1)), .int a2] (some (.int o)) := by
  refine fw_openR rfl (Nat.le_of_ble_eq_true rfl) (fun p e s m below meth c ls b C hr hlk hl B => ?_)
  have C : fr_C X p c cJ1_charAt_3b067 2 RJ1 s m ([.ref (fw_sg X (30 + i1)), .int a2] : List Value).toArray := C
  have hx := C.1.1
  have hb := C.1.2.1
  have hl : lv_has ls 2 [(0, .ref (fw_sg X (30 + i1))), (1, .int a2)] := hl
  unfold F_J1_charAt_3b067 at hF
  refine lv_iload_n hx hb dJ1_charAt_3b067_0 rfl (lv_at hl 1 rfl) ?_
  refine lv_aload_n hx hb dJ1_charAt_3b067_1 rfl (lv_at hl 0 rfl) ?_
  refine va_tlen hx hb (C.2.2.1.2.2.2.2.1.1 _ hi1).2.2.2 B.2.2 rfl dJ1_charAt_3b067_2 ?_
  obtain ⟨r1, h2, hF⟩ := bx_e hF
  refine jr_S (As := [.int a2, .int (Int32.ofNat (fw_wlen.getD i1 0))]) (rest := []) C B.h (cr_J0_checkIndex_df160 h2) yw_J0_checkIndex_df160 wm_J1_9 rfl hl.1 rfl (Nat.le_of_ble_eq_true rfl) ⟨Nat.le_of_ble_eq_true rfl, Nat.le_of_ble_eq_true rfl⟩ ⟨rfl, rfl⟩ ⟨Nat.zero_le _, Nat.zero_le _⟩ dJ1_charAt_3b067_3 ?_
  refine lv_aload_n hx hb dJ1_charAt_3b067_6 rfl (lv_at hl 0 rfl) ?_
  refine lv_iload_n hx hb dJ1_charAt_3b067_7 rfl (lv_at hl 1 rfl) ?_
  obtain ⟨c3, hF⟩ := of_g hF
  refine va_tb hx hb (C.2.2.1.2.2.2.2.1.1 _ hi1).2.2.2 B.2.2 c3 rfl dJ1_charAt_3b067_8 ?_
  refine lv_sipush (v := 255) hx hb dJ1_charAt_3b067_9 (by decide) ?_
  refine lv_iand hx hb dJ1_charAt_3b067_12 ?_
  refine lv_i2c hx hb dJ1_charAt_3b067_13 rfl ?_
  obtain ⟨c4, hF⟩ := of_g hF
  exact jr_i C hr (nz_c c4) hlk (by rw [← Option.some.inj hF]) dJ1_charAt_3b067_14
def F_J0_charAt_5068e (M : fw_M) (i0 : Nat) (a1 : Int32) : Option (Int32) :=
  bd_x (F_J0_isLatin1_aae02 M i0) fun r1 =>
  if r1 = 0 then
    none
  else
    bd_x (F_J1_charAt_3b067 M i0 a1) fun r4 =>
    if fw_nc r4 = r4 then
    some r4
    else none
set_option maxHeartbeats 4000000 in
set_option maxRecDepth 100000 in
theorem cr_J0_charAt_5068e {l : Launch} {X : fw_X} {M : fw_M} {i0 : Nat} {a1 : Int32}  (hi0 : i0 < 12) {o : Int32} (hF : F_J0_charAt_5068e M i0 a1 = some o) : ct_r l X yJ0_charAt_5068e cJ0_charAt_5068e 2 (some .char) ({ frames := 3, cells := 0, slots := 0, locals := 64 } : Room) M [.ref (fw_sg X (10 + i0)), .int a1] (some (.int o)) := by
  refine fw_openR rfl (Nat.le_of_ble_eq_true rfl) (fun p e s m below meth c ls b C hr hlk hl B => ?_)
  have C : fr_C X p c cJ0_charAt_5068e 2 RJ0 s m ([.ref (fw_sg X (10 + i0)), .int a1] : List Value).toArray := C
  have hx := C.1.1
  have hb := C.1.2.1
  have hl : lv_has ls 2 [(0, .ref (fw_sg X (10 + i0))), (1, .int a1)] := hl
  unfold F_J0_charAt_5068e at hF
  refine lv_aload_n hx hb dJ0_charAt_5068e_0 rfl (lv_at hl 0 rfl) ?_
  obtain ⟨r1, h2, hF⟩ := bx_e hF
  refine jr_V (As := []) (rest := []) C B.h (cr_J0_isLatin1_aae02 hi0 h2) (vk_recv (i := i0) C.2.2.1.2.2.2.2.1 hi0 B.2.2) yw_J0_isLatin1_aae02 wm_J0_492 rfl hl.1 rfl (Nat.le_of_ble_eq_true rfl) ⟨Nat.le_of_ble_eq_true rfl, Nat.le_of_ble_eq_true rfl⟩ ⟨rfl, rfl⟩ ⟨Nat.zero_le _, Nat.zero_le _⟩ dJ0_charAt_5068e_1 ?_
  refine lv_if_eq (tgt := 16) hx hb dJ0_charAt_5068e_4 (by decide) (fun c3 => ?_) (fun c3 => ?_)
  · have hF := it_t hF c3
    refine lv_aload_n hx hb dJ0_charAt_5068e_16 rfl (lv_at hl 0 rfl) ?_
    refine vk_getf hx hb (C.2.2.1.2.2.2.2.1.1 _ hi0).2.2.1 B.2.2 C.1.2.2.2.1 (C.1.2.2.2.2 _ wf_J0_9) (fun _ h => h) dJ0_charAt_5068e_17 ?_
    refine lv_iload_n hx hb dJ0_charAt_5068e_20 rfl (lv_at hl 1 rfl) ?_
    cases hF
  · have hF := it_f hF c3
    refine lv_aload_n hx hb dJ0_charAt_5068e_7 rfl (lv_at hl 0 rfl) ?_
    refine vk_getf hx hb (C.2.2.1.2.2.2.2.1.1 _ hi0).2.2.1 B.2.2 C.1.2.2.2.1 (C.1.2.2.2.2 _ wf_J0_9) (fun _ h => h) dJ0_charAt_5068e_8 ?_
    refine lv_iload_n hx hb dJ0_charAt_5068e_11 rfl (lv_at hl 1 rfl) ?_
    obtain ⟨r4, h5, hF⟩ := bx_e hF
    refine jr_S (As := [.ref (fw_sg X (30 + i0)), .int a1]) (rest := []) C B.h (cr_J1_charAt_3b067 hi0 h5) yw_J1_charAt_3b067 wm_J0_495 rfl hl.1 rfl (Nat.le_of_ble_eq_true rfl) ⟨Nat.le_of_ble_eq_true rfl, Nat.le_of_ble_eq_true rfl⟩ ⟨rfl, rfl⟩ ⟨Nat.zero_le _, Nat.zero_le _⟩ dJ0_charAt_5068e_12 ?_
    obtain ⟨c6, hF⟩ := of_g hF
    exact jr_i C hr (nz_c c6) hlk (by rw [← Option.some.inj hF]) dJ0_charAt_5068e_15
def F_J5_charAt_5068e (M : fw_M) (a1 : Int32) : Option (Int32) :=
  bd_x (F_J0_checkIndex_df160 M a1 (if ((Int32.ofNat (fw_cap M)) >>> ((M 376 1) &&& 31)) < (M 376 3) then ((Int32.ofNat (fw_cap M)) >>> ((M 376 1) &&& 31)) else (M 376 3))) fun _ =>
  if ¬ (M 376 1) = 0 then
    none
  else
    if ix_i a1 (fw_cap M) then
    if fw_nc ((((fw_ri M 377 a1) &&& 255).toUInt32 % 65536).toInt32) = (((fw_ri M 377 a1) &&& 255).toUInt32 % 65536).toInt32 then
    some ((((fw_ri M 377 a1) &&& 255).toUInt32 % 65536).toInt32)
    else none
    else none
set_option maxHeartbeats 4000000 in
set_option maxRecDepth 100000 in
theorem cr_J5_charAt_5068e {l : Launch} {X : fw_X} {M : fw_M} {a1 : Int32}   {o : Int32} (hF : F_J5_charAt_5068e M a1 = some o) : ct_r l X yJ5_charAt_5068e cJ5_charAt_5068e 5 (some .char) ({ frames := 2, cells := 0, slots := 0, locals := 43 } : Room) M [.ref (fw_ad X 376), .int a1] (some (.int o)) := by
  refine fw_openR rfl (Nat.le_of_ble_eq_true rfl) (fun p e s m below meth c ls b C hr hlk hl B => ?_)
  have C : fr_C X p c cJ5_charAt_5068e 5 RJ5 s m ([.ref (fw_ad X 376), .int a1] : List Value).toArray := C
  have hx := C.1.1
  have hb := C.1.2.1
  have hl : lv_has ls 5 [(0, .ref (fw_ad X 376)), (1, .int a1)] := hl
  unfold F_J5_charAt_5068e at hF
  refine lv_aload_n hx hb dJ5_charAt_5068e_0 rfl (lv_at hl 0 rfl) ?_
  refine jb_get (j := 1) C B (by decide) in_J4 wf_J5_22 (fun _ h => h) rfl dJ5_charAt_5068e_1 ?_
  refine lv_istore_n (lv' := [(2, .int (M 376 1)), (0, .ref (fw_ad X 376)), (1, .int a1)]) hx hb dJ5_charAt_5068e_4 rfl hl (by decide) rfl (fun ls hl => ?_)
  refine lv_aload_n hx hb dJ5_charAt_5068e_5 rfl (lv_at hl 1 rfl) ?_
  refine jb_get (j := 0) C B (by decide) in_J4 wf_J5_15 (fun _ h => h) rfl dJ5_charAt_5068e_6 ?_
  refine lv_astore_n (lv' := [(3, .ref b), (2, .int (M 376 1)), (0, .ref (fw_ad X 376)), (1, .int a1)]) hx hb dJ5_charAt_5068e_9 rfl hl (by decide) rfl (fun ls hl => ?_)
  refine lv_aload_n hx hb dJ5_charAt_5068e_10 rfl (lv_at hl 2 rfl) ?_
  refine jb_get (j := 3) C B (by decide) in_J4 wf_J5_79 (fun _ h => h) rfl dJ5_charAt_5068e_11 ?_
  refine lv_aload_n hx hb dJ5_charAt_5068e_14 rfl (lv_at hl 0 rfl) ?_
  refine jb_al C B rfl dJ5_charAt_5068e_15 ?_
  refine lv_iload_n hx hb dJ5_charAt_5068e_16 rfl (lv_at hl 1 rfl) ?_
  refine lv_ishr hx hb dJ5_charAt_5068e_17 ?_
  refine va_mmin hx hb (C.1.2.2.1.trans hl.1.symm) C.1.2.2.2.1 (C.1.2.2.2.2 _ wm_J5_138) (C.1.2.2.2.2 _ wt_Mmin) (C.1.2.2.2.2 _ wi_Math) (C.1.2.2.2.2 _ wc_Mmin) (Nat.le_of_ble_eq_true rfl) (Nat.le_of_ble_eq_true rfl) (Nat.le_of_ble_eq_true rfl) (Nat.le_of_ble_eq_true rfl) dJ5_charAt_5068e_18 ?_
  refine lv_istore (lv' := [(4, .int (if ((Int32.ofNat (fw_cap M)) >>> ((M 376 1) &&& 31)) < (M 376 3) then ((Int32.ofNat (fw_cap M)) >>> ((M 376 1) &&& 31)) else (M 376 3))), (3, .ref b), (2, .int (M 376 1)), (0, .ref (fw_ad X 376)), (1, .int a1)]) hx hb dJ5_charAt_5068e_21 hl (by decide) rfl (fun ls hl => ?_)
  refine lv_iload_n hx hb dJ5_charAt_5068e_23 rfl (lv_at hl 4 rfl) ?_
  refine lv_iload hx hb dJ5_charAt_5068e_24 (lv_at hl 0 rfl) ?_
  obtain ⟨r1, h2, hF⟩ := bx_e hF
  refine jr_S (As := [.int a1, .int (if ((Int32.ofNat (fw_cap M)) >>> ((M 376 1) &&& 31)) < (M 376 3) then ((Int32.ofNat (fw_cap M)) >>> ((M 376 1) &&& 31)) else (M 376 3))]) (rest := []) C B.h (cr_J0_checkIndex_df160 h2) yw_J0_checkIndex_df160 wm_J5_144 rfl hl.1 rfl (Nat.le_of_ble_eq_true rfl) ⟨Nat.le_of_ble_eq_true rfl, Nat.le_of_ble_eq_true rfl⟩ ⟨rfl, rfl⟩ ⟨Nat.zero_le _, Nat.zero_le _⟩ dJ5_charAt_5068e_26 ?_
  refine lv_iload_n hx hb dJ5_charAt_5068e_29 rfl (lv_at hl 2 rfl) ?_
  refine lv_if_ne (tgt := 42) hx hb dJ5_charAt_5068e_30 (by decide) (fun c3 => ?_) (fun c3 => ?_)
  · have hF := it_t hF c3
    refine lv_aload_n hx hb dJ5_charAt_5068e_42 rfl (lv_at hl 1 rfl) ?_
    refine lv_iload_n hx hb dJ5_charAt_5068e_43 rfl (lv_at hl 4 rfl) ?_
    cases hF
  · have hF := it_f hF (not_not_intro c3)
    refine lv_aload_n hx hb dJ5_charAt_5068e_33 rfl (lv_at hl 1 rfl) ?_
    refine lv_iload_n hx hb dJ5_charAt_5068e_34 rfl (lv_at hl 4 rfl) ?_
    obtain ⟨c4, hF⟩ := of_g hF
    refine jb_ba C B c4 dJ5_charAt_5068e_35 ?_
    refine lv_sipush (v := 255) hx hb dJ5_charAt_5068e_36 (by decide) ?_
    refine lv_iand hx hb dJ5_charAt_5068e_39 ?_
    refine lv_i2c hx hb dJ5_charAt_5068e_40 rfl ?_
    obtain ⟨c5, hF⟩ := of_g hF
    exact jr_i C hr (nz_c c5) hlk (by rw [← Option.some.inj hF]) dJ5_charAt_5068e_41
def F_J4_charAt_5068e (M : fw_M) (a1 : Int32) : Option (Int32) :=
  bd_x (F_J5_charAt_5068e M a1) fun r1 =>
  if fw_nc r1 = r1 then
  some r1
  else none
set_option maxHeartbeats 4000000 in
set_option maxRecDepth 100000 in
theorem cr_J4_charAt_5068e {l : Launch} {X : fw_X} {M : fw_M} {a1 : Int32}   {o : Int32} (hF : F_J4_charAt_5068e M a1 = some o) : ct_r l X yJ4_charAt_5068e cJ4_charAt_5068e 2 (some .char) ({ frames := 3, cells := 0, slots := 0, locals := 67 } : Room) M [.ref (fw_ad X 376), .int a1] (some (.int o)) := by
  refine fw_openR rfl (Nat.le_of_ble_eq_true rfl) (fun p e s m below meth c ls b C hr hlk hl B => ?_)
  have C : fr_C X p c cJ4_charAt_5068e 2 RJ4 s m ([.ref (fw_ad X 376), .int a1] : List Value).toArray := C
  have hx := C.1.1
  have hb := C.1.2.1
  have hl : lv_has ls 2 [(0, .ref (fw_ad X 376)), (1, .int a1)] := hl
  unfold F_J4_charAt_5068e at hF
  refine lv_aload_n hx hb dJ4_charAt_5068e_0 rfl (lv_at hl 0 rfl) ?_
  refine lv_iload_n hx hb dJ4_charAt_5068e_1 rfl (lv_at hl 1 rfl) ?_
  obtain ⟨r1, h2, hF⟩ := bx_e hF
  refine jr_P (As := [.int a1]) (rest := []) C B (cr_J5_charAt_5068e h2) yp_J5_charAt_5068e wm_J4_329 rfl hl.1 rfl (Nat.le_of_ble_eq_true rfl) ⟨Nat.le_of_ble_eq_true rfl, Nat.le_of_ble_eq_true rfl⟩ ⟨rfl, rfl⟩ ⟨Nat.zero_le _, Nat.zero_le _⟩ dJ4_charAt_5068e_2 ?_
  obtain ⟨c3, hF⟩ := of_g hF
  exact jr_i C hr (nz_c c3) hlk (by rw [← Option.some.inj hF]) dJ4_charAt_5068e_5
