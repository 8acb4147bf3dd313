def F_X2_copyFrom (M : fw_M) (g : Nat) (g1 : Nat) : Option (fw_M) :=
  lt_x (fw_up M g 0 (M g1 0)) fun M1 =>
  if (¬ (0 : Int32) < 0 ∧ ¬ (0 : Int32) < 0 ∧ ¬ (6 : Int32) < 0 ∧ (0 : Int32).toNatClampNeg + (6 : Int32).toNatClampNeg ≤ 6 ∧ (0 : Int32).toNatClampNeg + (6 : Int32).toNatClampNeg ≤ 6) then
  lt_x (fw_cp M1 (g1 + 1) (g + 1) (0 : Int32).toNatClampNeg (0 : Int32).toNatClampNeg (6 : Int32).toNatClampNeg) fun M3 =>
  lt_x (fw_cp M3 (g1 + 2) (g + 2) (0 : Int32).toNatClampNeg (0 : Int32).toNatClampNeg (6 : Int32).toNatClampNeg) fun M4 =>
  some M4
  else none
set_option maxHeartbeats 4000000 in
set_option maxRecDepth 100000 in
theorem cm_X2_copyFrom {l : Launch} {X : fw_X} {M : fw_M} {g : Nat} {g1 : Nat} (hg : is2 g) (h1 : is2 g1) {o : fw_M} (hF : F_X2_copyFrom M g g1 = some o) : ct_v l X yX2_copyFrom cX2_copyFrom 2 none ({ frames := 1, cells := 0, slots := 0, locals := 60 } : Room) M [.ref (fw_ad X g), .ref (fw_ad X g1)] (.inl 0, o) := by
  refine fw_open rfl (Nat.le_of_ble_eq_true rfl) (fun p e s m below meth c ls C hr hlk hnm hex hl B => ?_)
  have C : fr_C X p c cX2_copyFrom 2 RX2 s m ([.ref (fw_ad X g), .ref (fw_ad X g1)] : List Value).toArray := C
  have hx := C.1.1
  have hb := C.1.2.1
  have hl : lv_has ls 2 [(0, .ref (fw_ad X g)), (1, .ref (fw_ad X g1))] := hl
  unfold F_X2_copyFrom at hF
  refine lv_aload_n hx hb dX2_copyFrom_0 rfl (lv_at hl 0 rfl) ?_
  refine lv_aload_n hx hb dX2_copyFrom_1 rfl (lv_at hl 1 rfl) ?_
  refine gf_X2_18 C B h1 dX2_copyFrom_2 ?_
  refine pf_X2_18 C B hg dX2_copyFrom_5 (fun H locs B => ?_)
  obtain ⟨M1, eM1, hF⟩ := lt_e hF
  rw [← eM1] at B
  refine lv_aload_n hx hb dX2_copyFrom_8 rfl (lv_at hl 1 rfl) ?_
  refine gf_X2_9 C B h1 dX2_copyFrom_9 ?_
  refine lv_iconst (v := 0) hx hb dX2_copyFrom_12 (by decide) ?_
  refine lv_aload_n hx hb dX2_copyFrom_13 rfl (lv_at hl 0 rfl) ?_
  refine gf_X2_9 C B hg dX2_copyFrom_14 ?_
  refine lv_iconst (v := 0) hx hb dX2_copyFrom_17 (by decide) ?_
  refine lv_bipush (v := 6) hx hb dX2_copyFrom_18 (by decide) ?_
  obtain ⟨c2, hF⟩ := of_g hF
  refine fr_copy C B (ar_2_1 h1) (ar_2_1 hg) wm_X2_22 wn_cp wt_cp wi_sys hl.1 c2 (Nat.le_of_ble_eq_true rfl) (Nat.le_of_ble_eq_true rfl) dX2_copyFrom_20 (fun H locs B => ?_)
  obtain ⟨M3, eM3, hF⟩ := lt_e hF
  rw [← eM3] at B
  refine lv_aload_n hx hb dX2_copyFrom_23 rfl (lv_at hl 1 rfl) ?_
  refine gf_X2_15 C B h1 dX2_copyFrom_24 ?_
  refine lv_iconst (v := 0) hx hb dX2_copyFrom_27 (by decide) ?_
  refine lv_aload_n hx hb dX2_copyFrom_28 rfl (lv_at hl 0 rfl) ?_
  refine gf_X2_15 C B hg dX2_copyFrom_29 ?_
  refine lv_iconst (v := 0) hx hb dX2_copyFrom_32 (by decide) ?_
  refine lv_bipush (v := 6) hx hb dX2_copyFrom_33 (by decide) ?_
  refine fr_copy C B (ar_2_2 h1) (ar_2_2 hg) wm_X2_22 wn_cp wt_cp wi_sys hl.1 c2 (Nat.le_of_ble_eq_true rfl) (Nat.le_of_ble_eq_true rfl) dX2_copyFrom_35 (fun H locs B => ?_)
  obtain ⟨M4, eM4, hF⟩ := lt_e hF
  rw [← eM4] at B
  exact fr_vret C B hr hlk (by rw [← Option.some.inj hF]) (Nat.le_of_ble_eq_true rfl) (Nat.le_of_ble_eq_true rfl) dX2_copyFrom_38
def F_X2_hasSecret (M : fw_M) (g : Nat) (a1 : Int32) : Option (Int32) :=
  if a1 < 0 then
    some 0
  else
    if (M g 0) ≤ a1 then
      some 0
    else
      some 1
set_option maxHeartbeats 4000000 in
set_option maxRecDepth 100000 in
theorem cm_X2_hasSecret {l : Launch} {X : fw_X} {M : fw_M} {g : Nat} {a1 : Int32} (hg : is2 g) {o : Int32} (hF : F_X2_hasSecret M g a1 = some o) : ct_i l X yX2_hasSecret cX2_hasSecret 2 (some .boolean) ({ frames := 0, cells := 0, slots := 0, locals := 0 } : Room) M [.ref (fw_ad X g), .int a1] (.inl o, M) := by
  refine fw_open rfl (Nat.le_of_ble_eq_true rfl) (fun p e s m below meth c ls C hr hlk hnm hex hl B => ?_)
  have C : fr_C X p c cX2_hasSecret 2 RX2 s m ([.ref (fw_ad X g), .int a1] : List Value).toArray := C
  have hx := C.1.1
  have hb := C.1.2.1
  have hl : lv_has ls 2 [(0, .ref (fw_ad X g)), (1, .int a1)] := hl
  unfold F_X2_hasSecret at hF
  refine lv_iload_n hx hb dX2_hasSecret_0 rfl (lv_at hl 1 rfl) ?_
  refine lv_if_lt (tgt := 16) hx hb dX2_hasSecret_1 (by decide) (fun c1 => ?_) (fun c1 => ?_)
  · have hF := it_t hF c1
    refine lv_iconst (v := 0) hx hb dX2_hasSecret_16 (by decide) ?_
    exact fr_iret C B hr rfl hlk (by rw [← Option.some.inj hF]) (Nat.le_of_ble_eq_true rfl) (Nat.le_of_ble_eq_true rfl) dX2_hasSecret_17
  · have hF := it_f hF c1
    refine lv_iload_n hx hb dX2_hasSecret_4 rfl (lv_at hl 1 rfl) ?_
    refine lv_aload_n hx hb dX2_hasSecret_5 rfl (lv_at hl 0 rfl) ?_
    refine gf_X2_18 C B hg dX2_hasSecret_6 ?_
    refine lv_icmp_ge (tgt := 16) hx hb dX2_hasSecret_9 (by decide) (fun c2 => ?_) (fun c2 => ?_)
    · have hF := it_t hF c2
      refine lv_iconst (v := 0) hx hb dX2_hasSecret_16 (by decide) ?_
      exact fr_iret C B hr rfl hlk (by rw [← Option.some.inj hF]) (Nat.le_of_ble_eq_true rfl) (Nat.le_of_ble_eq_true rfl) dX2_hasSecret_17
    · have hF := it_f hF c2
      refine lv_iconst (v := 1) hx hb dX2_hasSecret_12 (by decide) ?_
      refine lv_goto (tgt := 17) hx hb dX2_hasSecret_13 (by decide) ?_
      exact fr_iret C B hr rfl hlk (by rw [← Option.some.inj hF]) (Nat.le_of_ble_eq_true rfl) (Nat.le_of_ble_eq_true rfl) dX2_hasSecret_17
def F_X2_isOut (M : fw_M) (g : Nat) (a1 : Int32) : Option (Int32) :=
  if ix_i a1 6 then
  if ¬ (fw_ri M (g + 1) a1) = (-1) then
    some 0
  else
    some 1
  else none
set_option maxHeartbeats 4000000 in
set_option maxRecDepth 100000 in
theorem cm_X2_isOut {l : Launch} {X : fw_X} {M : fw_M} {g : Nat} {a1 : Int32} (hg : is2 g) {o : Int32} (hF : F_X2_isOut M g a1 = some o) : ct_i l X yX2_isOut cX2_isOut 2 (some .boolean) ({ frames := 0, cells := 0, slots := 0, locals := 0 } : Room) M [.ref (fw_ad X g), .int a1] (.inl o, M) := by
  refine fw_open rfl (Nat.le_of_ble_eq_true rfl) (fun p e s m below meth c ls C hr hlk hnm hex hl B => ?_)
  have C : fr_C X p c cX2_isOut 2 RX2 s m ([.ref (fw_ad X g), .int a1] : List Value).toArray := C
  have hx := C.1.1
  have hb := C.1.2.1
  have hl : lv_has ls 2 [(0, .ref (fw_ad X g)), (1, .int a1)] := hl
  unfold F_X2_isOut at hF
  refine lv_aload_n hx hb dX2_isOut_0 rfl (lv_at hl 0 rfl) ?_
  refine gf_X2_9 C B hg dX2_isOut_1 ?_
  refine lv_iload_n hx hb dX2_isOut_4 rfl (lv_at hl 1 rfl) ?_
  obtain ⟨c1, hF⟩ := of_g hF
  refine fr_ia C B (ar_2_1 hg) c1 dX2_isOut_5 ?_
  refine lv_iconst (v := (-1)) hx hb dX2_isOut_6 (by decide) ?_
  refine lv_icmp_ne (tgt := 14) hx hb dX2_isOut_7 (by decide) (fun c2 => ?_) (fun c2 => ?_)
  · have hF := it_t hF c2
    refine lv_iconst (v := 0) hx hb dX2_isOut_14 (by decide) ?_
    exact fr_iret C B hr rfl hlk (by rw [← Option.some.inj hF]) (Nat.le_of_ble_eq_true rfl) (Nat.le_of_ble_eq_true rfl) dX2_isOut_15
  · have hF := it_f hF (not_not_intro c2)
    refine lv_iconst (v := 1) hx hb dX2_isOut_10 (by decide) ?_
    refine lv_goto (tgt := 15) hx hb dX2_isOut_11 (by decide) ?_
    exact fr_iret C B hr rfl hlk (by rw [← Option.some.inj hF]) (Nat.le_of_ble_eq_true rfl) (Nat.le_of_ble_eq_true rfl) dX2_isOut_15
def F_X2_hasHeard (M : fw_M) (g : Nat) (a1 : Int32) (a2 : Int32) : Option (Int32) :=
  if ix_i a2 6 then
  if ((fw_ri M (g + 2) a2) &&& (1 <<< (a1 &&& 31))) = 0 then
    some 0
  else
    some 1
  else none
set_option maxHeartbeats 4000000 in
set_option maxRecDepth 100000 in
theorem cm_X2_hasHeard {l : Launch} {X : fw_X} {M : fw_M} {g : Nat} {a1 : Int32} {a2 : Int32} (hg : is2 g) {o : Int32} (hF : F_X2_hasHeard M g a1 a2 = some o) : ct_i l X yX2_hasHeard cX2_hasHeard 3 (some .boolean) ({ frames := 0, cells := 0, slots := 0, locals := 0 } : Room) M [.ref (fw_ad X g), .int a1, .int a2] (.inl o, M) := by
  refine fw_open rfl (Nat.le_of_ble_eq_true rfl) (fun p e s m below meth c ls C hr hlk hnm hex hl B => ?_)
  have C : fr_C X p c cX2_hasHeard 3 RX2 s m ([.ref (fw_ad X g), .int a1, .int a2] : List Value).toArray := C
  have hx := C.1.1
  have hb := C.1.2.1
  have hl : lv_has ls 3 [(0, .ref (fw_ad X g)), (1, .int a1), (2, .int a2)] := hl
  unfold F_X2_hasHeard at hF
  refine lv_aload_n hx hb dX2_hasHeard_0 rfl (lv_at hl 0 rfl) ?_
  refine gf_X2_15 C B hg dX2_hasHeard_1 ?_
  refine lv_iload_n hx hb dX2_hasHeard_4 rfl (lv_at hl 2 rfl) ?_
  obtain ⟨c1, hF⟩ := of_g hF
  refine fr_ia C B (ar_2_2 hg) c1 dX2_hasHeard_5 ?_
  refine lv_iconst (v := 1) hx hb dX2_hasHeard_6 (by decide) ?_
  refine lv_iload_n hx hb dX2_hasHeard_7 rfl (lv_at hl 1 rfl) ?_
  refine lv_ishl hx hb dX2_hasHeard_8 ?_
  refine lv_iand hx hb dX2_hasHeard_9 ?_
  refine lv_if_eq (tgt := 17) hx hb dX2_hasHeard_10 (by decide) (fun c2 => ?_) (fun c2 => ?_)
  · have hF := it_t hF c2
    refine lv_iconst (v := 0) hx hb dX2_hasHeard_17 (by decide) ?_
    exact fr_iret C B hr rfl hlk (by rw [← Option.some.inj hF]) (Nat.le_of_ble_eq_true rfl) (Nat.le_of_ble_eq_true rfl) dX2_hasHeard_18
  · have hF := it_f hF c2
    refine lv_iconst (v := 1) hx hb dX2_hasHeard_13 (by decide) ?_
    refine lv_goto (tgt := 18) hx hb dX2_hasHeard_14 (by decide) ?_
    exact fr_iret C B hr rfl hlk (by rw [← Option.some.inj hF]) (Nat.le_of_ble_eq_true rfl) (Nat.le_of_ble_eq_true rfl) dX2_hasHeard_18
def F_X2_countKnowers (M : fw_M) (g : Nat) (a1 : Int32) : Option (Int32) :=
  if ix_i a1 6 then
  bd_x (F_J6_bitCount_0f7a4 M (fw_ri M (g + 2) a1)) fun r3 =>
  some r3
  else none
set_option maxHeartbeats 4000000 in
set_option maxRecDepth 100000 in
theorem cm_X2_countKnowers {l : Launch} {X : fw_X} {M : fw_M} {g : Nat} {a1 : Int32} (hg : is2 g) {o : Int32} (hF : F_X2_countKnowers M g a1 = some o) : ct_i l X yX2_countKnowers cX2_countKnowers 2 (some .int) ({ frames := 1, cells := 0, slots := 0, locals := 20 } : Room) M [.ref (fw_ad X g), .int a1] (.inl o, M) := by
  refine fw_open rfl (Nat.le_of_ble_eq_true rfl) (fun p e s m below meth c ls C hr hlk hnm hex hl B => ?_)
  have C : fr_C X p c cX2_countKnowers 2 RX2 s m ([.ref (fw_ad X g), .int a1] : List Value).toArray := C
  have hx := C.1.1
  have hb := C.1.2.1
  have hl : lv_has ls 2 [(0, .ref (fw_ad X g)), (1, .int a1)] := hl
  unfold F_X2_countKnowers at hF
  refine lv_aload_n hx hb dX2_countKnowers_0 rfl (lv_at hl 0 rfl) ?_
  refine gf_X2_15 C B hg dX2_countKnowers_1 ?_
  refine lv_iload_n hx hb dX2_countKnowers_4 rfl (lv_at hl 1 rfl) ?_
  obtain ⟨c1, hF⟩ := of_g hF
  refine fr_ia C B (ar_2_2 hg) c1 dX2_countKnowers_5 ?_
  obtain ⟨r3, hf2, hF⟩ := bx_e hF
  refine fr_cSi (As := [.int (fw_ri M (g + 2) a1)]) (rest := []) C B (cm_J6_bitCount_0f7a4 hf2) yw_J6_bitCount_0f7a4 wm_X2_28 rfl hl.1 rfl (Nat.le_of_ble_eq_true rfl) ⟨Nat.le_of_ble_eq_true rfl, Nat.le_of_ble_eq_true rfl⟩ ⟨Nat.le_of_ble_eq_true rfl, Nat.le_of_ble_eq_true rfl⟩ dX2_countKnowers_6 (fr_nx rfl) (fun r9 M9 H locs ho9 B => ?_)
  obtain ⟨rfl, rfl⟩ := oi_e ho9
  exact fr_iret C B hr rfl hlk (by rw [← Option.some.inj hF]) (Nat.le_of_ble_eq_true rfl) (Nat.le_of_ble_eq_true rfl) dX2_countKnowers_9
def F_X2_countKnownBy_4 (M : fw_M) (g : Nat) (a1 : Int32)  : Nat → Int32 → Int32 → Option (Int32)
  | 0, _, _ => none
  | n + 1, x2, x3 =>
    if (M g 0) ≤ x3 then
      some x2
    else
      bd_x (F_X2_hasHeard M g a1 x3) fun r3 =>
      if r3 = 0 then
        F_X2_countKnownBy_4 M g a1 n x2 (x3 + 1)
      else
        F_X2_countKnownBy_4 M g a1 n (x2 + 1) (x3 + 1)
def F_X2_countKnownBy (M : fw_M) (g : Nat) (a1 : Int32) : Option (Int32) :=
  F_X2_countKnownBy_4 M g a1 64 0 0
set_option maxHeartbeats 4000000 in
set_option maxRecDepth 100000 in
theorem cm_X2_countKnownBy {l : Launch} {X : fw_X} {M : fw_M} {g : Nat} {a1 : Int32} (hg : is2 g) {o : Int32} (hF : F_X2_countKnownBy M g a1 = some o) : ct_i l X yX2_countKnownBy cX2_countKnownBy 4 (some .int) ({ frames := 1, cells := 0, slots := 0, locals := 22 } : Room) M [.ref (fw_ad X g), .int a1] (.inl o, M) := by
  refine fw_open rfl (Nat.le_of_ble_eq_true rfl) (fun p e s m below meth c ls C hr hlk hnm hex hl B => ?_)
  have C : fr_C X p c cX2_countKnownBy 4 RX2 s m ([.ref (fw_ad X g), .int a1] : List Value).toArray := C
  have hx := C.1.1
  have hb := C.1.2.1
  have hl : lv_has ls 4 [(0, .ref (fw_ad X g)), (1, .int a1)] := hl
  have hJ4 : ∀ (n : Nat), ∀ (x2 : Int32) (x3 : Int32) (H : Heap) (locs : List Loc) (ls : Array Slot), F_X2_countKnownBy_4 M g a1 n x2 x3 = some o → fr_H X s M H locs → lv_has ls 4 [(0, .ref (fw_ad X g)), (1, .int a1), (2, .int x2), (3, .int x3)] → W p l e ({ frames := 1, cells := 0, slots := 0, locals := 22 } : Room) s m ([.ref (fw_ad X g), .int a1] : List Value).toArray below meth c H locs 0 0 (vx_MQ below (fw_Qi X (.inl o, M)) (fw_Qx X (.inl o, M)) ([.ref (fw_ad X g), .int a1] : List Value).toArray s 0 0 (fw_A X)) (F0 m 4 ls []) := by
    intro n
    induction n with
    | zero =>
      intro x2 x3 H locs ls hF B hl
      exact absurd hF (by simp [F_X2_countKnownBy_4])
    | succ n ih =>
      intro x2 x3 H locs ls hF B hl
      rw [F_X2_countKnownBy_4] at hF
      refine lv_iload_n hx hb dX2_countKnownBy_4 rfl (lv_at hl 3 rfl) ?_
      refine lv_aload_n hx hb dX2_countKnownBy_5 rfl (lv_at hl 0 rfl) ?_
      refine gf_X2_18 C B hg dX2_countKnownBy_6 ?_
      refine lv_icmp_ge (tgt := 30) hx hb dX2_countKnownBy_9 (by decide) (fun c1 => ?_) (fun c1 => ?_)
      · have hF := it_t hF c1
        refine lv_iload_n hx hb dX2_countKnownBy_30 rfl (lv_at hl 2 rfl) ?_
        exact fr_iret C B hr rfl hlk (by rw [← Option.some.inj hF]) (Nat.le_of_ble_eq_true rfl) (Nat.le_of_ble_eq_true rfl) dX2_countKnownBy_31
      · have hF := it_f hF c1
        refine lv_aload_n hx hb dX2_countKnownBy_12 rfl (lv_at hl 0 rfl) ?_
        refine lv_iload_n hx hb dX2_countKnownBy_13 rfl (lv_at hl 1 rfl) ?_
        refine lv_iload_n hx hb dX2_countKnownBy_14 rfl (lv_at hl 3 rfl) ?_
        obtain ⟨r3, hf2, hF⟩ := bx_e hF
        refine fr_cVi (As := [.int a1, .int x3]) (rest := []) C B (cm_X2_hasHeard hg hf2) (ob_2 hg) rfl yw_X2_hasHeard wm_X2_34 rfl hl.1 rfl (Nat.le_of_ble_eq_true rfl) ⟨Nat.le_of_ble_eq_true rfl, Nat.le_of_ble_eq_true rfl⟩ ⟨Nat.le_of_ble_eq_true rfl, Nat.le_of_ble_eq_true rfl⟩ dX2_countKnownBy_15 (fr_nx rfl) (fun r9 M9 H locs ho9 B => ?_)
        obtain ⟨rfl, rfl⟩ := oi_e ho9
        refine lv_if_eq (tgt := 24) hx hb dX2_countKnownBy_18 (by decide) (fun c5 => ?_) (fun c5 => ?_)
        · have hF := it_t hF c5
          refine lv_iinc (v := (x3 + 1)) (lv' := [(3, .int (x3 + 1)), (0, .ref (fw_ad X g)), (1, .int a1), (2, .int x2)]) hx hb dX2_countKnownBy_24 hl (k := 3) rfl rfl (by decide) rfl (fun ls hl => ?_)
          refine lv_goto (tgt := 4) hx hb dX2_countKnownBy_27 (by decide) ?_
          exact ih x2 (x3 + 1) _ _ _ hF B (lv_sub hl [1, 2, 3, 0] rfl)
        · have hF := it_f hF c5
          refine lv_iinc (v := (x2 + 1)) (lv' := [(2, .int (x2 + 1)), (0, .ref (fw_ad X g)), (1, .int a1), (3, .int x3)]) hx hb dX2_countKnownBy_21 hl (k := 2) rfl rfl (by decide) rfl (fun ls hl => ?_)
          refine lv_iinc (v := (x3 + 1)) (lv' := [(3, .int (x3 + 1)), (2, .int (x2 + 1)), (0, .ref (fw_ad X g)), (1, .int a1)]) hx hb dX2_countKnownBy_24 hl (k := 3) rfl rfl (by decide) rfl (fun ls hl => ?_)
          refine lv_goto (tgt := 4) hx hb dX2_countKnownBy_27 (by decide) ?_
          exact ih (x2 + 1) (x3 + 1) _ _ _ hF B (lv_sub hl [2, 3, 1, 0] rfl)
  unfold F_X2_countKnownBy at hF
  refine lv_iconst (v := 0) hx hb dX2_countKnownBy_0 (by decide) ?_
  refine lv_istore_n (lv' := [(2, .int 0), (0, .ref (fw_ad X g)), (1, .int a1)]) hx hb dX2_countKnownBy_1 rfl hl (by decide) rfl (fun ls hl => ?_)
  refine lv_iconst (v := 0) hx hb dX2_countKnownBy_2 (by decide) ?_
  refine lv_istore_n (lv' := [(3, .int 0), (2, .int 0), (0, .ref (fw_ad X g)), (1, .int a1)]) hx hb dX2_countKnownBy_3 rfl hl (by decide) rfl (fun ls hl => ?_)
  exact hJ4 64 0 0 _ _ _ hF B (lv_sub hl [2, 3, 1, 0] rfl)
def F_X2_carriersKnow_2 (M : fw_M) (g : Nat)  : Nat → Int32 → Option (Int32)
  | 0, _ => none
  | n + 1, x1 =>
    if (M g 0) ≤ x1 then
      some 1
    else
      bd_x (F_X2_isOut M g x1) fun r3 =>
      if ¬ r3 = 0 then
        F_X2_carriersKnow_2 M g n (x1 + 1)
      else
        if ix_i x1 6 then
        bd_x (F_X2_hasHeard M g (fw_ri M (g + 1) x1) x1) fun r8 =>
        if ¬ r8 = 0 then
          F_X2_carriersKnow_2 M g n (x1 + 1)
        else
          some 0
        else none
def F_X2_carriersKnow (M : fw_M) (g : Nat) : Option (Int32) :=
  F_X2_carriersKnow_2 M g 64 0
set_option maxHeartbeats 4000000 in
set_option maxRecDepth 100000 in
theorem cm_X2_carriersKnow {l : Launch} {X : fw_X} {M : fw_M} {g : Nat} (hg : is2 g) {o : Int32} (hF : F_X2_carriersKnow M g = some o) : ct_i l X yX2_carriersKnow cX2_carriersKnow 2 (some .boolean) ({ frames := 1, cells := 0, slots := 0, locals := 22 } : Room) M [.ref (fw_ad X g)] (.inl o, M) := by
  refine fw_open rfl (Nat.le_of_ble_eq_true rfl) (fun p e s m below meth c ls C hr hlk hnm hex hl B => ?_)
  have C : fr_C X p c cX2_carriersKnow 2 RX2 s m ([.ref (fw_ad X g)] : List Value).toArray := C
  have hx := C.1.1
  have hb := C.1.2.1
  have hl : lv_has ls 2 [(0, .ref (fw_ad X g))] := hl
  have hJ2 : ∀ (n : Nat), ∀ (x1 : Int32) (H : Heap) (locs : List Loc) (ls : Array Slot), F_X2_carriersKnow_2 M g n x1 = some o → fr_H X s M H locs → lv_has ls 2 [(0, .ref (fw_ad X g)), (1, .int x1)] → W p l e ({ frames := 1, cells := 0, slots := 0, locals := 22 } : Room) s m ([.ref (fw_ad X g)] : List Value).toArray below meth c H locs 0 0 (vx_MQ below (fw_Qi X (.inl o, M)) (fw_Qx X (.inl o, M)) ([.ref (fw_ad X g)] : List Value).toArray s 0 0 (fw_A X)) (F0 m 2 ls []) := by
    intro n
    induction n with
    | zero =>
      intro x1 H locs ls hF B hl
      exact absurd hF (by simp [F_X2_carriersKnow_2])
    | succ n ih =>
      intro x1 H locs ls hF B hl
      rw [F_X2_carriersKnow_2] at hF
      refine lv_iload_n hx hb dX2_carriersKnow_2 rfl (lv_at hl 1 rfl) ?_
      refine lv_aload_n hx hb dX2_carriersKnow_3 rfl (lv_at hl 0 rfl) ?_
      refine gf_X2_18 C B hg dX2_carriersKnow_4 ?_
      refine lv_icmp_ge (tgt := 40) hx hb dX2_carriersKnow_7 (by decide) (fun c1 => ?_) (fun c1 => ?_)
      · have hF := it_t hF c1
        refine lv_iconst (v := 1) hx hb dX2_carriersKnow_40 (by decide) ?_
        exact fr_iret C B hr rfl hlk (by rw [← Option.some.inj hF]) (Nat.le_of_ble_eq_true rfl) (Nat.le_of_ble_eq_true rfl) dX2_carriersKnow_41
      · have hF := it_f hF c1
        refine lv_aload_n hx hb dX2_carriersKnow_10 rfl (lv_at hl 0 rfl) ?_
        refine lv_iload_n hx hb dX2_carriersKnow_11 rfl (lv_at hl 1 rfl) ?_
        obtain ⟨r3, hf2, hF⟩ := bx_e hF
        refine fr_cVi (As := [.int x1]) (rest := []) C B (cm_X2_isOut hg hf2) (ob_2 hg) rfl yw_X2_isOut wm_X2_38 rfl hl.1 rfl (Nat.le_of_ble_eq_true rfl) ⟨Nat.le_of_ble_eq_true rfl, Nat.le_of_ble_eq_true rfl⟩ ⟨Nat.le_of_ble_eq_true rfl, Nat.le_of_ble_eq_true rfl⟩ dX2_carriersKnow_12 (fr_nx rfl) (fun r9 M9 H locs ho9 B => ?_)
        obtain ⟨rfl, rfl⟩ := oi_e ho9
        refine lv_if_ne (tgt := 34) hx hb dX2_carriersKnow_15 (by decide) (fun c5 => ?_) (fun c5 => ?_)
        · have hF := it_t hF c5
          refine lv_iinc (v := (x1 + 1)) (lv' := [(1, .int (x1 + 1)), (0, .ref (fw_ad X g))]) hx hb dX2_carriersKnow_34 hl (k := 1) rfl rfl (by decide) rfl (fun ls hl => ?_)
          refine lv_goto (tgt := 2) hx hb dX2_carriersKnow_37 (by decide) ?_
          exact ih (x1 + 1) _ _ _ hF B (lv_sub hl [1, 0] rfl)
        · have hF := it_f hF (not_not_intro c5)
          refine lv_aload_n hx hb dX2_carriersKnow_18 rfl (lv_at hl 0 rfl) ?_
          refine lv_aload_n hx hb dX2_carriersKnow_19 rfl (lv_at hl 0 rfl) ?_
          refine gf_X2_9 C B hg dX2_carriersKnow_20 ?_
          refine lv_iload_n hx hb dX2_carriersKnow_23 rfl (lv_at hl 1 rfl) ?_
          obtain ⟨c6, hF⟩ := of_g hF
          refine fr_ia C B (ar_2_1 hg) c6 dX2_carriersKnow_24 ?_
          refine lv_iload_n hx hb dX2_carriersKnow_25 rfl (lv_at hl 1 rfl) ?_
          obtain ⟨r8, hf7, hF⟩ := bx_e hF
          refine fr_cVi (As := [.int (fw_ri M (g + 1) x1), .int x1]) (rest := []) C B (cm_X2_hasHeard hg hf7) (ob_2 hg) rfl yw_X2_hasHeard wm_X2_34 rfl hl.1 rfl (Nat.le_of_ble_eq_true rfl) ⟨Nat.le_of_ble_eq_true rfl, Nat.le_of_ble_eq_true rfl⟩ ⟨Nat.le_of_ble_eq_true rfl, Nat.le_of_ble_eq_true rfl⟩ dX2_carriersKnow_26 (fr_nx rfl) (fun r9 M9 H locs ho9 B => ?_)
          obtain ⟨rfl, rfl⟩ := oi_e ho9
          refine lv_if_ne (tgt := 34) hx hb dX2_carriersKnow_29 (by decide) (fun c10 => ?_) (fun c10 => ?_)
          · have hF := it_t hF c10
            refine lv_iinc (v := (x1 + 1)) (lv' := [(1, .int (x1 + 1)), (0, .ref (fw_ad X g))]) hx hb dX2_carriersKnow_34 hl (k := 1) rfl rfl (by decide) rfl (fun ls hl => ?_)
            refine lv_goto (tgt := 2) hx hb dX2_carriersKnow_37 (by decide) ?_
            exact ih (x1 + 1) _ _ _ hF B (lv_sub hl [1, 0] rfl)
          · have hF := it_f hF (not_not_intro c10)
            refine lv_iconst (v := 0) hx hb dX2_carriersKnow_32 (by decide) ?_
            exact fr_iret C B hr rfl hlk (by rw [← Option.some.inj hF]) (Nat.le_of_ble_eq_true rfl) (Nat.le_of_ble_eq_true rfl) dX2_carriersKnow_33
  unfold F_X2_carriersKnow at hF
  refine lv_iconst (v := 0) hx hb dX2_carriersKnow_0 (by decide) ?_
  refine lv_istore_n (lv' := [(1, .int 0), (0, .ref (fw_ad X g))]) hx hb dX2_carriersKnow_1 rfl hl (by decide) rfl (fun ls hl => ?_)
  exact hJ2 64 0 _ _ _ hF B (lv_sub hl [1, 0] rfl)
def F_X2_putSecret (M : fw_M) (g : Nat) (a1 : Int32) : Option (Int32 × fw_M) :=
  if ix_i (M g 0) 6 then
  lt_x (fw_wi M (g + 1) (M g 0) a1) fun M2 =>
  if ix_i (M2 g 0) 6 then
  lt_x (fw_wi M2 (g + 2) (M2 g 0) (1 <<< (a1 &&& 31))) fun M4 =>
  lt_x (fw_up M4 g 0 ((M4 g 0) + 1)) fun M5 =>
  some (((M5 g 0) - 1), M5)
  else none
  else none
set_option maxHeartbeats 4000000 in
set_option maxRecDepth 100000 in
theorem cm_X2_putSecret {l : Launch} {X : fw_X} {M : fw_M} {g : Nat} {a1 : Int32} (hg : is2 g) {o : Int32 × fw_M} (hF : F_X2_putSecret M g a1 = some o) : ct_i l X yX2_putSecret cX2_putSecret 2 (some .int) ({ frames := 0, cells := 0, slots := 0, locals := 0 } : Room) M [.ref (fw_ad X g), .int a1] (.inl o.1, o.2) := by
  refine fw_open rfl (Nat.le_of_ble_eq_true rfl) (fun p e s m below meth c ls C hr hlk hnm hex hl B => ?_)
  have C : fr_C X p c cX2_putSecret 2 RX2 s m ([.ref (fw_ad X g), .int a1] : List Value).toArray := C
  have hx := C.1.1
  have hb := C.1.2.1
  have hl : lv_has ls 2 [(0, .ref (fw_ad X g)), (1, .int a1)] := hl
  unfold F_X2_putSecret at hF
  refine lv_aload_n hx hb dX2_putSecret_0 rfl (lv_at hl 0 rfl) ?_
  refine gf_X2_9 C B hg dX2_putSecret_1 ?_
  refine lv_aload_n hx hb dX2_putSecret_4 rfl (lv_at hl 0 rfl) ?_
  refine gf_X2_18 C B hg dX2_putSecret_5 ?_
  refine lv_iload_n hx hb dX2_putSecret_8 rfl (lv_at hl 1 rfl) ?_
  obtain ⟨c1, hF⟩ := of_g hF
  refine fr_is C B (ar_2_1 hg) c1 dX2_putSecret_9 (fun H locs B => ?_)
  obtain ⟨M2, eM2, hF⟩ := lt_e hF
  rw [← eM2] at B
  refine lv_aload_n hx hb dX2_putSecret_10 rfl (lv_at hl 0 rfl) ?_
  refine gf_X2_15 C B hg dX2_putSecret_11 ?_
  refine lv_aload_n hx hb dX2_putSecret_14 rfl (lv_at hl 0 rfl) ?_
  refine gf_X2_18 C B hg dX2_putSecret_15 ?_
  refine lv_iconst (v := 1) hx hb dX2_putSecret_18 (by decide) ?_
  refine lv_iload_n hx hb dX2_putSecret_19 rfl (lv_at hl 1 rfl) ?_
  refine lv_ishl hx hb dX2_putSecret_20 ?_
  obtain ⟨c3, hF⟩ := of_g hF
  refine fr_is C B (ar_2_2 hg) c3 dX2_putSecret_21 (fun H locs B => ?_)
  obtain ⟨M4, eM4, hF⟩ := lt_e hF
  rw [← eM4] at B
  refine lv_aload_n hx hb dX2_putSecret_22 rfl (lv_at hl 0 rfl) ?_
  refine lv_dup hx hb dX2_putSecret_23 rfl ?_
  refine gf_X2_18 C B hg dX2_putSecret_24 ?_
  refine lv_iconst (v := 1) hx hb dX2_putSecret_27 (by decide) ?_
  refine lv_iadd hx hb dX2_putSecret_28 ?_
  refine pf_X2_18 C B hg dX2_putSecret_29 (fun H locs B => ?_)
  obtain ⟨M5, eM5, hF⟩ := lt_e hF
  rw [← eM5] at B
  refine lv_aload_n hx hb dX2_putSecret_32 rfl (lv_at hl 0 rfl) ?_
  refine gf_X2_18 C B hg dX2_putSecret_33 ?_
  refine lv_iconst (v := 1) hx hb dX2_putSecret_36 (by decide) ?_
  refine lv_isub hx hb dX2_putSecret_37 ?_
  exact fr_iret C B hr rfl hlk (by rw [← Option.some.inj hF]) (Nat.le_of_ble_eq_true rfl) (Nat.le_of_ble_eq_true rfl) dX2_putSecret_38
def F_X2_tell (M : fw_M) (g : Nat) (a1 : Int32) (a2 : Int32) : Option (fw_M) :=
  if ix_i a2 6 then
  lt_x (fw_wi M (g + 2) a2 ((fw_ri M (g + 2) a2) ||| (1 <<< (a1 &&& 31)))) fun M2 =>
  some M2
  else none
set_option maxHeartbeats 4000000 in
set_option maxRecDepth 100000 in
theorem cm_X2_tell {l : Launch} {X : fw_X} {M : fw_M} {g : Nat} {a1 : Int32} {a2 : Int32} (hg : is2 g) {o : fw_M} (hF : F_X2_tell M g a1 a2 = some o) : ct_v l X yX2_tell cX2_tell 3 none ({ frames := 0, cells := 0, slots := 0, locals := 0 } : Room) M [.ref (fw_ad X g), .int a1, .int a2] (.inl 0, o) := by
  refine fw_open rfl (Nat.le_of_ble_eq_true rfl) (fun p e s m below meth c ls C hr hlk hnm hex hl B => ?_)
  have C : fr_C X p c cX2_tell 3 RX2 s m ([.ref (fw_ad X g), .int a1, .int a2] : List Value).toArray := C
  have hx := C.1.1
  have hb := C.1.2.1
  have hl : lv_has ls 3 [(0, .ref (fw_ad X g)), (1, .int a1), (2, .int a2)] := hl
  unfold F_X2_tell at hF
  refine lv_aload_n hx hb dX2_tell_0 rfl (lv_at hl 0 rfl) ?_
  refine gf_X2_15 C B hg dX2_tell_1 ?_
  refine lv_iload_n hx hb dX2_tell_4 rfl (lv_at hl 2 rfl) ?_
  refine lv_dup2_11 hx hb dX2_tell_5 rfl rfl ?_
  obtain ⟨c1, hF⟩ := of_g hF
  refine fr_ia C B (ar_2_2 hg) c1 dX2_tell_6 ?_
  refine lv_iconst (v := 1) hx hb dX2_tell_7 (by decide) ?_
  refine lv_iload_n hx hb dX2_tell_8 rfl (lv_at hl 1 rfl) ?_
  refine lv_ishl hx hb dX2_tell_9 ?_
  refine lv_ior hx hb dX2_tell_10 ?_
  refine fr_is C B (ar_2_2 hg) c1 dX2_tell_11 (fun H locs B => ?_)
  obtain ⟨M2, eM2, hF⟩ := lt_e hF
  rw [← eM2] at B
  exact fr_vret C B hr hlk (by rw [← Option.some.inj hF]) (Nat.le_of_ble_eq_true rfl) (Nat.le_of_ble_eq_true rfl) dX2_tell_12
def F_X2_revealAllOf_2 (g : Nat) (a1 : Int32)  : Nat → Int32 → fw_M → Option (fw_M)
  | 0, _, _ => none
  | n + 1, x2, M =>
    if (M g 0) ≤ x2 then
      some M
    else
      if ix_i x2 6 then
      if ¬ (fw_ri M (g + 1) x2) = a1 then
        F_X2_revealAllOf_2 g a1 n (x2 + 1) M
      else
        lt_x (fw_wi M (g + 1) x2 (-1)) fun M4 =>
        F_X2_revealAllOf_2 g a1 n (x2 + 1) M4
      else none
def F_X2_revealAllOf (M : fw_M) (g : Nat) (a1 : Int32) : Option (fw_M) :=
  F_X2_revealAllOf_2 g a1 64 0 M
set_option maxHeartbeats 4000000 in
set_option maxRecDepth 100000 in
theorem cm_X2_revealAllOf {l : Launch} {X : fw_X} {M : fw_M} {g : Nat} {a1 : Int32} (hg : is2 g) {o : fw_M} (hF : F_X2_revealAllOf M g a1 = some o) : ct_v l X yX2_revealAllOf cX2_revealAllOf 3 none ({ frames := 0, cells := 0, slots := 0, locals := 0 } : Room) M [.ref (fw_ad X g), .int a1] (.inl 0, o) := by
  refine fw_open rfl (Nat.le_of_ble_eq_true rfl) (fun p e s m below meth c ls C hr hlk hnm hex hl B => ?_)
  have C : fr_C X p c cX2_revealAllOf 3 RX2 s m ([.ref (fw_ad X g), .int a1] : List Value).toArray := C
  have hx := C.1.1
  have hb := C.1.2.1
  have hl : lv_has ls 3 [(0, .ref (fw_ad X g)), (1, .int a1)] := hl
  have hJ2 : ∀ (n : Nat), ∀ (x2 : Int32) (M : fw_M) (H : Heap) (locs : List Loc) (ls : Array Slot), F_X2_revealAllOf_2 g a1 n x2 M = some o → fr_H X s M H locs → lv_has ls 3 [(0, .ref (fw_ad X g)), (1, .int a1), (2, .int x2)] → W p l e ({ frames := 0, cells := 0, slots := 0, locals := 0 } : Room) s m ([.ref (fw_ad X g), .int a1] : List Value).toArray below meth c H locs 0 0 (vx_MQ below (fw_Qv X (.inl 0, o)) (fw_Qx X (.inl 0, o)) ([.ref (fw_ad X g), .int a1] : List Value).toArray s 0 0 (fw_A X)) (F0 m 2 ls []) := by
    intro n
    induction n with
    | zero =>
      intro x2 M H locs ls hF B hl
      exact absurd hF (by simp [F_X2_revealAllOf_2])
    | succ n ih =>
      intro x2 M H locs ls hF B hl
      rw [F_X2_revealAllOf_2] at hF
      refine lv_iload_n hx hb dX2_revealAllOf_2 rfl (lv_at hl 2 rfl) ?_
      refine lv_aload_n hx hb dX2_revealAllOf_3 rfl (lv_at hl 0 rfl) ?_
      refine gf_X2_18 C B hg dX2_revealAllOf_4 ?_
      refine lv_icmp_ge (tgt := 33) hx hb dX2_revealAllOf_7 (by decide) (fun c1 => ?_) (fun c1 => ?_)
      · have hF := it_t hF c1
        exact fr_vret C B hr hlk (by rw [← Option.some.inj hF]) (Nat.le_of_ble_eq_true rfl) (Nat.le_of_ble_eq_true rfl) dX2_revealAllOf_33
      · have hF := it_f hF c1
        refine lv_aload_n hx hb dX2_revealAllOf_10 rfl (lv_at hl 0 rfl) ?_
        refine gf_X2_9 C B hg dX2_revealAllOf_11 ?_
        refine lv_iload_n hx hb dX2_revealAllOf_14 rfl (lv_at hl 2 rfl) ?_
        obtain ⟨c2, hF⟩ := of_g hF
        refine fr_ia C B (ar_2_1 hg) c2 dX2_revealAllOf_15 ?_
        refine lv_iload_n hx hb dX2_revealAllOf_16 rfl (lv_at hl 1 rfl) ?_
        refine lv_icmp_ne (tgt := 27) hx hb dX2_revealAllOf_17 (by decide) (fun c3 => ?_) (fun c3 => ?_)
        · have hF := it_t hF c3
          refine lv_iinc (v := (x2 + 1)) (lv' := [(2, .int (x2 + 1)), (0, .ref (fw_ad X g)), (1, .int a1)]) hx hb dX2_revealAllOf_27 hl (k := 2) rfl rfl (by decide) rfl (fun ls hl => ?_)
          refine lv_goto (tgt := 2) hx hb dX2_revealAllOf_30 (by decide) ?_
          exact ih (x2 + 1) M _ _ _ hF B (lv_sub hl [1, 2, 0] rfl)
        · have hF := it_f hF (not_not_intro c3)
          refine lv_aload_n hx hb dX2_revealAllOf_20 rfl (lv_at hl 0 rfl) ?_
          refine gf_X2_9 C B hg dX2_revealAllOf_21 ?_
          refine lv_iload_n hx hb dX2_revealAllOf_24 rfl (lv_at hl 2 rfl) ?_
          refine lv_iconst (v := (-1)) hx hb dX2_revealAllOf_25 (by decide) ?_
          refine fr_is C B (ar_2_1 hg) c2 dX2_revealAllOf_26 (fun H locs B => ?_)
          obtain ⟨M4, eM4, hF⟩ := lt_e hF
          rw [← eM4] at B
          refine lv_iinc (v := (x2 + 1)) (lv' := [(2, .int (x2 + 1)), (0, .ref (fw_ad X g)), (1, .int a1)]) hx hb dX2_revealAllOf_27 hl (k := 2) rfl rfl (by decide) rfl (fun ls hl => ?_)
          refine lv_goto (tgt := 2) hx hb dX2_revealAllOf_30 (by decide) ?_
          exact ih (x2 + 1) M4 _ _ _ hF B (lv_sub hl [1, 2, 0] rfl)
  unfold F_X2_revealAllOf at hF
  refine lv_iconst (v := 0) hx hb dX2_revealAllOf_0 (by decide) ?_
  refine lv_istore_n (lv' := [(2, .int 0), (0, .ref (fw_ad X g)), (1, .int a1)]) hx hb dX2_revealAllOf_1 rfl hl (by decide) rfl (fun ls hl => ?_)
  exact hJ2 64 0 M _ _ _ hF B (lv_sub hl [1, 2, 0] rfl)
