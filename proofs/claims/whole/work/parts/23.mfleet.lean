def F_X1_copyFrom (M : fw_M) (g : Nat) (g1 : Nat) : Option (fw_M) :=
  lt_x (fw_up M g 0 (M g1 0)) fun M1 =>
  if (¬ (0 : Int32) < 0 ∧ ¬ (0 : Int32) < 0 ∧ ¬ (6 : Int32) < 0 ∧ (0 : Int32).toNatClampNeg + (6 : Int32).toNatClampNeg ≤ 6 ∧ (0 : Int32).toNatClampNeg + (6 : Int32).toNatClampNeg ≤ 6) then
  lt_x (fw_cp M1 (g1 + 1) (g + 1) (0 : Int32).toNatClampNeg (0 : Int32).toNatClampNeg (6 : Int32).toNatClampNeg) fun M3 =>
  lt_x (fw_cp M3 (g1 + 2) (g + 2) (0 : Int32).toNatClampNeg (0 : Int32).toNatClampNeg (6 : Int32).toNatClampNeg) fun M4 =>
  lt_x (fw_cp M4 (g1 + 3) (g + 3) (0 : Int32).toNatClampNeg (0 : Int32).toNatClampNeg (6 : Int32).toNatClampNeg) fun M5 =>
  some M5
  else none
set_option maxHeartbeats 4000000 in
set_option maxRecDepth 100000 in
theorem cm_X1_copyFrom {l : Launch} {X : fw_X} {M : fw_M} {g : Nat} {g1 : Nat} (hg : is1 g) (h1 : is1 g1) {o : fw_M} (hF : F_X1_copyFrom M g g1 = some o) : ct_v l X yX1_copyFrom cX1_copyFrom 2 none ({ frames := 1, cells := 0, slots := 0, locals := 60 } : Room) M [.ref (fw_ad X g), .ref (fw_ad X g1)] (.inl 0, o) := by
  refine fw_open rfl (Nat.le_of_ble_eq_true rfl) (fun p e s m below meth c ls C hr hlk hnm hex hl B => ?_)
  have C : fr_C X p c cX1_copyFrom 2 RX1 s m ([.ref (fw_ad X g), .ref (fw_ad X g1)] : List Value).toArray := C
  have hx := C.1.1
  have hb := C.1.2.1
  have hl : lv_has ls 2 [(0, .ref (fw_ad X g)), (1, .ref (fw_ad X g1))] := hl
  unfold F_X1_copyFrom at hF
  refine lv_aload_n hx hb dX1_copyFrom_0 rfl (lv_at hl 0 rfl) ?_
  refine lv_aload_n hx hb dX1_copyFrom_1 rfl (lv_at hl 1 rfl) ?_
  refine gf_X1_21 C B h1 dX1_copyFrom_2 ?_
  refine pf_X1_21 C B hg dX1_copyFrom_5 (fun H locs B => ?_)
  obtain ⟨M1, eM1, hF⟩ := lt_e hF
  rw [← eM1] at B
  refine lv_aload_n hx hb dX1_copyFrom_8 rfl (lv_at hl 1 rfl) ?_
  refine gf_X1_9 C B h1 dX1_copyFrom_9 ?_
  refine lv_iconst (v := 0) hx hb dX1_copyFrom_12 (by decide) ?_
  refine lv_aload_n hx hb dX1_copyFrom_13 rfl (lv_at hl 0 rfl) ?_
  refine gf_X1_9 C B hg dX1_copyFrom_14 ?_
  refine lv_iconst (v := 0) hx hb dX1_copyFrom_17 (by decide) ?_
  refine lv_bipush (v := 6) hx hb dX1_copyFrom_18 (by decide) ?_
  obtain ⟨c2, hF⟩ := of_g hF
  refine fr_copy C B (ar_1_1 h1) (ar_1_1 hg) wm_X1_25 wn_cp wt_cp wi_sys hl.1 c2 (Nat.le_of_ble_eq_true rfl) (Nat.le_of_ble_eq_true rfl) dX1_copyFrom_20 (fun H locs B => ?_)
  obtain ⟨M3, eM3, hF⟩ := lt_e hF
  rw [← eM3] at B
  refine lv_aload_n hx hb dX1_copyFrom_23 rfl (lv_at hl 1 rfl) ?_
  refine gf_X1_15 C B h1 dX1_copyFrom_24 ?_
  refine lv_iconst (v := 0) hx hb dX1_copyFrom_27 (by decide) ?_
  refine lv_aload_n hx hb dX1_copyFrom_28 rfl (lv_at hl 0 rfl) ?_
  refine gf_X1_15 C B hg dX1_copyFrom_29 ?_
  refine lv_iconst (v := 0) hx hb dX1_copyFrom_32 (by decide) ?_
  refine lv_bipush (v := 6) hx hb dX1_copyFrom_33 (by decide) ?_
  refine fr_copy C B (ar_1_2 h1) (ar_1_2 hg) wm_X1_25 wn_cp wt_cp wi_sys hl.1 c2 (Nat.le_of_ble_eq_true rfl) (Nat.le_of_ble_eq_true rfl) dX1_copyFrom_35 (fun H locs B => ?_)
  obtain ⟨M4, eM4, hF⟩ := lt_e hF
  rw [← eM4] at B
  refine lv_aload_n hx hb dX1_copyFrom_38 rfl (lv_at hl 1 rfl) ?_
  refine gf_X1_18 C B h1 dX1_copyFrom_39 ?_
  refine lv_iconst (v := 0) hx hb dX1_copyFrom_42 (by decide) ?_
  refine lv_aload_n hx hb dX1_copyFrom_43 rfl (lv_at hl 0 rfl) ?_
  refine gf_X1_18 C B hg dX1_copyFrom_44 ?_
  refine lv_iconst (v := 0) hx hb dX1_copyFrom_47 (by decide) ?_
  refine lv_bipush (v := 6) hx hb dX1_copyFrom_48 (by decide) ?_
  refine fr_copy C B (ar_1_3 h1) (ar_1_3 hg) wm_X1_25 wn_cp wt_cp wi_sys hl.1 c2 (Nat.le_of_ble_eq_true rfl) (Nat.le_of_ble_eq_true rfl) dX1_copyFrom_50 (fun H locs B => ?_)
  obtain ⟨M5, eM5, hF⟩ := lt_e hF
  rw [← eM5] at B
  exact fr_vret C B hr hlk (by rw [← Option.some.inj hF]) (Nat.le_of_ble_eq_true rfl) (Nat.le_of_ble_eq_true rfl) dX1_copyFrom_53
def F_X1_hasTram (M : fw_M) (g : Nat) (a1 : Int32) : Option (Int32) :=
  if a1 < 0 then
    some 0
  else
    if (M g 0) ≤ a1 then
      some 0
    else
      some 1
set_option maxHeartbeats 4000000 in
set_option maxRecDepth 100000 in
theorem cm_X1_hasTram {l : Launch} {X : fw_X} {M : fw_M} {g : Nat} {a1 : Int32} (hg : is1 g) {o : Int32} (hF : F_X1_hasTram M g a1 = some o) : ct_i l X yX1_hasTram cX1_hasTram 2 (some .boolean) ({ frames := 0, cells := 0, slots := 0, locals := 0 } : Room) M [.ref (fw_ad X g), .int a1] (.inl o, M) := by
  refine fw_open rfl (Nat.le_of_ble_eq_true rfl) (fun p e s m below meth c ls C hr hlk hnm hex hl B => ?_)
  have C : fr_C X p c cX1_hasTram 2 RX1 s m ([.ref (fw_ad X g), .int a1] : List Value).toArray := C
  have hx := C.1.1
  have hb := C.1.2.1
  have hl : lv_has ls 2 [(0, .ref (fw_ad X g)), (1, .int a1)] := hl
  unfold F_X1_hasTram at hF
  refine lv_iload_n hx hb dX1_hasTram_0 rfl (lv_at hl 1 rfl) ?_
  refine lv_if_lt (tgt := 16) hx hb dX1_hasTram_1 (by decide) (fun c1 => ?_) (fun c1 => ?_)
  · have hF := it_t hF c1
    refine lv_iconst (v := 0) hx hb dX1_hasTram_16 (by decide) ?_
    exact fr_iret C B hr rfl hlk (by rw [← Option.some.inj hF]) (Nat.le_of_ble_eq_true rfl) (Nat.le_of_ble_eq_true rfl) dX1_hasTram_17
  · have hF := it_f hF c1
    refine lv_iload_n hx hb dX1_hasTram_4 rfl (lv_at hl 1 rfl) ?_
    refine lv_aload_n hx hb dX1_hasTram_5 rfl (lv_at hl 0 rfl) ?_
    refine gf_X1_21 C B hg dX1_hasTram_6 ?_
    refine lv_icmp_ge (tgt := 16) hx hb dX1_hasTram_9 (by decide) (fun c2 => ?_) (fun c2 => ?_)
    · have hF := it_t hF c2
      refine lv_iconst (v := 0) hx hb dX1_hasTram_16 (by decide) ?_
      exact fr_iret C B hr rfl hlk (by rw [← Option.some.inj hF]) (Nat.le_of_ble_eq_true rfl) (Nat.le_of_ble_eq_true rfl) dX1_hasTram_17
    · have hF := it_f hF c2
      refine lv_iconst (v := 1) hx hb dX1_hasTram_12 (by decide) ?_
      refine lv_goto (tgt := 17) hx hb dX1_hasTram_13 (by decide) ?_
      exact fr_iret C B hr rfl hlk (by rw [← Option.some.inj hF]) (Nat.le_of_ble_eq_true rfl) (Nat.le_of_ble_eq_true rfl) dX1_hasTram_17
def F_X1_putTram (M : fw_M) (g : Nat) (a1 : Int32) : Option (Int32 × fw_M) :=
  if ix_i (M g 0) 6 then
  lt_x (fw_wi M (g + 1) (M g 0) a1) fun M2 =>
  if ix_i (M2 g 0) 6 then
  lt_x (fw_wi M2 (g + 2) (M2 g 0) 0) fun M4 =>
  if ix_i (M4 g 0) 6 then
  lt_x (fw_wi M4 (g + 3) (M4 g 0) 1) fun M6 =>
  lt_x (fw_up M6 g 0 ((M6 g 0) + 1)) fun M7 =>
  some (((M7 g 0) - 1), M7)
  else none
  else none
  else none
set_option maxHeartbeats 4000000 in
set_option maxRecDepth 100000 in
theorem cm_X1_putTram {l : Launch} {X : fw_X} {M : fw_M} {g : Nat} {a1 : Int32} (hg : is1 g) {o : Int32 × fw_M} (hF : F_X1_putTram M g a1 = some o) : ct_i l X yX1_putTram cX1_putTram 2 (some .int) ({ frames := 0, cells := 0, slots := 0, locals := 0 } : Room) M [.ref (fw_ad X g), .int a1] (.inl o.1, o.2) := by
  refine fw_open rfl (Nat.le_of_ble_eq_true rfl) (fun p e s m below meth c ls C hr hlk hnm hex hl B => ?_)
  have C : fr_C X p c cX1_putTram 2 RX1 s m ([.ref (fw_ad X g), .int a1] : List Value).toArray := C
  have hx := C.1.1
  have hb := C.1.2.1
  have hl : lv_has ls 2 [(0, .ref (fw_ad X g)), (1, .int a1)] := hl
  unfold F_X1_putTram at hF
  refine lv_aload_n hx hb dX1_putTram_0 rfl (lv_at hl 0 rfl) ?_
  refine gf_X1_9 C B hg dX1_putTram_1 ?_
  refine lv_aload_n hx hb dX1_putTram_4 rfl (lv_at hl 0 rfl) ?_
  refine gf_X1_21 C B hg dX1_putTram_5 ?_
  refine lv_iload_n hx hb dX1_putTram_8 rfl (lv_at hl 1 rfl) ?_
  obtain ⟨c1, hF⟩ := of_g hF
  refine fr_is C B (ar_1_1 hg) c1 dX1_putTram_9 (fun H locs B => ?_)
  obtain ⟨M2, eM2, hF⟩ := lt_e hF
  rw [← eM2] at B
  refine lv_aload_n hx hb dX1_putTram_10 rfl (lv_at hl 0 rfl) ?_
  refine gf_X1_15 C B hg dX1_putTram_11 ?_
  refine lv_aload_n hx hb dX1_putTram_14 rfl (lv_at hl 0 rfl) ?_
  refine gf_X1_21 C B hg dX1_putTram_15 ?_
  refine lv_iconst (v := 0) hx hb dX1_putTram_18 (by decide) ?_
  obtain ⟨c3, hF⟩ := of_g hF
  refine fr_is C B (ar_1_2 hg) c3 dX1_putTram_19 (fun H locs B => ?_)
  obtain ⟨M4, eM4, hF⟩ := lt_e hF
  rw [← eM4] at B
  refine lv_aload_n hx hb dX1_putTram_20 rfl (lv_at hl 0 rfl) ?_
  refine gf_X1_18 C B hg dX1_putTram_21 ?_
  refine lv_aload_n hx hb dX1_putTram_24 rfl (lv_at hl 0 rfl) ?_
  refine gf_X1_21 C B hg dX1_putTram_25 ?_
  refine lv_iconst (v := 1) hx hb dX1_putTram_28 (by decide) ?_
  obtain ⟨c5, hF⟩ := of_g hF
  refine fr_is C B (ar_1_3 hg) c5 dX1_putTram_29 (fun H locs B => ?_)
  obtain ⟨M6, eM6, hF⟩ := lt_e hF
  rw [← eM6] at B
  refine lv_aload_n hx hb dX1_putTram_30 rfl (lv_at hl 0 rfl) ?_
  refine lv_dup hx hb dX1_putTram_31 rfl ?_
  refine gf_X1_21 C B hg dX1_putTram_32 ?_
  refine lv_iconst (v := 1) hx hb dX1_putTram_35 (by decide) ?_
  refine lv_iadd hx hb dX1_putTram_36 ?_
  refine pf_X1_21 C B hg dX1_putTram_37 (fun H locs B => ?_)
  obtain ⟨M7, eM7, hF⟩ := lt_e hF
  rw [← eM7] at B
  refine lv_aload_n hx hb dX1_putTram_40 rfl (lv_at hl 0 rfl) ?_
  refine gf_X1_21 C B hg dX1_putTram_41 ?_
  refine lv_iconst (v := 1) hx hb dX1_putTram_44 (by decide) ?_
  refine lv_isub hx hb dX1_putTram_45 ?_
  exact fr_iret C B hr rfl hlk (by rw [← Option.some.inj hF]) (Nat.le_of_ble_eq_true rfl) (Nat.le_of_ble_eq_true rfl) dX1_putTram_46
def F_X1_turned (M : fw_M) (a1 : Int32) (a2 : Int32) (a3 : Int32) : Option (Int32) :=
  if a1 < a3 then
    if 0 < a1 then
      some a2
    else
      some 1
  else
    some (-1)
set_option maxHeartbeats 4000000 in
set_option maxRecDepth 100000 in
theorem cm_X1_turned {l : Launch} {X : fw_X} {M : fw_M} {a1 : Int32} {a2 : Int32} {a3 : Int32}  {o : Int32} (hF : F_X1_turned M a1 a2 a3 = some o) : ct_i l X yX1_turned cX1_turned 3 (some .int) ({ frames := 0, cells := 0, slots := 0, locals := 0 } : Room) M [.int a1, .int a2, .int a3] (.inl o, M) := by
  refine fw_open rfl (Nat.le_of_ble_eq_true rfl) (fun p e s m below meth c ls C hr hlk hnm hex hl B => ?_)
  have C : fr_C X p c cX1_turned 3 RX1 s m ([.int a1, .int a2, .int a3] : List Value).toArray := C
  have hx := C.1.1
  have hb := C.1.2.1
  have hl : lv_has ls 3 [(0, .int a1), (1, .int a2), (2, .int a3)] := hl
  unfold F_X1_turned at hF
  refine lv_iload_n hx hb dX1_turned_0 rfl (lv_at hl 0 rfl) ?_
  refine lv_iload_n hx hb dX1_turned_1 rfl (lv_at hl 2 rfl) ?_
  refine lv_icmp_lt (tgt := 7) hx hb dX1_turned_2 (by decide) (fun c1 => ?_) (fun c1 => ?_)
  · have hF := it_t hF c1
    refine lv_iload_n hx hb dX1_turned_7 rfl (lv_at hl 0 rfl) ?_
    refine lv_if_gt (tgt := 15) hx hb dX1_turned_8 (by decide) (fun c2 => ?_) (fun c2 => ?_)
    · have hF := it_t hF c2
      refine lv_iload_n hx hb dX1_turned_15 rfl (lv_at hl 1 rfl) ?_
      exact fr_iret C B hr rfl hlk (by rw [← Option.some.inj hF]) (Nat.le_of_ble_eq_true rfl) (Nat.le_of_ble_eq_true rfl) dX1_turned_16
    · have hF := it_f hF c2
      refine lv_iconst (v := 1) hx hb dX1_turned_11 (by decide) ?_
      refine lv_goto (tgt := 16) hx hb dX1_turned_12 (by decide) ?_
      exact fr_iret C B hr rfl hlk (by rw [← Option.some.inj hF]) (Nat.le_of_ble_eq_true rfl) (Nat.le_of_ble_eq_true rfl) dX1_turned_16
  · have hF := it_f hF c1
    refine lv_iconst (v := (-1)) hx hb dX1_turned_5 (by decide) ?_
    exact fr_iret C B hr rfl hlk (by rw [← Option.some.inj hF]) (Nat.le_of_ble_eq_true rfl) (Nat.le_of_ble_eq_true rfl) dX1_turned_6
def F_X1_moveAll_4 (g : Nat) (g1 : Nat)  : Nat → Int32 → Int32 → fw_M → Option (Int32 × fw_M)
  | 0, _, _, _ => none
  | n + 1, x2, x3, M =>
    if (M g 0) ≤ x3 then
      some (x2, M)
    else
      if ix_i x3 6 then
      if ix_i (fw_ri M (g + 1) x3) 5 then
      lt_x (fw_wi M (g + 2) x3 ((fw_ri M (g + 2) x3) + (fw_ri M (g + 3) x3))) fun M4 =>
      bd_x (F_X1_turned M4 (fw_ri M4 (g + 2) x3) (fw_ri M4 (g + 3) x3) ((fw_ri M (g1 + 2) (fw_ri M (g + 1) x3)) - 1)) fun r6 =>
      lt_x (fw_wi M4 (g + 3) x3 r6) fun M8 =>
      if (fw_ri M8 (g + 2) x3) = 0 then
        F_X1_moveAll_4 g g1 n (x2 + 1) (x3 + 1) M8
      else
        if ¬ (fw_ri M8 (g + 2) x3) = ((fw_ri M (g1 + 2) (fw_ri M (g + 1) x3)) - 1) then
          F_X1_moveAll_4 g g1 n x2 (x3 + 1) M8
        else
          F_X1_moveAll_4 g g1 n (x2 + 1) (x3 + 1) M8
      else none
      else none
def F_X1_moveAll (M : fw_M) (g : Nat) (g1 : Nat) : Option (Int32 × fw_M) :=
  F_X1_moveAll_4 g g1 64 0 0 M
set_option maxHeartbeats 4000000 in
set_option maxRecDepth 100000 in
theorem cm_X1_moveAll {l : Launch} {X : fw_X} {M : fw_M} {g : Nat} {g1 : Nat} (hg : is1 g) (h1 : is3 g1) {o : Int32 × fw_M} (hF : F_X1_moveAll M g g1 = some o) : ct_i l X yX1_moveAll cX1_moveAll 5 (some .int) ({ frames := 1, cells := 0, slots := 0, locals := 22 } : Room) M [.ref (fw_ad X g), .ref (fw_ad X g1)] (.inl o.1, o.2) := by
  refine fw_open rfl (Nat.le_of_ble_eq_true rfl) (fun p e s m below meth c ls C hr hlk hnm hex hl B => ?_)
  have C : fr_C X p c cX1_moveAll 5 RX1 s m ([.ref (fw_ad X g), .ref (fw_ad X g1)] : List Value).toArray := C
  have hx := C.1.1
  have hb := C.1.2.1
  have hl : lv_has ls 5 [(0, .ref (fw_ad X g)), (1, .ref (fw_ad X g1))] := hl
  have hJ4 : ∀ (n : Nat), ∀ (x2 : Int32) (x3 : Int32) (M : fw_M) (H : Heap) (locs : List Loc) (ls : Array Slot), F_X1_moveAll_4 g g1 n x2 x3 M = some o → fr_H X s M H locs → lv_has ls 5 [(0, .ref (fw_ad X g)), (1, .ref (fw_ad X g1)), (2, .int x2), (3, .int x3)] → W p l e ({ frames := 1, cells := 0, slots := 0, locals := 22 } : Room) s m ([.ref (fw_ad X g), .ref (fw_ad X g1)] : List Value).toArray below meth c H locs 0 0 (vx_MQ below (fw_Qi X (.inl o.1, o.2)) (fw_Qx X (.inl o.1, o.2)) ([.ref (fw_ad X g), .ref (fw_ad X g1)] : List Value).toArray s 0 0 (fw_A X)) (F0 m 4 ls []) := by
    intro n
    induction n with
    | zero =>
      intro x2 x3 M H locs ls hF B hl
      exact absurd hF (by simp [F_X1_moveAll_4])
    | succ n ih =>
      intro x2 x3 M H locs ls hF B hl
      rw [F_X1_moveAll_4] at hF
      refine lv_iload_n hx hb dX1_moveAll_4 rfl (lv_at hl 3 rfl) ?_
      refine lv_aload_n hx hb dX1_moveAll_5 rfl (lv_at hl 0 rfl) ?_
      refine gf_X1_21 C B hg dX1_moveAll_6 ?_
      refine lv_icmp_ge (tgt := 94) hx hb dX1_moveAll_9 (by decide) (fun c1 => ?_) (fun c1 => ?_)
      · have hF := it_t hF c1
        refine lv_iload_n hx hb dX1_moveAll_94 rfl (lv_at hl 2 rfl) ?_
        exact fr_iret C B hr rfl hlk (by rw [← Option.some.inj hF]) (Nat.le_of_ble_eq_true rfl) (Nat.le_of_ble_eq_true rfl) dX1_moveAll_95
      · have hF := it_f hF c1
        refine lv_aload_n hx hb dX1_moveAll_12 rfl (lv_at hl 1 rfl) ?_
        refine gf_X1_31 C B h1 dX1_moveAll_13 ?_
        refine lv_aload_n hx hb dX1_moveAll_16 rfl (lv_at hl 0 rfl) ?_
        refine gf_X1_9 C B hg dX1_moveAll_17 ?_
        refine lv_iload_n hx hb dX1_moveAll_20 rfl (lv_at hl 3 rfl) ?_
        obtain ⟨c2, hF⟩ := of_g hF
        refine fr_ia C B (ar_1_1 hg) c2 dX1_moveAll_21 ?_
        obtain ⟨c3, hF⟩ := of_g hF
        refine fr_ia C B (ar_3_2 h1) c3 dX1_moveAll_22 ?_
        refine lv_iconst (v := 1) hx hb dX1_moveAll_23 (by decide) ?_
        refine lv_isub hx hb dX1_moveAll_24 ?_
        refine lv_istore (lv' := [(4, .int ((fw_ri M (g1 + 2) (fw_ri M (g + 1) x3)) - 1)), (0, .ref (fw_ad X g)), (1, .ref (fw_ad X g1)), (2, .int x2), (3, .int x3)]) hx hb dX1_moveAll_25 hl (by decide) rfl (fun ls hl => ?_)
        refine lv_aload_n hx hb dX1_moveAll_27 rfl (lv_at hl 1 rfl) ?_
        refine gf_X1_15 C B hg dX1_moveAll_28 ?_
        refine lv_iload_n hx hb dX1_moveAll_31 rfl (lv_at hl 4 rfl) ?_
        refine lv_dup2_11 hx hb dX1_moveAll_32 rfl rfl ?_
        refine fr_ia C B (ar_1_2 hg) c2 dX1_moveAll_33 ?_
        refine lv_aload_n hx hb dX1_moveAll_34 rfl (lv_at hl 1 rfl) ?_
        refine gf_X1_18 C B hg dX1_moveAll_35 ?_
        refine lv_iload_n hx hb dX1_moveAll_38 rfl (lv_at hl 4 rfl) ?_
        refine fr_ia C B (ar_1_3 hg) c2 dX1_moveAll_39 ?_
        refine lv_iadd hx hb dX1_moveAll_40 ?_
        refine fr_is C B (ar_1_2 hg) c2 dX1_moveAll_41 (fun H locs B => ?_)
        obtain ⟨M4, eM4, hF⟩ := lt_e hF
        rw [← eM4] at B
        refine lv_aload_n hx hb dX1_moveAll_42 rfl (lv_at hl 1 rfl) ?_
        refine gf_X1_18 C B hg dX1_moveAll_43 ?_
        refine lv_iload_n hx hb dX1_moveAll_46 rfl (lv_at hl 4 rfl) ?_
        refine lv_aload_n hx hb dX1_moveAll_47 rfl (lv_at hl 1 rfl) ?_
        refine gf_X1_15 C B hg dX1_moveAll_48 ?_
        refine lv_iload_n hx hb dX1_moveAll_51 rfl (lv_at hl 4 rfl) ?_
        refine fr_ia C B (ar_1_2 hg) c2 dX1_moveAll_52 ?_
        refine lv_aload_n hx hb dX1_moveAll_53 rfl (lv_at hl 1 rfl) ?_
        refine gf_X1_18 C B hg dX1_moveAll_54 ?_
        refine lv_iload_n hx hb dX1_moveAll_57 rfl (lv_at hl 4 rfl) ?_
        refine fr_ia C B (ar_1_3 hg) c2 dX1_moveAll_58 ?_
        refine lv_iload hx hb dX1_moveAll_59 (lv_at hl 0 rfl) ?_
        obtain ⟨r6, hf5, hF⟩ := bx_e hF
        refine fr_cSi (As := [.int (fw_ri M4 (g + 2) x3), .int (fw_ri M4 (g + 3) x3), .int ((fw_ri M (g1 + 2) (fw_ri M (g + 1) x3)) - 1)]) (rest := [.int x3, .ref (fw_ad X (g + 3))]) C B (cm_X1_turned hf5) yw_X1_turned wm_X1_36 rfl hl.1 rfl (Nat.le_of_ble_eq_true rfl) ⟨Nat.le_of_ble_eq_true rfl, Nat.le_of_ble_eq_true rfl⟩ ⟨Nat.le_of_ble_eq_true rfl, Nat.le_of_ble_eq_true rfl⟩ dX1_moveAll_61 (fr_nx rfl) (fun r9 M9 H locs ho9 B => ?_)
        obtain ⟨rfl, rfl⟩ := oi_e ho9
        refine fr_is C B (ar_1_3 hg) c2 dX1_moveAll_64 (fun H locs B => ?_)
        obtain ⟨M8, eM8, hF⟩ := lt_e hF
        rw [← eM8] at B
        refine lv_aload_n hx hb dX1_moveAll_65 rfl (lv_at hl 1 rfl) ?_
        refine gf_X1_15 C B hg dX1_moveAll_66 ?_
        refine lv_iload_n hx hb dX1_moveAll_69 rfl (lv_at hl 4 rfl) ?_
        refine fr_ia C B (ar_1_2 hg) c2 dX1_moveAll_70 ?_
        refine lv_if_eq (tgt := 85) hx hb dX1_moveAll_71 (by decide) (fun c9 => ?_) (fun c9 => ?_)
        · have hF := it_t hF c9
          refine lv_iinc (v := (x2 + 1)) (lv' := [(2, .int (x2 + 1)), (4, .int ((fw_ri M (g1 + 2) (fw_ri M (g + 1) x3)) - 1)), (0, .ref (fw_ad X g)), (1, .ref (fw_ad X g1)), (3, .int x3)]) hx hb dX1_moveAll_85 hl (k := 3) rfl rfl (by decide) rfl (fun ls hl => ?_)
          refine lv_iinc (v := (x3 + 1)) (lv' := [(3, .int (x3 + 1)), (2, .int (x2 + 1)), (4, .int ((fw_ri M (g1 + 2) (fw_ri M (g + 1) x3)) - 1)), (0, .ref (fw_ad X g)), (1, .ref (fw_ad X g1))]) hx hb dX1_moveAll_88 hl (k := 4) rfl rfl (by decide) rfl (fun ls hl => ?_)
          refine lv_goto (tgt := 4) hx hb dX1_moveAll_91 (by decide) ?_
          exact ih (x2 + 1) (x3 + 1) M8 _ _ _ hF B (lv_sub hl [3, 4, 1, 0] rfl)
        · have hF := it_f hF c9
          refine lv_aload_n hx hb dX1_moveAll_74 rfl (lv_at hl 1 rfl) ?_
          refine gf_X1_15 C B hg dX1_moveAll_75 ?_
          refine lv_iload_n hx hb dX1_moveAll_78 rfl (lv_at hl 4 rfl) ?_
          refine fr_ia C B (ar_1_2 hg) c2 dX1_moveAll_79 ?_
          refine lv_iload hx hb dX1_moveAll_80 (lv_at hl 0 rfl) ?_
          refine lv_icmp_ne (tgt := 88) hx hb dX1_moveAll_82 (by decide) (fun c10 => ?_) (fun c10 => ?_)
          · have hF := it_t hF c10
            refine lv_iinc (v := (x3 + 1)) (lv' := [(3, .int (x3 + 1)), (4, .int ((fw_ri M (g1 + 2) (fw_ri M (g + 1) x3)) - 1)), (0, .ref (fw_ad X g)), (1, .ref (fw_ad X g1)), (2, .int x2)]) hx hb dX1_moveAll_88 hl (k := 4) rfl rfl (by decide) rfl (fun ls hl => ?_)
            refine lv_goto (tgt := 4) hx hb dX1_moveAll_91 (by decide) ?_
            exact ih x2 (x3 + 1) M8 _ _ _ hF B (lv_sub hl [2, 3, 4, 0] rfl)
          · have hF := it_f hF (not_not_intro c10)
            refine lv_iinc (v := (x2 + 1)) (lv' := [(2, .int (x2 + 1)), (4, .int ((fw_ri M (g1 + 2) (fw_ri M (g + 1) x3)) - 1)), (0, .ref (fw_ad X g)), (1, .ref (fw_ad X g1)), (3, .int x3)]) hx hb dX1_moveAll_85 hl (k := 3) rfl rfl (by decide) rfl (fun ls hl => ?_)
            refine lv_iinc (v := (x3 + 1)) (lv' := [(3, .int (x3 + 1)), (2, .int (x2 + 1)), (4, .int ((fw_ri M (g1 + 2) (fw_ri M (g + 1) x3)) - 1)), (0, .ref (fw_ad X g)), (1, .ref (fw_ad X g1))]) hx hb dX1_moveAll_88 hl (k := 4) rfl rfl (by decide) rfl (fun ls hl => ?_)
            refine lv_goto (tgt := 4) hx hb dX1_moveAll_91 (by decide) ?_
            exact ih (x2 + 1) (x3 + 1) M8 _ _ _ hF B (lv_sub hl [3, 4, 1, 0] rfl)
  unfold F_X1_moveAll at hF
  refine lv_iconst (v := 0) hx hb dX1_moveAll_0 (by decide) ?_
  refine lv_istore_n (lv' := [(2, .int 0), (0, .ref (fw_ad X g)), (1, .ref (fw_ad X g1))]) hx hb dX1_moveAll_1 rfl hl (by decide) rfl (fun ls hl => ?_)
  refine lv_iconst (v := 0) hx hb dX1_moveAll_2 (by decide) ?_
  refine lv_istore_n (lv' := [(3, .int 0), (2, .int 0), (0, .ref (fw_ad X g)), (1, .ref (fw_ad X g1))]) hx hb dX1_moveAll_3 rfl hl (by decide) rfl (fun ls hl => ?_)
  exact hJ4 64 0 0 M _ _ _ hF B (lv_sub hl [2, 3, 1, 0] rfl)
