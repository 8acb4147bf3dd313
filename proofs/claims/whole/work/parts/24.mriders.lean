def F_X6_copyFrom (M : fw_M) (g : Nat) (g1 : Nat) : Option (fw_M) :=
  lt_x (fw_up M g 0 (M g1 0)) fun M1 =>
  if (¬ (0 : Int32) < 0 ∧ ¬ (0 : Int32) < 0 ∧ ¬ (8 : Int32) < 0 ∧ (0 : Int32).toNatClampNeg + (8 : Int32).toNatClampNeg ≤ 8 ∧ (0 : Int32).toNatClampNeg + (8 : Int32).toNatClampNeg ≤ 8) then
  lt_x (fw_cp M1 (g1 + 1) (g + 1) (0 : Int32).toNatClampNeg (0 : Int32).toNatClampNeg (8 : Int32).toNatClampNeg) fun M3 =>
  lt_x (fw_cp M3 (g1 + 2) (g + 2) (0 : Int32).toNatClampNeg (0 : Int32).toNatClampNeg (8 : Int32).toNatClampNeg) fun M4 =>
  lt_x (fw_cp M4 (g1 + 3) (g + 3) (0 : Int32).toNatClampNeg (0 : Int32).toNatClampNeg (8 : Int32).toNatClampNeg) fun M5 =>
  lt_x (fw_cp M5 (g1 + 4) (g + 4) (0 : Int32).toNatClampNeg (0 : Int32).toNatClampNeg (8 : Int32).toNatClampNeg) fun M6 =>
  lt_x (fw_cp M6 (g1 + 5) (g + 5) (0 : Int32).toNatClampNeg (0 : Int32).toNatClampNeg (8 : Int32).toNatClampNeg) fun M7 =>
  lt_x (fw_cp M7 (g1 + 6) (g + 6) (0 : Int32).toNatClampNeg (0 : Int32).toNatClampNeg (8 : Int32).toNatClampNeg) fun M8 =>
  some M8
  else none
set_option maxHeartbeats 4000000 in
set_option maxRecDepth 100000 in
theorem cm_X6_copyFrom {l : Launch} {X : fw_X} {M : fw_M} {g : Nat} {g1 : Nat} (hg : is6 g) (h1 : is6 g1) {o : fw_M} (hF : F_X6_copyFrom M g g1 = some o) : ct_v l X yX6_copyFrom cX6_copyFrom 2 none ({ frames := 1, cells := 0, slots := 0, locals := 60 } : Room) M [.ref (fw_ad X g), .ref (fw_ad X g1)] (.inl 0, o) := by
  refine fw_open rfl (Nat.le_of_ble_eq_true rfl) (fun p e s m below meth c ls C hr hlk hnm hex hl B => ?_)
  have C : fr_C X p c cX6_copyFrom 2 RX6 s m ([.ref (fw_ad X g), .ref (fw_ad X g1)] : List Value).toArray := C
  have hx := C.1.1
  have hb := C.1.2.1
  have hl : lv_has ls 2 [(0, .ref (fw_ad X g)), (1, .ref (fw_ad X g1))] := hl
  unfold F_X6_copyFrom at hF
  refine lv_aload_n hx hb dX6_copyFrom_0 rfl (lv_at hl 0 rfl) ?_
  refine lv_aload_n hx hb dX6_copyFrom_1 rfl (lv_at hl 1 rfl) ?_
  refine gf_X6_30 C B h1 dX6_copyFrom_2 ?_
  refine pf_X6_30 C B hg dX6_copyFrom_5 (fun H locs B => ?_)
  obtain ⟨M1, eM1, hF⟩ := lt_e hF
  rw [← eM1] at B
  refine lv_aload_n hx hb dX6_copyFrom_8 rfl (lv_at hl 1 rfl) ?_
  refine gf_X6_9 C B h1 dX6_copyFrom_9 ?_
  refine lv_iconst (v := 0) hx hb dX6_copyFrom_12 (by decide) ?_
  refine lv_aload_n hx hb dX6_copyFrom_13 rfl (lv_at hl 0 rfl) ?_
  refine gf_X6_9 C B hg dX6_copyFrom_14 ?_
  refine lv_iconst (v := 0) hx hb dX6_copyFrom_17 (by decide) ?_
  refine lv_bipush (v := 8) hx hb dX6_copyFrom_18 (by decide) ?_
  obtain ⟨c2, hF⟩ := of_g hF
  refine fr_copy C B (ar_6_1 h1) (ar_6_1 hg) wm_X6_34 wn_cp wt_cp wi_sys hl.1 c2 (Nat.le_of_ble_eq_true rfl) (Nat.le_of_ble_eq_true rfl) dX6_copyFrom_20 (fun H locs B => ?_)
  obtain ⟨M3, eM3, hF⟩ := lt_e hF
  rw [← eM3] at B
  refine lv_aload_n hx hb dX6_copyFrom_23 rfl (lv_at hl 1 rfl) ?_
  refine gf_X6_15 C B h1 dX6_copyFrom_24 ?_
  refine lv_iconst (v := 0) hx hb dX6_copyFrom_27 (by decide) ?_
  refine lv_aload_n hx hb dX6_copyFrom_28 rfl (lv_at hl 0 rfl) ?_
  refine gf_X6_15 C B hg dX6_copyFrom_29 ?_
  refine lv_iconst (v := 0) hx hb dX6_copyFrom_32 (by decide) ?_
  refine lv_bipush (v := 8) hx hb dX6_copyFrom_33 (by decide) ?_
  refine fr_copy C B (ar_6_2 h1) (ar_6_2 hg) wm_X6_34 wn_cp wt_cp wi_sys hl.1 c2 (Nat.le_of_ble_eq_true rfl) (Nat.le_of_ble_eq_true rfl) dX6_copyFrom_35 (fun H locs B => ?_)
  obtain ⟨M4, eM4, hF⟩ := lt_e hF
  rw [← eM4] at B
  refine lv_aload_n hx hb dX6_copyFrom_38 rfl (lv_at hl 1 rfl) ?_
  refine gf_X6_18 C B h1 dX6_copyFrom_39 ?_
  refine lv_iconst (v := 0) hx hb dX6_copyFrom_42 (by decide) ?_
  refine lv_aload_n hx hb dX6_copyFrom_43 rfl (lv_at hl 0 rfl) ?_
  refine gf_X6_18 C B hg dX6_copyFrom_44 ?_
  refine lv_iconst (v := 0) hx hb dX6_copyFrom_47 (by decide) ?_
  refine lv_bipush (v := 8) hx hb dX6_copyFrom_48 (by decide) ?_
  refine fr_copy C B (ar_6_3 h1) (ar_6_3 hg) wm_X6_34 wn_cp wt_cp wi_sys hl.1 c2 (Nat.le_of_ble_eq_true rfl) (Nat.le_of_ble_eq_true rfl) dX6_copyFrom_50 (fun H locs B => ?_)
  obtain ⟨M5, eM5, hF⟩ := lt_e hF
  rw [← eM5] at B
  refine lv_aload_n hx hb dX6_copyFrom_53 rfl (lv_at hl 1 rfl) ?_
  refine gf_X6_21 C B h1 dX6_copyFrom_54 ?_
  refine lv_iconst (v := 0) hx hb dX6_copyFrom_57 (by decide) ?_
  refine lv_aload_n hx hb dX6_copyFrom_58 rfl (lv_at hl 0 rfl) ?_
  refine gf_X6_21 C B hg dX6_copyFrom_59 ?_
  refine lv_iconst (v := 0) hx hb dX6_copyFrom_62 (by decide) ?_
  refine lv_bipush (v := 8) hx hb dX6_copyFrom_63 (by decide) ?_
  refine fr_copy C B (ar_6_4 h1) (ar_6_4 hg) wm_X6_34 wn_cp wt_cp wi_sys hl.1 c2 (Nat.le_of_ble_eq_true rfl) (Nat.le_of_ble_eq_true rfl) dX6_copyFrom_65 (fun H locs B => ?_)
  obtain ⟨M6, eM6, hF⟩ := lt_e hF
  rw [← eM6] at B
  refine lv_aload_n hx hb dX6_copyFrom_68 rfl (lv_at hl 1 rfl) ?_
  refine gf_X6_24 C B h1 dX6_copyFrom_69 ?_
  refine lv_iconst (v := 0) hx hb dX6_copyFrom_72 (by decide) ?_
  refine lv_aload_n hx hb dX6_copyFrom_73 rfl (lv_at hl 0 rfl) ?_
  refine gf_X6_24 C B hg dX6_copyFrom_74 ?_
  refine lv_iconst (v := 0) hx hb dX6_copyFrom_77 (by decide) ?_
  refine lv_bipush (v := 8) hx hb dX6_copyFrom_78 (by decide) ?_
  refine fr_copy C B (ar_6_5 h1) (ar_6_5 hg) wm_X6_34 wn_cp wt_cp wi_sys hl.1 c2 (Nat.le_of_ble_eq_true rfl) (Nat.le_of_ble_eq_true rfl) dX6_copyFrom_80 (fun H locs B => ?_)
  obtain ⟨M7, eM7, hF⟩ := lt_e hF
  rw [← eM7] at B
  refine lv_aload_n hx hb dX6_copyFrom_83 rfl (lv_at hl 1 rfl) ?_
  refine gf_X6_27 C B h1 dX6_copyFrom_84 ?_
  refine lv_iconst (v := 0) hx hb dX6_copyFrom_87 (by decide) ?_
  refine lv_aload_n hx hb dX6_copyFrom_88 rfl (lv_at hl 0 rfl) ?_
  refine gf_X6_27 C B hg dX6_copyFrom_89 ?_
  refine lv_iconst (v := 0) hx hb dX6_copyFrom_92 (by decide) ?_
  refine lv_bipush (v := 8) hx hb dX6_copyFrom_93 (by decide) ?_
  refine fr_copy C B (ar_6_6 h1) (ar_6_6 hg) wm_X6_34 wn_cp wt_cp wi_sys hl.1 c2 (Nat.le_of_ble_eq_true rfl) (Nat.le_of_ble_eq_true rfl) dX6_copyFrom_95 (fun H locs B => ?_)
  obtain ⟨M8, eM8, hF⟩ := lt_e hF
  rw [← eM8] at B
  exact fr_vret C B hr hlk (by rw [← Option.some.inj hF]) (Nat.le_of_ble_eq_true rfl) (Nat.le_of_ble_eq_true rfl) dX6_copyFrom_98
def F_X6_hasPassenger (M : fw_M) (g : Nat) (a1 : Int32) : Option (Int32) :=
  if a1 < 0 then
    some 0
  else
    if (M g 0) ≤ a1 then
      some 0
    else
      some 1
set_option maxHeartbeats 4000000 in
set_option maxRecDepth 100000 in
theorem cm_X6_hasPassenger {l : Launch} {X : fw_X} {M : fw_M} {g : Nat} {a1 : Int32} (hg : is6 g) {o : Int32} (hF : F_X6_hasPassenger M g a1 = some o) : ct_i l X yX6_hasPassenger cX6_hasPassenger 2 (some .boolean) ({ frames := 0, cells := 0, slots := 0, locals := 0 } : Room) M [.ref (fw_ad X g), .int a1] (.inl o, M) := by
  refine fw_open rfl (Nat.le_of_ble_eq_true rfl) (fun p e s m below meth c ls C hr hlk hnm hex hl B => ?_)
  have C : fr_C X p c cX6_hasPassenger 2 RX6 s m ([.ref (fw_ad X g), .int a1] : List Value).toArray := C
  have hx := C.1.1
  have hb := C.1.2.1
  have hl : lv_has ls 2 [(0, .ref (fw_ad X g)), (1, .int a1)] := hl
  unfold F_X6_hasPassenger at hF
  refine lv_iload_n hx hb dX6_hasPassenger_0 rfl (lv_at hl 1 rfl) ?_
  refine lv_if_lt (tgt := 16) hx hb dX6_hasPassenger_1 (by decide) (fun c1 => ?_) (fun c1 => ?_)
  · have hF := it_t hF c1
    refine lv_iconst (v := 0) hx hb dX6_hasPassenger_16 (by decide) ?_
    exact fr_iret C B hr rfl hlk (by rw [← Option.some.inj hF]) (Nat.le_of_ble_eq_true rfl) (Nat.le_of_ble_eq_true rfl) dX6_hasPassenger_17
  · have hF := it_f hF c1
    refine lv_iload_n hx hb dX6_hasPassenger_4 rfl (lv_at hl 1 rfl) ?_
    refine lv_aload_n hx hb dX6_hasPassenger_5 rfl (lv_at hl 0 rfl) ?_
    refine gf_X6_30 C B hg dX6_hasPassenger_6 ?_
    refine lv_icmp_ge (tgt := 16) hx hb dX6_hasPassenger_9 (by decide) (fun c2 => ?_) (fun c2 => ?_)
    · have hF := it_t hF c2
      refine lv_iconst (v := 0) hx hb dX6_hasPassenger_16 (by decide) ?_
      exact fr_iret C B hr rfl hlk (by rw [← Option.some.inj hF]) (Nat.le_of_ble_eq_true rfl) (Nat.le_of_ble_eq_true rfl) dX6_hasPassenger_17
    · have hF := it_f hF c2
      refine lv_iconst (v := 1) hx hb dX6_hasPassenger_12 (by decide) ?_
      refine lv_goto (tgt := 17) hx hb dX6_hasPassenger_13 (by decide) ?_
      exact fr_iret C B hr rfl hlk (by rw [← Option.some.inj hF]) (Nat.le_of_ble_eq_true rfl) (Nat.le_of_ble_eq_true rfl) dX6_hasPassenger_17
def F_X6_hasZone (M : fw_M) (g : Nat) (a1 : Int32) (a2 : Int32) : Option (Int32) :=
  if ix_i a1 8 then
  if ((fw_ri M (g + 4) a1) &&& (1 <<< (a2 &&& 31))) = 0 then
    some 0
  else
    some 1
  else none
set_option maxHeartbeats 4000000 in
set_option maxRecDepth 100000 in
theorem cm_X6_hasZone {l : Launch} {X : fw_X} {M : fw_M} {g : Nat} {a1 : Int32} {a2 : Int32} (hg : is6 g) {o : Int32} (hF : F_X6_hasZone M g a1 a2 = some o) : ct_i l X yX6_hasZone cX6_hasZone 3 (some .boolean) ({ frames := 0, cells := 0, slots := 0, locals := 0 } : Room) M [.ref (fw_ad X g), .int a1, .int a2] (.inl o, M) := by
  refine fw_open rfl (Nat.le_of_ble_eq_true rfl) (fun p e s m below meth c ls C hr hlk hnm hex hl B => ?_)
  have C : fr_C X p c cX6_hasZone 3 RX6 s m ([.ref (fw_ad X g), .int a1, .int a2] : List Value).toArray := C
  have hx := C.1.1
  have hb := C.1.2.1
  have hl : lv_has ls 3 [(0, .ref (fw_ad X g)), (1, .int a1), (2, .int a2)] := hl
  unfold F_X6_hasZone at hF
  refine lv_aload_n hx hb dX6_hasZone_0 rfl (lv_at hl 0 rfl) ?_
  refine gf_X6_21 C B hg dX6_hasZone_1 ?_
  refine lv_iload_n hx hb dX6_hasZone_4 rfl (lv_at hl 1 rfl) ?_
  obtain ⟨c1, hF⟩ := of_g hF
  refine fr_ia C B (ar_6_4 hg) c1 dX6_hasZone_5 ?_
  refine lv_iconst (v := 1) hx hb dX6_hasZone_6 (by decide) ?_
  refine lv_iload_n hx hb dX6_hasZone_7 rfl (lv_at hl 2 rfl) ?_
  refine lv_ishl hx hb dX6_hasZone_8 ?_
  refine lv_iand hx hb dX6_hasZone_9 ?_
  refine lv_if_eq (tgt := 17) hx hb dX6_hasZone_10 (by decide) (fun c2 => ?_) (fun c2 => ?_)
  · have hF := it_t hF c2
    refine lv_iconst (v := 0) hx hb dX6_hasZone_17 (by decide) ?_
    exact fr_iret C B hr rfl hlk (by rw [← Option.some.inj hF]) (Nat.le_of_ble_eq_true rfl) (Nat.le_of_ble_eq_true rfl) dX6_hasZone_18
  · have hF := it_f hF c2
    refine lv_iconst (v := 1) hx hb dX6_hasZone_13 (by decide) ?_
    refine lv_goto (tgt := 18) hx hb dX6_hasZone_14 (by decide) ?_
    exact fr_iret C B hr rfl hlk (by rw [← Option.some.inj hF]) (Nat.le_of_ble_eq_true rfl) (Nat.le_of_ble_eq_true rfl) dX6_hasZone_18
def F_X6_countOn_4 (M : fw_M) (g : Nat) (a1 : Int32)  : Nat → Int32 → Int32 → Option (Int32)
  | 0, _, _ => none
  | n + 1, x2, x3 =>
    if (M g 0) ≤ x3 then
      some x2
    else
      if ix_i x3 8 then
      if ¬ (fw_ri M (g + 2) x3) = a1 then
        F_X6_countOn_4 M g a1 n x2 (x3 + 1)
      else
        F_X6_countOn_4 M g a1 n (x2 + 1) (x3 + 1)
      else none
def F_X6_countOn (M : fw_M) (g : Nat) (a1 : Int32) : Option (Int32) :=
  F_X6_countOn_4 M g a1 64 0 0
set_option maxHeartbeats 4000000 in
set_option maxRecDepth 100000 in
theorem cm_X6_countOn {l : Launch} {X : fw_X} {M : fw_M} {g : Nat} {a1 : Int32} (hg : is6 g) {o : Int32} (hF : F_X6_countOn M g a1 = some o) : ct_i l X yX6_countOn cX6_countOn 4 (some .int) ({ frames := 0, cells := 0, slots := 0, locals := 0 } : Room) M [.ref (fw_ad X g), .int a1] (.inl o, M) := by
  refine fw_open rfl (Nat.le_of_ble_eq_true rfl) (fun p e s m below meth c ls C hr hlk hnm hex hl B => ?_)
  have C : fr_C X p c cX6_countOn 4 RX6 s m ([.ref (fw_ad X g), .int a1] : List Value).toArray := C
  have hx := C.1.1
  have hb := C.1.2.1
  have hl : lv_has ls 4 [(0, .ref (fw_ad X g)), (1, .int a1)] := hl
  have hJ4 : ∀ (n : Nat), ∀ (x2 : Int32) (x3 : Int32) (H : Heap) (locs : List Loc) (ls : Array Slot), F_X6_countOn_4 M g a1 n x2 x3 = some o → fr_H X s M H locs → lv_has ls 4 [(0, .ref (fw_ad X g)), (1, .int a1), (2, .int x2), (3, .int x3)] → W p l e ({ frames := 0, cells := 0, slots := 0, locals := 0 } : Room) s m ([.ref (fw_ad X g), .int a1] : List Value).toArray below meth c H locs 0 0 (vx_MQ below (fw_Qi X (.inl o, M)) (fw_Qx X (.inl o, M)) ([.ref (fw_ad X g), .int a1] : List Value).toArray s 0 0 (fw_A X)) (F0 m 4 ls []) := by
    intro n
    induction n with
    | zero =>
      intro x2 x3 H locs ls hF B hl
      exact absurd hF (by simp [F_X6_countOn_4])
    | succ n ih =>
      intro x2 x3 H locs ls hF B hl
      rw [F_X6_countOn_4] at hF
      refine lv_iload_n hx hb dX6_countOn_4 rfl (lv_at hl 3 rfl) ?_
      refine lv_aload_n hx hb dX6_countOn_5 rfl (lv_at hl 0 rfl) ?_
      refine gf_X6_30 C B hg dX6_countOn_6 ?_
      refine lv_icmp_ge (tgt := 31) hx hb dX6_countOn_9 (by decide) (fun c1 => ?_) (fun c1 => ?_)
      · have hF := it_t hF c1
        refine lv_iload_n hx hb dX6_countOn_31 rfl (lv_at hl 2 rfl) ?_
        exact fr_iret C B hr rfl hlk (by rw [← Option.some.inj hF]) (Nat.le_of_ble_eq_true rfl) (Nat.le_of_ble_eq_true rfl) dX6_countOn_32
      · have hF := it_f hF c1
        refine lv_aload_n hx hb dX6_countOn_12 rfl (lv_at hl 0 rfl) ?_
        refine gf_X6_15 C B hg dX6_countOn_13 ?_
        refine lv_iload_n hx hb dX6_countOn_16 rfl (lv_at hl 3 rfl) ?_
        obtain ⟨c2, hF⟩ := of_g hF
        refine fr_ia C B (ar_6_2 hg) c2 dX6_countOn_17 ?_
        refine lv_iload_n hx hb dX6_countOn_18 rfl (lv_at hl 1 rfl) ?_
        refine lv_icmp_ne (tgt := 25) hx hb dX6_countOn_19 (by decide) (fun c3 => ?_) (fun c3 => ?_)
        · have hF := it_t hF c3
          refine lv_iinc (v := (x3 + 1)) (lv' := [(3, .int (x3 + 1)), (0, .ref (fw_ad X g)), (1, .int a1), (2, .int x2)]) hx hb dX6_countOn_25 hl (k := 3) rfl rfl (by decide) rfl (fun ls hl => ?_)
          refine lv_goto (tgt := 4) hx hb dX6_countOn_28 (by decide) ?_
          exact ih x2 (x3 + 1) _ _ _ hF B (lv_sub hl [1, 2, 3, 0] rfl)
        · have hF := it_f hF (not_not_intro c3)
          refine lv_iinc (v := (x2 + 1)) (lv' := [(2, .int (x2 + 1)), (0, .ref (fw_ad X g)), (1, .int a1), (3, .int x3)]) hx hb dX6_countOn_22 hl (k := 2) rfl rfl (by decide) rfl (fun ls hl => ?_)
          refine lv_iinc (v := (x3 + 1)) (lv' := [(3, .int (x3 + 1)), (2, .int (x2 + 1)), (0, .ref (fw_ad X g)), (1, .int a1)]) hx hb dX6_countOn_25 hl (k := 3) rfl rfl (by decide) rfl (fun ls hl => ?_)
          refine lv_goto (tgt := 4) hx hb dX6_countOn_28 (by decide) ?_
          exact ih (x2 + 1) (x3 + 1) _ _ _ hF B (lv_sub hl [2, 3, 1, 0] rfl)
  unfold F_X6_countOn at hF
  refine lv_iconst (v := 0) hx hb dX6_countOn_0 (by decide) ?_
  refine lv_istore_n (lv' := [(2, .int 0), (0, .ref (fw_ad X g)), (1, .int a1)]) hx hb dX6_countOn_1 rfl hl (by decide) rfl (fun ls hl => ?_)
  refine lv_iconst (v := 0) hx hb dX6_countOn_2 (by decide) ?_
  refine lv_istore_n (lv' := [(3, .int 0), (2, .int 0), (0, .ref (fw_ad X g)), (1, .int a1)]) hx hb dX6_countOn_3 rfl hl (by decide) rfl (fun ls hl => ?_)
  exact hJ4 64 0 0 _ _ _ hF B (lv_sub hl [2, 3, 1, 0] rfl)
def F_X6_putPassenger (M : fw_M) (g : Nat) (a1 : Int32) : Option (Int32 × fw_M) :=
  if ix_i (M g 0) 8 then
  lt_x (fw_wi M (g + 1) (M g 0) a1) fun M2 =>
  lt_x (fw_wi M2 (g + 2) (M g 0) (-1)) fun M3 =>
  lt_x (fw_wi M3 (g + 3) (M g 0) 0) fun M4 =>
  lt_x (fw_wi M4 (g + 4) (M g 0) 0) fun M5 =>
  lt_x (fw_wi M5 (g + 5) (M g 0) (-1)) fun M6 =>
  lt_x (fw_wi M6 (g + 6) (M g 0) 0) fun M7 =>
  lt_x (fw_up M7 g 0 ((M7 g 0) + 1)) fun M8 =>
  some ((M g 0), M8)
  else none
set_option maxHeartbeats 4000000 in
set_option maxRecDepth 100000 in
theorem cm_X6_putPassenger {l : Launch} {X : fw_X} {M : fw_M} {g : Nat} {a1 : Int32} (hg : is6 g) {o : Int32 × fw_M} (hF : F_X6_putPassenger M g a1 = some o) : ct_i l X yX6_putPassenger cX6_putPassenger 3 (some .int) ({ frames := 0, cells := 0, slots := 0, locals := 0 } : Room) M [.ref (fw_ad X g), .int a1] (.inl o.1, o.2) := by
  refine fw_open rfl (Nat.le_of_ble_eq_true rfl) (fun p e s m below meth c ls C hr hlk hnm hex hl B => ?_)
  have C : fr_C X p c cX6_putPassenger 3 RX6 s m ([.ref (fw_ad X g), .int a1] : List Value).toArray := C
  have hx := C.1.1
  have hb := C.1.2.1
  have hl : lv_has ls 3 [(0, .ref (fw_ad X g)), (1, .int a1)] := hl
  unfold F_X6_putPassenger at hF
  refine lv_aload_n hx hb dX6_putPassenger_0 rfl (lv_at hl 0 rfl) ?_
  refine gf_X6_30 C B hg dX6_putPassenger_1 ?_
  refine lv_istore_n (lv' := [(2, .int (M g 0)), (0, .ref (fw_ad X g)), (1, .int a1)]) hx hb dX6_putPassenger_4 rfl hl (by decide) rfl (fun ls hl => ?_)
  refine lv_aload_n hx hb dX6_putPassenger_5 rfl (lv_at hl 1 rfl) ?_
  refine gf_X6_9 C B hg dX6_putPassenger_6 ?_
  refine lv_iload_n hx hb dX6_putPassenger_9 rfl (lv_at hl 0 rfl) ?_
  refine lv_iload_n hx hb dX6_putPassenger_10 rfl (lv_at hl 2 rfl) ?_
  obtain ⟨c1, hF⟩ := of_g hF
  refine fr_is C B (ar_6_1 hg) c1 dX6_putPassenger_11 (fun H locs B => ?_)
  obtain ⟨M2, eM2, hF⟩ := lt_e hF
  rw [← eM2] at B
  refine lv_aload_n hx hb dX6_putPassenger_12 rfl (lv_at hl 1 rfl) ?_
  refine gf_X6_15 C B hg dX6_putPassenger_13 ?_
  refine lv_iload_n hx hb dX6_putPassenger_16 rfl (lv_at hl 0 rfl) ?_
  refine lv_iconst (v := (-1)) hx hb dX6_putPassenger_17 (by decide) ?_
  refine fr_is C B (ar_6_2 hg) c1 dX6_putPassenger_18 (fun H locs B => ?_)
  obtain ⟨M3, eM3, hF⟩ := lt_e hF
  rw [← eM3] at B
  refine lv_aload_n hx hb dX6_putPassenger_19 rfl (lv_at hl 1 rfl) ?_
  refine gf_X6_18 C B hg dX6_putPassenger_20 ?_
  refine lv_iload_n hx hb dX6_putPassenger_23 rfl (lv_at hl 0 rfl) ?_
  refine lv_iconst (v := 0) hx hb dX6_putPassenger_24 (by decide) ?_
  refine fr_is C B (ar_6_3 hg) c1 dX6_putPassenger_25 (fun H locs B => ?_)
  obtain ⟨M4, eM4, hF⟩ := lt_e hF
  rw [← eM4] at B
  refine lv_aload_n hx hb dX6_putPassenger_26 rfl (lv_at hl 1 rfl) ?_
  refine gf_X6_21 C B hg dX6_putPassenger_27 ?_
  refine lv_iload_n hx hb dX6_putPassenger_30 rfl (lv_at hl 0 rfl) ?_
  refine lv_iconst (v := 0) hx hb dX6_putPassenger_31 (by decide) ?_
  refine fr_is C B (ar_6_4 hg) c1 dX6_putPassenger_32 (fun H locs B => ?_)
  obtain ⟨M5, eM5, hF⟩ := lt_e hF
  rw [← eM5] at B
  refine lv_aload_n hx hb dX6_putPassenger_33 rfl (lv_at hl 1 rfl) ?_
  refine gf_X6_24 C B hg dX6_putPassenger_34 ?_
  refine lv_iload_n hx hb dX6_putPassenger_37 rfl (lv_at hl 0 rfl) ?_
  refine lv_iconst (v := (-1)) hx hb dX6_putPassenger_38 (by decide) ?_
  refine fr_is C B (ar_6_5 hg) c1 dX6_putPassenger_39 (fun H locs B => ?_)
  obtain ⟨M6, eM6, hF⟩ := lt_e hF
  rw [← eM6] at B
  refine lv_aload_n hx hb dX6_putPassenger_40 rfl (lv_at hl 1 rfl) ?_
  refine gf_X6_27 C B hg dX6_putPassenger_41 ?_
  refine lv_iload_n hx hb dX6_putPassenger_44 rfl (lv_at hl 0 rfl) ?_
  refine lv_iconst (v := 0) hx hb dX6_putPassenger_45 (by decide) ?_
  refine fr_is C B (ar_6_6 hg) c1 dX6_putPassenger_46 (fun H locs B => ?_)
  obtain ⟨M7, eM7, hF⟩ := lt_e hF
  rw [← eM7] at B
  refine lv_aload_n hx hb dX6_putPassenger_47 rfl (lv_at hl 1 rfl) ?_
  refine lv_dup hx hb dX6_putPassenger_48 rfl ?_
  refine gf_X6_30 C B hg dX6_putPassenger_49 ?_
  refine lv_iconst (v := 1) hx hb dX6_putPassenger_52 (by decide) ?_
  refine lv_iadd hx hb dX6_putPassenger_53 ?_
  refine pf_X6_30 C B hg dX6_putPassenger_54 (fun H locs B => ?_)
  obtain ⟨M8, eM8, hF⟩ := lt_e hF
  rw [← eM8] at B
  refine lv_iload_n hx hb dX6_putPassenger_57 rfl (lv_at hl 0 rfl) ?_
  exact fr_iret C B hr rfl hlk (by rw [← Option.some.inj hF]) (Nat.le_of_ble_eq_true rfl) (Nat.le_of_ble_eq_true rfl) dX6_putPassenger_58
def F_X6_addToTicket (M : fw_M) (g : Nat) (a1 : Int32) (a2 : Int32) (a3 : Int32) : Option (Int32 × fw_M) :=
  if ix_i a1 8 then
  lt_x (fw_wi M (g + 4) a1 ((fw_ri M (g + 4) a1) ||| (1 <<< (a2 &&& 31)))) fun M2 =>
  lt_x (fw_wi M2 (g + 3) a1 ((fw_ri M2 (g + 3) a1) + a3)) fun M3 =>
  some ((fw_ri M3 (g + 3) a1), M3)
  else none
set_option maxHeartbeats 4000000 in
set_option maxRecDepth 100000 in
theorem cm_X6_addToTicket {l : Launch} {X : fw_X} {M : fw_M} {g : Nat} {a1 : Int32} {a2 : Int32} {a3 : Int32} (hg : is6 g) {o : Int32 × fw_M} (hF : F_X6_addToTicket M g a1 a2 a3 = some o) : ct_i l X yX6_addToTicket cX6_addToTicket 4 (some .int) ({ frames := 0, cells := 0, slots := 0, locals := 0 } : Room) M [.ref (fw_ad X g), .int a1, .int a2, .int a3] (.inl o.1, o.2) := by
  refine fw_open rfl (Nat.le_of_ble_eq_true rfl) (fun p e s m below meth c ls C hr hlk hnm hex hl B => ?_)
  have C : fr_C X p c cX6_addToTicket 4 RX6 s m ([.ref (fw_ad X g), .int a1, .int a2, .int a3] : List Value).toArray := C
  have hx := C.1.1
  have hb := C.1.2.1
  have hl : lv_has ls 4 [(0, .ref (fw_ad X g)), (1, .int a1), (2, .int a2), (3, .int a3)] := hl
  unfold F_X6_addToTicket at hF
  refine lv_aload_n hx hb dX6_addToTicket_0 rfl (lv_at hl 0 rfl) ?_
  refine gf_X6_21 C B hg dX6_addToTicket_1 ?_
  refine lv_iload_n hx hb dX6_addToTicket_4 rfl (lv_at hl 1 rfl) ?_
  refine lv_dup2_11 hx hb dX6_addToTicket_5 rfl rfl ?_
  obtain ⟨c1, hF⟩ := of_g hF
  refine fr_ia C B (ar_6_4 hg) c1 dX6_addToTicket_6 ?_
  refine lv_iconst (v := 1) hx hb dX6_addToTicket_7 (by decide) ?_
  refine lv_iload_n hx hb dX6_addToTicket_8 rfl (lv_at hl 2 rfl) ?_
  refine lv_ishl hx hb dX6_addToTicket_9 ?_
  refine lv_ior hx hb dX6_addToTicket_10 ?_
  refine fr_is C B (ar_6_4 hg) c1 dX6_addToTicket_11 (fun H locs B => ?_)
  obtain ⟨M2, eM2, hF⟩ := lt_e hF
  rw [← eM2] at B
  refine lv_aload_n hx hb dX6_addToTicket_12 rfl (lv_at hl 0 rfl) ?_
  refine gf_X6_18 C B hg dX6_addToTicket_13 ?_
  refine lv_iload_n hx hb dX6_addToTicket_16 rfl (lv_at hl 1 rfl) ?_
  refine lv_dup2_11 hx hb dX6_addToTicket_17 rfl rfl ?_
  refine fr_ia C B (ar_6_3 hg) c1 dX6_addToTicket_18 ?_
  refine lv_iload_n hx hb dX6_addToTicket_19 rfl (lv_at hl 3 rfl) ?_
  refine lv_iadd hx hb dX6_addToTicket_20 ?_
  refine fr_is C B (ar_6_3 hg) c1 dX6_addToTicket_21 (fun H locs B => ?_)
  obtain ⟨M3, eM3, hF⟩ := lt_e hF
  rw [← eM3] at B
  refine lv_aload_n hx hb dX6_addToTicket_22 rfl (lv_at hl 0 rfl) ?_
  refine gf_X6_18 C B hg dX6_addToTicket_23 ?_
  refine lv_iload_n hx hb dX6_addToTicket_26 rfl (lv_at hl 1 rfl) ?_
  refine fr_ia C B (ar_6_3 hg) c1 dX6_addToTicket_27 ?_
  exact fr_iret C B hr rfl hlk (by rw [← Option.some.inj hF]) (Nat.le_of_ble_eq_true rfl) (Nat.le_of_ble_eq_true rfl) dX6_addToTicket_28
