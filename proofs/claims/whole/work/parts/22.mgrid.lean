def F_X3_copyFrom_61 (g : Nat) (g1 : Nat)  : Nat → Int32 → fw_M → Option (fw_M)
  | 0, _, _ => none
  | n + 1, x2, M =>
    if 5 ≤ x2 then
      some M
    else
      if ix_i x2 5 then
      if (¬ (0 : Int32) < 0 ∧ ¬ (0 : Int32) < 0 ∧ ¬ (6 : Int32) < 0 ∧ (0 : Int32).toNatClampNeg + (6 : Int32).toNatClampNeg ≤ 6 ∧ (0 : Int32).toNatClampNeg + (6 : Int32).toNatClampNeg ≤ 6) then
      lt_x (fw_cp M (g1 + 4 + x2.toNatClampNeg) (g + 4 + x2.toNatClampNeg) (0 : Int32).toNatClampNeg (0 : Int32).toNatClampNeg (6 : Int32).toNatClampNeg) fun M4 =>
      F_X3_copyFrom_61 g g1 n (x2 + 1) M4
      else none
      else none
def F_X3_copyFrom (M : fw_M) (g : Nat) (g1 : Nat) : Option (fw_M) :=
  lt_x (fw_up M g 0 (M g1 0)) fun M5 =>
  lt_x (fw_up M5 g 1 (M5 g1 1)) fun M6 =>
  if (¬ (0 : Int32) < 0 ∧ ¬ (0 : Int32) < 0 ∧ ¬ (10 : Int32) < 0 ∧ (0 : Int32).toNatClampNeg + (10 : Int32).toNatClampNeg ≤ 10 ∧ (0 : Int32).toNatClampNeg + (10 : Int32).toNatClampNeg ≤ 10) then
  lt_x (fw_cp M6 (g1 + 1) (g + 1) (0 : Int32).toNatClampNeg (0 : Int32).toNatClampNeg (10 : Int32).toNatClampNeg) fun M8 =>
  if (¬ (0 : Int32) < 0 ∧ ¬ (0 : Int32) < 0 ∧ ¬ (5 : Int32) < 0 ∧ (0 : Int32).toNatClampNeg + (5 : Int32).toNatClampNeg ≤ 5 ∧ (0 : Int32).toNatClampNeg + (5 : Int32).toNatClampNeg ≤ 5) then
  lt_x (fw_cp M8 (g1 + 2) (g + 2) (0 : Int32).toNatClampNeg (0 : Int32).toNatClampNeg (5 : Int32).toNatClampNeg) fun M10 =>
  lt_x (fw_cp M10 (g1 + 9) (g + 9) (0 : Int32).toNatClampNeg (0 : Int32).toNatClampNeg (5 : Int32).toNatClampNeg) fun M11 =>
  F_X3_copyFrom_61 g g1 64 0 M11
  else none
  else none
set_option maxHeartbeats 4000000 in
set_option maxRecDepth 100000 in
theorem cm_X3_copyFrom {l : Launch} {X : fw_X} {M : fw_M} {g : Nat} {g1 : Nat} (hg : is3 g) (h1 : is3 g1) {o : fw_M} (hF : F_X3_copyFrom M g g1 = some o) : ct_v l X yX3_copyFrom cX3_copyFrom 3 none ({ frames := 1, cells := 0, slots := 0, locals := 60 } : Room) M [.ref (fw_ad X g), .ref (fw_ad X g1)] (.inl 0, o) := by
  refine fw_open rfl (Nat.le_of_ble_eq_true rfl) (fun p e s m below meth c ls C hr hlk hnm hex hl B => ?_)
  have C : fr_C X p c cX3_copyFrom 3 RX3 s m ([.ref (fw_ad X g), .ref (fw_ad X g1)] : List Value).toArray := C
  have hx := C.1.1
  have hb := C.1.2.1
  have hl : lv_has ls 3 [(0, .ref (fw_ad X g)), (1, .ref (fw_ad X g1))] := hl
  have hJ61 : ∀ (n : Nat), ∀ (x2 : Int32) (M : fw_M) (H : Heap) (locs : List Loc) (ls : Array Slot), F_X3_copyFrom_61 g g1 n x2 M = some o → fr_H X s M H locs → lv_has ls 3 [(0, .ref (fw_ad X g)), (1, .ref (fw_ad X g1)), (2, .int x2)] → W p l e ({ frames := 1, cells := 0, slots := 0, locals := 60 } : Room) s m ([.ref (fw_ad X g), .ref (fw_ad X g1)] : List Value).toArray below meth c H locs 0 0 (vx_MQ below (fw_Qv X (.inl 0, o)) (fw_Qx X (.inl 0, o)) ([.ref (fw_ad X g), .ref (fw_ad X g1)] : List Value).toArray s 0 0 (fw_A X)) (F0 m 61 ls []) := by
    intro n
    induction n with
    | zero =>
      intro x2 M H locs ls hF B hl
      exact absurd hF (by simp [F_X3_copyFrom_61])
    | succ n ih =>
      intro x2 M H locs ls hF B hl
      rw [F_X3_copyFrom_61] at hF
      refine lv_iload_n hx hb dX3_copyFrom_61 rfl (lv_at hl 2 rfl) ?_
      refine lv_iconst (v := 5) hx hb dX3_copyFrom_62 (by decide) ?_
      refine lv_icmp_ge (tgt := 91) hx hb dX3_copyFrom_63 (by decide) (fun c1 => ?_) (fun c1 => ?_)
      · have hF := it_t hF c1
        exact fr_vret C B hr hlk (by rw [← Option.some.inj hF]) (Nat.le_of_ble_eq_true rfl) (Nat.le_of_ble_eq_true rfl) dX3_copyFrom_91
      · have hF := it_f hF c1
        refine lv_aload_n hx hb dX3_copyFrom_66 rfl (lv_at hl 1 rfl) ?_
        refine gf_X3_20 C B h1 dX3_copyFrom_67 ?_
        refine lv_iload_n hx hb dX3_copyFrom_70 rfl (lv_at hl 2 rfl) ?_
        obtain ⟨c2, hF⟩ := of_g hF
        refine fr_aa C B (aq_3 h1) c2 dX3_copyFrom_71 ?_
        refine lv_iconst (v := 0) hx hb dX3_copyFrom_72 (by decide) ?_
        refine lv_aload_n hx hb dX3_copyFrom_73 rfl (lv_at hl 0 rfl) ?_
        refine gf_X3_20 C B hg dX3_copyFrom_74 ?_
        refine lv_iload_n hx hb dX3_copyFrom_77 rfl (lv_at hl 2 rfl) ?_
        refine fr_aa C B (aq_3 hg) c2 dX3_copyFrom_78 ?_
        refine lv_iconst (v := 0) hx hb dX3_copyFrom_79 (by decide) ?_
        refine lv_bipush (v := 6) hx hb dX3_copyFrom_80 (by decide) ?_
        obtain ⟨c3, hF⟩ := of_g hF
        refine fr_copy C B (ar_3_row h1 (ix_lt c2)) (ar_3_row hg (ix_lt c2)) wm_X3_33 wn_cp wt_cp wi_sys hl.1 c3 (Nat.le_of_ble_eq_true rfl) (Nat.le_of_ble_eq_true rfl) dX3_copyFrom_82 (fun H locs B => ?_)
        obtain ⟨M4, eM4, hF⟩ := lt_e hF
        rw [← eM4] at B
        refine lv_iinc (v := (x2 + 1)) (lv' := [(2, .int (x2 + 1)), (0, .ref (fw_ad X g)), (1, .ref (fw_ad X g1))]) hx hb dX3_copyFrom_85 hl (k := 2) rfl rfl (by decide) rfl (fun ls hl => ?_)
        refine lv_goto (tgt := 61) hx hb dX3_copyFrom_88 (by decide) ?_
        exact ih (x2 + 1) M4 _ _ _ hF B (lv_sub hl [1, 2, 0] rfl)
  unfold F_X3_copyFrom at hF
  refine lv_aload_n hx hb dX3_copyFrom_0 rfl (lv_at hl 0 rfl) ?_
  refine lv_aload_n hx hb dX3_copyFrom_1 rfl (lv_at hl 1 rfl) ?_
  refine gf_X3_26 C B h1 dX3_copyFrom_2 ?_
  refine pf_X3_26 C B hg dX3_copyFrom_5 (fun H locs B => ?_)
  obtain ⟨M5, eM5, hF⟩ := lt_e hF
  rw [← eM5] at B
  refine lv_aload_n hx hb dX3_copyFrom_8 rfl (lv_at hl 0 rfl) ?_
  refine lv_aload_n hx hb dX3_copyFrom_9 rfl (lv_at hl 1 rfl) ?_
  refine gf_X3_30 C B h1 dX3_copyFrom_10 ?_
  refine pf_X3_30 C B hg dX3_copyFrom_13 (fun H locs B => ?_)
  obtain ⟨M6, eM6, hF⟩ := lt_e hF
  rw [← eM6] at B
  refine lv_aload_n hx hb dX3_copyFrom_16 rfl (lv_at hl 1 rfl) ?_
  refine gf_X3_9 C B h1 dX3_copyFrom_17 ?_
  refine lv_iconst (v := 0) hx hb dX3_copyFrom_20 (by decide) ?_
  refine lv_aload_n hx hb dX3_copyFrom_21 rfl (lv_at hl 0 rfl) ?_
  refine gf_X3_9 C B hg dX3_copyFrom_22 ?_
  refine lv_iconst (v := 0) hx hb dX3_copyFrom_25 (by decide) ?_
  refine lv_bipush (v := 10) hx hb dX3_copyFrom_26 (by decide) ?_
  obtain ⟨c7, hF⟩ := of_g hF
  refine fr_copy C B (ar_3_1 h1) (ar_3_1 hg) wm_X3_33 wn_cp wt_cp wi_sys hl.1 c7 (Nat.le_of_ble_eq_true rfl) (Nat.le_of_ble_eq_true rfl) dX3_copyFrom_28 (fun H locs B => ?_)
  obtain ⟨M8, eM8, hF⟩ := lt_e hF
  rw [← eM8] at B
  refine lv_aload_n hx hb dX3_copyFrom_31 rfl (lv_at hl 1 rfl) ?_
  refine gf_X3_15 C B h1 dX3_copyFrom_32 ?_
  refine lv_iconst (v := 0) hx hb dX3_copyFrom_35 (by decide) ?_
  refine lv_aload_n hx hb dX3_copyFrom_36 rfl (lv_at hl 0 rfl) ?_
  refine gf_X3_15 C B hg dX3_copyFrom_37 ?_
  refine lv_iconst (v := 0) hx hb dX3_copyFrom_40 (by decide) ?_
  refine lv_iconst (v := 5) hx hb dX3_copyFrom_41 (by decide) ?_
  obtain ⟨c9, hF⟩ := of_g hF
  refine fr_copy C B (ar_3_2 h1) (ar_3_2 hg) wm_X3_33 wn_cp wt_cp wi_sys hl.1 c9 (Nat.le_of_ble_eq_true rfl) (Nat.le_of_ble_eq_true rfl) dX3_copyFrom_42 (fun H locs B => ?_)
  obtain ⟨M10, eM10, hF⟩ := lt_e hF
  rw [← eM10] at B
  refine lv_aload_n hx hb dX3_copyFrom_45 rfl (lv_at hl 1 rfl) ?_
  refine gf_X3_23 C B h1 dX3_copyFrom_46 ?_
  refine lv_iconst (v := 0) hx hb dX3_copyFrom_49 (by decide) ?_
  refine lv_aload_n hx hb dX3_copyFrom_50 rfl (lv_at hl 0 rfl) ?_
  refine gf_X3_23 C B hg dX3_copyFrom_51 ?_
  refine lv_iconst (v := 0) hx hb dX3_copyFrom_54 (by decide) ?_
  refine lv_iconst (v := 5) hx hb dX3_copyFrom_55 (by decide) ?_
  refine fr_copy C B (ar_3_9 h1) (ar_3_9 hg) wm_X3_33 wn_cp wt_cp wi_sys hl.1 c9 (Nat.le_of_ble_eq_true rfl) (Nat.le_of_ble_eq_true rfl) dX3_copyFrom_56 (fun H locs B => ?_)
  obtain ⟨M11, eM11, hF⟩ := lt_e hF
  rw [← eM11] at B
  refine lv_iconst (v := 0) hx hb dX3_copyFrom_59 (by decide) ?_
  refine lv_istore_n (lv' := [(2, .int 0), (0, .ref (fw_ad X g)), (1, .ref (fw_ad X g1))]) hx hb dX3_copyFrom_60 rfl hl (by decide) rfl (fun ls hl => ?_)
  exact hJ61 64 0 M11 _ _ _ hF B (lv_sub hl [1, 2, 0] rfl)
def F_X3_hasStop (M : fw_M) (g : Nat) (a1 : Int32) : Option (Int32) :=
  if a1 < 0 then
    some 0
  else
    if (M g 0) ≤ a1 then
      some 0
    else
      some 1
set_option maxHeartbeats 4000000 in
set_option maxRecDepth 100000 in
theorem cm_X3_hasStop {l : Launch} {X : fw_X} {M : fw_M} {g : Nat} {a1 : Int32} (hg : is3 g) {o : Int32} (hF : F_X3_hasStop M g a1 = some o) : ct_i l X yX3_hasStop cX3_hasStop 2 (some .boolean) ({ frames := 0, cells := 0, slots := 0, locals := 0 } : Room) M [.ref (fw_ad X g), .int a1] (.inl o, M) := by
  refine fw_open rfl (Nat.le_of_ble_eq_true rfl) (fun p e s m below meth c ls C hr hlk hnm hex hl B => ?_)
  have C : fr_C X p c cX3_hasStop 2 RX3 s m ([.ref (fw_ad X g), .int a1] : List Value).toArray := C
  have hx := C.1.1
  have hb := C.1.2.1
  have hl : lv_has ls 2 [(0, .ref (fw_ad X g)), (1, .int a1)] := hl
  unfold F_X3_hasStop at hF
  refine lv_iload_n hx hb dX3_hasStop_0 rfl (lv_at hl 1 rfl) ?_
  refine lv_if_lt (tgt := 16) hx hb dX3_hasStop_1 (by decide) (fun c1 => ?_) (fun c1 => ?_)
  · have hF := it_t hF c1
    refine lv_iconst (v := 0) hx hb dX3_hasStop_16 (by decide) ?_
    exact fr_iret C B hr rfl hlk (by rw [← Option.some.inj hF]) (Nat.le_of_ble_eq_true rfl) (Nat.le_of_ble_eq_true rfl) dX3_hasStop_17
  · have hF := it_f hF c1
    refine lv_iload_n hx hb dX3_hasStop_4 rfl (lv_at hl 1 rfl) ?_
    refine lv_aload_n hx hb dX3_hasStop_5 rfl (lv_at hl 0 rfl) ?_
    refine gf_X3_26 C B hg dX3_hasStop_6 ?_
    refine lv_icmp_ge (tgt := 16) hx hb dX3_hasStop_9 (by decide) (fun c2 => ?_) (fun c2 => ?_)
    · have hF := it_t hF c2
      refine lv_iconst (v := 0) hx hb dX3_hasStop_16 (by decide) ?_
      exact fr_iret C B hr rfl hlk (by rw [← Option.some.inj hF]) (Nat.le_of_ble_eq_true rfl) (Nat.le_of_ble_eq_true rfl) dX3_hasStop_17
    · have hF := it_f hF c2
      refine lv_iconst (v := 1) hx hb dX3_hasStop_12 (by decide) ?_
      refine lv_goto (tgt := 17) hx hb dX3_hasStop_13 (by decide) ?_
      exact fr_iret C B hr rfl hlk (by rw [← Option.some.inj hF]) (Nat.le_of_ble_eq_true rfl) (Nat.le_of_ble_eq_true rfl) dX3_hasStop_17
def F_X3_hasLine (M : fw_M) (g : Nat) (a1 : Int32) : Option (Int32) :=
  if a1 < 0 then
    some 0
  else
    if (M g 1) ≤ a1 then
      some 0
    else
      some 1
set_option maxHeartbeats 4000000 in
set_option maxRecDepth 100000 in
theorem cm_X3_hasLine {l : Launch} {X : fw_X} {M : fw_M} {g : Nat} {a1 : Int32} (hg : is3 g) {o : Int32} (hF : F_X3_hasLine M g a1 = some o) : ct_i l X yX3_hasLine cX3_hasLine 2 (some .boolean) ({ frames := 0, cells := 0, slots := 0, locals := 0 } : Room) M [.ref (fw_ad X g), .int a1] (.inl o, M) := by
  refine fw_open rfl (Nat.le_of_ble_eq_true rfl) (fun p e s m below meth c ls C hr hlk hnm hex hl B => ?_)
  have C : fr_C X p c cX3_hasLine 2 RX3 s m ([.ref (fw_ad X g), .int a1] : List Value).toArray := C
  have hx := C.1.1
  have hb := C.1.2.1
  have hl : lv_has ls 2 [(0, .ref (fw_ad X g)), (1, .int a1)] := hl
  unfold F_X3_hasLine at hF
  refine lv_iload_n hx hb dX3_hasLine_0 rfl (lv_at hl 1 rfl) ?_
  refine lv_if_lt (tgt := 16) hx hb dX3_hasLine_1 (by decide) (fun c1 => ?_) (fun c1 => ?_)
  · have hF := it_t hF c1
    refine lv_iconst (v := 0) hx hb dX3_hasLine_16 (by decide) ?_
    exact fr_iret C B hr rfl hlk (by rw [← Option.some.inj hF]) (Nat.le_of_ble_eq_true rfl) (Nat.le_of_ble_eq_true rfl) dX3_hasLine_17
  · have hF := it_f hF c1
    refine lv_iload_n hx hb dX3_hasLine_4 rfl (lv_at hl 1 rfl) ?_
    refine lv_aload_n hx hb dX3_hasLine_5 rfl (lv_at hl 0 rfl) ?_
    refine gf_X3_30 C B hg dX3_hasLine_6 ?_
    refine lv_icmp_ge (tgt := 16) hx hb dX3_hasLine_9 (by decide) (fun c2 => ?_) (fun c2 => ?_)
    · have hF := it_t hF c2
      refine lv_iconst (v := 0) hx hb dX3_hasLine_16 (by decide) ?_
      exact fr_iret C B hr rfl hlk (by rw [← Option.some.inj hF]) (Nat.le_of_ble_eq_true rfl) (Nat.le_of_ble_eq_true rfl) dX3_hasLine_17
    · have hF := it_f hF c2
      refine lv_iconst (v := 1) hx hb dX3_hasLine_12 (by decide) ?_
      refine lv_goto (tgt := 17) hx hb dX3_hasLine_13 (by decide) ?_
      exact fr_iret C B hr rfl hlk (by rw [← Option.some.inj hF]) (Nat.le_of_ble_eq_true rfl) (Nat.le_of_ble_eq_true rfl) dX3_hasLine_17
def F_X3_serves (M : fw_M) (g : Nat) (a1 : Int32) (a2 : Int32) : Option (Int32) :=
  if ix_i a1 5 then
  if ((fw_ri M (g + 9) a1) &&& (1 <<< (a2 &&& 31))) = 0 then
    some 0
  else
    some 1
  else none
set_option maxHeartbeats 4000000 in
set_option maxRecDepth 100000 in
theorem cm_X3_serves {l : Launch} {X : fw_X} {M : fw_M} {g : Nat} {a1 : Int32} {a2 : Int32} (hg : is3 g) {o : Int32} (hF : F_X3_serves M g a1 a2 = some o) : ct_i l X yX3_serves cX3_serves 3 (some .boolean) ({ frames := 0, cells := 0, slots := 0, locals := 0 } : Room) M [.ref (fw_ad X g), .int a1, .int a2] (.inl o, M) := by
  refine fw_open rfl (Nat.le_of_ble_eq_true rfl) (fun p e s m below meth c ls C hr hlk hnm hex hl B => ?_)
  have C : fr_C X p c cX3_serves 3 RX3 s m ([.ref (fw_ad X g), .int a1, .int a2] : List Value).toArray := C
  have hx := C.1.1
  have hb := C.1.2.1
  have hl : lv_has ls 3 [(0, .ref (fw_ad X g)), (1, .int a1), (2, .int a2)] := hl
  unfold F_X3_serves at hF
  refine lv_aload_n hx hb dX3_serves_0 rfl (lv_at hl 0 rfl) ?_
  refine gf_X3_23 C B hg dX3_serves_1 ?_
  refine lv_iload_n hx hb dX3_serves_4 rfl (lv_at hl 1 rfl) ?_
  obtain ⟨c1, hF⟩ := of_g hF
  refine fr_ia C B (ar_3_9 hg) c1 dX3_serves_5 ?_
  refine lv_iconst (v := 1) hx hb dX3_serves_6 (by decide) ?_
  refine lv_iload_n hx hb dX3_serves_7 rfl (lv_at hl 2 rfl) ?_
  refine lv_ishl hx hb dX3_serves_8 ?_
  refine lv_iand hx hb dX3_serves_9 ?_
  refine lv_if_eq (tgt := 17) hx hb dX3_serves_10 (by decide) (fun c2 => ?_) (fun c2 => ?_)
  · have hF := it_t hF c2
    refine lv_iconst (v := 0) hx hb dX3_serves_17 (by decide) ?_
    exact fr_iret C B hr rfl hlk (by rw [← Option.some.inj hF]) (Nat.le_of_ble_eq_true rfl) (Nat.le_of_ble_eq_true rfl) dX3_serves_18
  · have hF := it_f hF c2
    refine lv_iconst (v := 1) hx hb dX3_serves_13 (by decide) ?_
    refine lv_goto (tgt := 18) hx hb dX3_serves_14 (by decide) ?_
    exact fr_iret C B hr rfl hlk (by rw [← Option.some.inj hF]) (Nat.le_of_ble_eq_true rfl) (Nat.le_of_ble_eq_true rfl) dX3_serves_18
def F_X3_isEnd_2 (M : fw_M) (g : Nat) (a1 : Int32)  : Nat → Int32 → Option (Int32)
  | 0, _ => none
  | n + 1, x2 =>
    if (M g 1) ≤ x2 then
      some 0
    else
      if ix_i x2 5 then
      if ix_i 0 6 then
      if (fw_ri M (g + 4 + x2.toNatClampNeg) 0) = a1 then
        some 1
      else
        if ix_i ((fw_ri M (g + 2) x2) - 1) 6 then
        if ¬ (fw_ri M (g + 4 + x2.toNatClampNeg) ((fw_ri M (g + 2) x2) - 1)) = a1 then
          F_X3_isEnd_2 M g a1 n (x2 + 1)
        else
          some 1
        else none
      else none
      else none
def F_X3_isEnd (M : fw_M) (g : Nat) (a1 : Int32) : Option (Int32) :=
  F_X3_isEnd_2 M g a1 64 0
set_option maxHeartbeats 4000000 in
set_option maxRecDepth 100000 in
theorem cm_X3_isEnd {l : Launch} {X : fw_X} {M : fw_M} {g : Nat} {a1 : Int32} (hg : is3 g) {o : Int32} (hF : F_X3_isEnd M g a1 = some o) : ct_i l X yX3_isEnd cX3_isEnd 3 (some .boolean) ({ frames := 0, cells := 0, slots := 0, locals := 0 } : Room) M [.ref (fw_ad X g), .int a1] (.inl o, M) := by
  refine fw_open rfl (Nat.le_of_ble_eq_true rfl) (fun p e s m below meth c ls C hr hlk hnm hex hl B => ?_)
  have C : fr_C X p c cX3_isEnd 3 RX3 s m ([.ref (fw_ad X g), .int a1] : List Value).toArray := C
  have hx := C.1.1
  have hb := C.1.2.1
  have hl : lv_has ls 3 [(0, .ref (fw_ad X g)), (1, .int a1)] := hl
  have hJ2 : ∀ (n : Nat), ∀ (x2 : Int32) (H : Heap) (locs : List Loc) (ls : Array Slot), F_X3_isEnd_2 M g a1 n x2 = some o → fr_H X s M H locs → lv_has ls 3 [(0, .ref (fw_ad X g)), (1, .int a1), (2, .int x2)] → W p l e ({ frames := 0, cells := 0, slots := 0, locals := 0 } : Room) s m ([.ref (fw_ad X g), .int a1] : List Value).toArray below meth c H locs 0 0 (vx_MQ below (fw_Qi X (.inl o, M)) (fw_Qx X (.inl o, M)) ([.ref (fw_ad X g), .int a1] : List Value).toArray s 0 0 (fw_A X)) (F0 m 2 ls []) := by
    intro n
    induction n with
    | zero =>
      intro x2 H locs ls hF B hl
      exact absurd hF (by simp [F_X3_isEnd_2])
    | succ n ih =>
      intro x2 H locs ls hF B hl
      rw [F_X3_isEnd_2] at hF
      refine lv_iload_n hx hb dX3_isEnd_2 rfl (lv_at hl 2 rfl) ?_
      refine lv_aload_n hx hb dX3_isEnd_3 rfl (lv_at hl 0 rfl) ?_
      refine gf_X3_30 C B hg dX3_isEnd_4 ?_
      refine lv_icmp_ge (tgt := 49) hx hb dX3_isEnd_7 (by decide) (fun c1 => ?_) (fun c1 => ?_)
      · have hF := it_t hF c1
        refine lv_iconst (v := 0) hx hb dX3_isEnd_49 (by decide) ?_
        exact fr_iret C B hr rfl hlk (by rw [← Option.some.inj hF]) (Nat.le_of_ble_eq_true rfl) (Nat.le_of_ble_eq_true rfl) dX3_isEnd_50
      · have hF := it_f hF c1
        refine lv_aload_n hx hb dX3_isEnd_10 rfl (lv_at hl 0 rfl) ?_
        refine gf_X3_20 C B hg dX3_isEnd_11 ?_
        refine lv_iload_n hx hb dX3_isEnd_14 rfl (lv_at hl 2 rfl) ?_
        obtain ⟨c2, hF⟩ := of_g hF
        refine fr_aa C B (aq_3 hg) c2 dX3_isEnd_15 ?_
        refine lv_iconst (v := 0) hx hb dX3_isEnd_16 (by decide) ?_
        obtain ⟨c3, hF⟩ := of_g hF
        refine fr_ia C B (ar_3_row hg (ix_lt c2)) c3 dX3_isEnd_17 ?_
        refine lv_iload_n hx hb dX3_isEnd_18 rfl (lv_at hl 1 rfl) ?_
        refine lv_icmp_eq (tgt := 41) hx hb dX3_isEnd_19 (by decide) (fun c4 => ?_) (fun c4 => ?_)
        · have hF := it_t hF c4
          refine lv_iconst (v := 1) hx hb dX3_isEnd_41 (by decide) ?_
          exact fr_iret C B hr rfl hlk (by rw [← Option.some.inj hF]) (Nat.le_of_ble_eq_true rfl) (Nat.le_of_ble_eq_true rfl) dX3_isEnd_42
        · have hF := it_f hF c4
          refine lv_aload_n hx hb dX3_isEnd_22 rfl (lv_at hl 0 rfl) ?_
          refine gf_X3_20 C B hg dX3_isEnd_23 ?_
          refine lv_iload_n hx hb dX3_isEnd_26 rfl (lv_at hl 2 rfl) ?_
          refine fr_aa C B (aq_3 hg) c2 dX3_isEnd_27 ?_
          refine lv_aload_n hx hb dX3_isEnd_28 rfl (lv_at hl 0 rfl) ?_
          refine gf_X3_15 C B hg dX3_isEnd_29 ?_
          refine lv_iload_n hx hb dX3_isEnd_32 rfl (lv_at hl 2 rfl) ?_
          refine fr_ia C B (ar_3_2 hg) c2 dX3_isEnd_33 ?_
          refine lv_iconst (v := 1) hx hb dX3_isEnd_34 (by decide) ?_
          refine lv_isub hx hb dX3_isEnd_35 ?_
          obtain ⟨c5, hF⟩ := of_g hF
          refine fr_ia C B (ar_3_row hg (ix_lt c2)) c5 dX3_isEnd_36 ?_
          refine lv_iload_n hx hb dX3_isEnd_37 rfl (lv_at hl 1 rfl) ?_
          refine lv_icmp_ne (tgt := 43) hx hb dX3_isEnd_38 (by decide) (fun c6 => ?_) (fun c6 => ?_)
          · have hF := it_t hF c6
            refine lv_iinc (v := (x2 + 1)) (lv' := [(2, .int (x2 + 1)), (0, .ref (fw_ad X g)), (1, .int a1)]) hx hb dX3_isEnd_43 hl (k := 2) rfl rfl (by decide) rfl (fun ls hl => ?_)
            refine lv_goto (tgt := 2) hx hb dX3_isEnd_46 (by decide) ?_
            exact ih (x2 + 1) _ _ _ hF B (lv_sub hl [1, 2, 0] rfl)
          · have hF := it_f hF (not_not_intro c6)
            refine lv_iconst (v := 1) hx hb dX3_isEnd_41 (by decide) ?_
            exact fr_iret C B hr rfl hlk (by rw [← Option.some.inj hF]) (Nat.le_of_ble_eq_true rfl) (Nat.le_of_ble_eq_true rfl) dX3_isEnd_42
  unfold F_X3_isEnd at hF
  refine lv_iconst (v := 0) hx hb dX3_isEnd_0 (by decide) ?_
  refine lv_istore_n (lv' := [(2, .int 0), (0, .ref (fw_ad X g)), (1, .int a1)]) hx hb dX3_isEnd_1 rfl hl (by decide) rfl (fun ls hl => ?_)
  exact hJ2 64 0 _ _ _ hF B (lv_sub hl [1, 2, 0] rfl)
def F_X3_positionOn_2 (M : fw_M) (g : Nat) (a1 : Int32) (a2 : Int32)  : Nat → Int32 → Option (Int32)
  | 0, _ => none
  | n + 1, x3 =>
    if ix_i a1 5 then
    if (fw_ri M (g + 2) a1) ≤ x3 then
      some (-1)
    else
      if ix_i x3 6 then
      if ¬ (fw_ri M (g + 4 + a1.toNatClampNeg) x3) = a2 then
        F_X3_positionOn_2 M g a1 a2 n (x3 + 1)
      else
        some x3
      else none
    else none
def F_X3_positionOn (M : fw_M) (g : Nat) (a1 : Int32) (a2 : Int32) : Option (Int32) :=
  F_X3_positionOn_2 M g a1 a2 64 0
set_option maxHeartbeats 4000000 in
set_option maxRecDepth 100000 in
theorem cm_X3_positionOn {l : Launch} {X : fw_X} {M : fw_M} {g : Nat} {a1 : Int32} {a2 : Int32} (hg : is3 g) {o : Int32} (hF : F_X3_positionOn M g a1 a2 = some o) : ct_i l X yX3_positionOn cX3_positionOn 4 (some .int) ({ frames := 0, cells := 0, slots := 0, locals := 0 } : Room) M [.ref (fw_ad X g), .int a1, .int a2] (.inl o, M) := by
  refine fw_open rfl (Nat.le_of_ble_eq_true rfl) (fun p e s m below meth c ls C hr hlk hnm hex hl B => ?_)
  have C : fr_C X p c cX3_positionOn 4 RX3 s m ([.ref (fw_ad X g), .int a1, .int a2] : List Value).toArray := C
  have hx := C.1.1
  have hb := C.1.2.1
  have hl : lv_has ls 4 [(0, .ref (fw_ad X g)), (1, .int a1), (2, .int a2)] := hl
  have hJ2 : ∀ (n : Nat), ∀ (x3 : Int32) (H : Heap) (locs : List Loc) (ls : Array Slot), F_X3_positionOn_2 M g a1 a2 n x3 = some o → fr_H X s M H locs → lv_has ls 4 [(0, .ref (fw_ad X g)), (1, .int a1), (2, .int a2), (3, .int x3)] → W p l e ({ frames := 0, cells := 0, slots := 0, locals := 0 } : Room) s m ([.ref (fw_ad X g), .int a1, .int a2] : List Value).toArray below meth c H locs 0 0 (vx_MQ below (fw_Qi X (.inl o, M)) (fw_Qx X (.inl o, M)) ([.ref (fw_ad X g), .int a1, .int a2] : List Value).toArray s 0 0 (fw_A X)) (F0 m 2 ls []) := by
    intro n
    induction n with
    | zero =>
      intro x3 H locs ls hF B hl
      exact absurd hF (by simp [F_X3_positionOn_2])
    | succ n ih =>
      intro x3 H locs ls hF B hl
      rw [F_X3_positionOn_2] at hF
      refine lv_iload_n hx hb dX3_positionOn_2 rfl (lv_at hl 3 rfl) ?_
      refine lv_aload_n hx hb dX3_positionOn_3 rfl (lv_at hl 0 rfl) ?_
      refine gf_X3_15 C B hg dX3_positionOn_4 ?_
      refine lv_iload_n hx hb dX3_positionOn_7 rfl (lv_at hl 1 rfl) ?_
      obtain ⟨c1, hF⟩ := of_g hF
      refine fr_ia C B (ar_3_2 hg) c1 dX3_positionOn_8 ?_
      refine lv_icmp_ge (tgt := 32) hx hb dX3_positionOn_9 (by decide) (fun c2 => ?_) (fun c2 => ?_)
      · have hF := it_t hF c2
        refine lv_iconst (v := (-1)) hx hb dX3_positionOn_32 (by decide) ?_
        exact fr_iret C B hr rfl hlk (by rw [← Option.some.inj hF]) (Nat.le_of_ble_eq_true rfl) (Nat.le_of_ble_eq_true rfl) dX3_positionOn_33
      · have hF := it_f hF c2
        refine lv_aload_n hx hb dX3_positionOn_12 rfl (lv_at hl 0 rfl) ?_
        refine gf_X3_20 C B hg dX3_positionOn_13 ?_
        refine lv_iload_n hx hb dX3_positionOn_16 rfl (lv_at hl 1 rfl) ?_
        refine fr_aa C B (aq_3 hg) c1 dX3_positionOn_17 ?_
        refine lv_iload_n hx hb dX3_positionOn_18 rfl (lv_at hl 3 rfl) ?_
        obtain ⟨c3, hF⟩ := of_g hF
        refine fr_ia C B (ar_3_row hg (ix_lt c1)) c3 dX3_positionOn_19 ?_
        refine lv_iload_n hx hb dX3_positionOn_20 rfl (lv_at hl 2 rfl) ?_
        refine lv_icmp_ne (tgt := 26) hx hb dX3_positionOn_21 (by decide) (fun c4 => ?_) (fun c4 => ?_)
        · have hF := it_t hF c4
          refine lv_iinc (v := (x3 + 1)) (lv' := [(3, .int (x3 + 1)), (0, .ref (fw_ad X g)), (1, .int a1), (2, .int a2)]) hx hb dX3_positionOn_26 hl (k := 3) rfl rfl (by decide) rfl (fun ls hl => ?_)
          refine lv_goto (tgt := 2) hx hb dX3_positionOn_29 (by decide) ?_
          exact ih (x3 + 1) _ _ _ hF B (lv_sub hl [1, 2, 3, 0] rfl)
        · have hF := it_f hF (not_not_intro c4)
          refine lv_iload_n hx hb dX3_positionOn_24 rfl (lv_at hl 3 rfl) ?_
          exact fr_iret C B hr rfl hlk (by rw [← Option.some.inj hF]) (Nat.le_of_ble_eq_true rfl) (Nat.le_of_ble_eq_true rfl) dX3_positionOn_25
  unfold F_X3_positionOn at hF
  refine lv_iconst (v := 0) hx hb dX3_positionOn_0 (by decide) ?_
  refine lv_istore_n (lv' := [(3, .int 0), (0, .ref (fw_ad X g)), (1, .int a1), (2, .int a2)]) hx hb dX3_positionOn_1 rfl hl (by decide) rfl (fun ls hl => ?_)
  exact hJ2 64 0 _ _ _ hF B (lv_sub hl [1, 2, 3, 0] rfl)
def F_X3_putStop (M : fw_M) (g : Nat) (a1 : Int32) : Option (Int32 × fw_M) :=
  if ix_i (M g 0) 10 then
  lt_x (fw_wi M (g + 1) (M g 0) a1) fun M2 =>
  lt_x (fw_up M2 g 0 ((M2 g 0) + 1)) fun M3 =>
  some (((M3 g 0) - 1), M3)
  else none
set_option maxHeartbeats 4000000 in
set_option maxRecDepth 100000 in
theorem cm_X3_putStop {l : Launch} {X : fw_X} {M : fw_M} {g : Nat} {a1 : Int32} (hg : is3 g) {o : Int32 × fw_M} (hF : F_X3_putStop M g a1 = some o) : ct_i l X yX3_putStop cX3_putStop 2 (some .int) ({ frames := 0, cells := 0, slots := 0, locals := 0 } : Room) M [.ref (fw_ad X g), .int a1] (.inl o.1, o.2) := by
  refine fw_open rfl (Nat.le_of_ble_eq_true rfl) (fun p e s m below meth c ls C hr hlk hnm hex hl B => ?_)
  have C : fr_C X p c cX3_putStop 2 RX3 s m ([.ref (fw_ad X g), .int a1] : List Value).toArray := C
  have hx := C.1.1
  have hb := C.1.2.1
  have hl : lv_has ls 2 [(0, .ref (fw_ad X g)), (1, .int a1)] := hl
  unfold F_X3_putStop at hF
  refine lv_aload_n hx hb dX3_putStop_0 rfl (lv_at hl 0 rfl) ?_
  refine gf_X3_9 C B hg dX3_putStop_1 ?_
  refine lv_aload_n hx hb dX3_putStop_4 rfl (lv_at hl 0 rfl) ?_
  refine gf_X3_26 C B hg dX3_putStop_5 ?_
  refine lv_iload_n hx hb dX3_putStop_8 rfl (lv_at hl 1 rfl) ?_
  obtain ⟨c1, hF⟩ := of_g hF
  refine fr_is C B (ar_3_1 hg) c1 dX3_putStop_9 (fun H locs B => ?_)
  obtain ⟨M2, eM2, hF⟩ := lt_e hF
  rw [← eM2] at B
  refine lv_aload_n hx hb dX3_putStop_10 rfl (lv_at hl 0 rfl) ?_
  refine lv_dup hx hb dX3_putStop_11 rfl ?_
  refine gf_X3_26 C B hg dX3_putStop_12 ?_
  refine lv_iconst (v := 1) hx hb dX3_putStop_15 (by decide) ?_
  refine lv_iadd hx hb dX3_putStop_16 ?_
  refine pf_X3_26 C B hg dX3_putStop_17 (fun H locs B => ?_)
  obtain ⟨M3, eM3, hF⟩ := lt_e hF
  rw [← eM3] at B
  refine lv_aload_n hx hb dX3_putStop_20 rfl (lv_at hl 0 rfl) ?_
  refine gf_X3_26 C B hg dX3_putStop_21 ?_
  refine lv_iconst (v := 1) hx hb dX3_putStop_24 (by decide) ?_
  refine lv_isub hx hb dX3_putStop_25 ?_
  exact fr_iret C B hr rfl hlk (by rw [← Option.some.inj hF]) (Nat.le_of_ble_eq_true rfl) (Nat.le_of_ble_eq_true rfl) dX3_putStop_26
def F_X3_putLine (M : fw_M) (g : Nat) (a1 : Int32) (a2 : Int32) : Option (Int32 × fw_M) :=
  if ix_i (M g 1) 5 then
  if ix_i 0 6 then
  lt_x (fw_wi M (g + 4 + (M g 1).toNatClampNeg) 0 a1) fun M3 =>
  if ix_i 1 6 then
  lt_x (fw_wi M3 (g + 4 + (M g 1).toNatClampNeg) 1 a2) fun M5 =>
  lt_x (fw_wi M5 (g + 2) (M g 1) 2) fun M6 =>
  lt_x (fw_wi M6 (g + 9) (M g 1) ((1 <<< (a1 &&& 31)) ||| (1 <<< (a2 &&& 31)))) fun M7 =>
  lt_x (fw_up M7 g 1 ((M7 g 1) + 1)) fun M8 =>
  some ((M g 1), M8)
  else none
  else none
  else none
set_option maxHeartbeats 4000000 in
set_option maxRecDepth 100000 in
theorem cm_X3_putLine {l : Launch} {X : fw_X} {M : fw_M} {g : Nat} {a1 : Int32} {a2 : Int32} (hg : is3 g) {o : Int32 × fw_M} (hF : F_X3_putLine M g a1 a2 = some o) : ct_i l X yX3_putLine cX3_putLine 4 (some .int) ({ frames := 0, cells := 0, slots := 0, locals := 0 } : Room) M [.ref (fw_ad X g), .int a1, .int a2] (.inl o.1, o.2) := by
  refine fw_open rfl (Nat.le_of_ble_eq_true rfl) (fun p e s m below meth c ls C hr hlk hnm hex hl B => ?_)
  have C : fr_C X p c cX3_putLine 4 RX3 s m ([.ref (fw_ad X g), .int a1, .int a2] : List Value).toArray := C
  have hx := C.1.1
  have hb := C.1.2.1
  have hl : lv_has ls 4 [(0, .ref (fw_ad X g)), (1, .int a1), (2, .int a2)] := hl
  unfold F_X3_putLine at hF
  refine lv_aload_n hx hb dX3_putLine_0 rfl (lv_at hl 0 rfl) ?_
  refine gf_X3_30 C B hg dX3_putLine_1 ?_
  refine lv_istore_n (lv' := [(3, .int (M g 1)), (0, .ref (fw_ad X g)), (1, .int a1), (2, .int a2)]) hx hb dX3_putLine_4 rfl hl (by decide) rfl (fun ls hl => ?_)
  refine lv_aload_n hx hb dX3_putLine_5 rfl (lv_at hl 1 rfl) ?_
  refine gf_X3_20 C B hg dX3_putLine_6 ?_
  refine lv_iload_n hx hb dX3_putLine_9 rfl (lv_at hl 0 rfl) ?_
  obtain ⟨c1, hF⟩ := of_g hF
  refine fr_aa C B (aq_3 hg) c1 dX3_putLine_10 ?_
  refine lv_iconst (v := 0) hx hb dX3_putLine_11 (by decide) ?_
  refine lv_iload_n hx hb dX3_putLine_12 rfl (lv_at hl 2 rfl) ?_
  obtain ⟨c2, hF⟩ := of_g hF
  refine fr_is C B (ar_3_row hg (ix_lt c1)) c2 dX3_putLine_13 (fun H locs B => ?_)
  obtain ⟨M3, eM3, hF⟩ := lt_e hF
  rw [← eM3] at B
  refine lv_aload_n hx hb dX3_putLine_14 rfl (lv_at hl 1 rfl) ?_
  refine gf_X3_20 C B hg dX3_putLine_15 ?_
  refine lv_iload_n hx hb dX3_putLine_18 rfl (lv_at hl 0 rfl) ?_
  refine fr_aa C B (aq_3 hg) c1 dX3_putLine_19 ?_
  refine lv_iconst (v := 1) hx hb dX3_putLine_20 (by decide) ?_
  refine lv_iload_n hx hb dX3_putLine_21 rfl (lv_at hl 3 rfl) ?_
  obtain ⟨c4, hF⟩ := of_g hF
  refine fr_is C B (ar_3_row hg (ix_lt c1)) c4 dX3_putLine_22 (fun H locs B => ?_)
  obtain ⟨M5, eM5, hF⟩ := lt_e hF
  rw [← eM5] at B
  refine lv_aload_n hx hb dX3_putLine_23 rfl (lv_at hl 1 rfl) ?_
  refine gf_X3_15 C B hg dX3_putLine_24 ?_
  refine lv_iload_n hx hb dX3_putLine_27 rfl (lv_at hl 0 rfl) ?_
  refine lv_iconst (v := 2) hx hb dX3_putLine_28 (by decide) ?_
  refine fr_is C B (ar_3_2 hg) c1 dX3_putLine_29 (fun H locs B => ?_)
  obtain ⟨M6, eM6, hF⟩ := lt_e hF
  rw [← eM6] at B
  refine lv_aload_n hx hb dX3_putLine_30 rfl (lv_at hl 1 rfl) ?_
  refine gf_X3_23 C B hg dX3_putLine_31 ?_
  refine lv_iload_n hx hb dX3_putLine_34 rfl (lv_at hl 0 rfl) ?_
  refine lv_iconst (v := 1) hx hb dX3_putLine_35 (by decide) ?_
  refine lv_iload_n hx hb dX3_putLine_36 rfl (lv_at hl 2 rfl) ?_
  refine lv_ishl hx hb dX3_putLine_37 ?_
  refine lv_iconst (v := 1) hx hb dX3_putLine_38 (by decide) ?_
  refine lv_iload_n hx hb dX3_putLine_39 rfl (lv_at hl 3 rfl) ?_
  refine lv_ishl hx hb dX3_putLine_40 ?_
  refine lv_ior hx hb dX3_putLine_41 ?_
  refine fr_is C B (ar_3_9 hg) c1 dX3_putLine_42 (fun H locs B => ?_)
  obtain ⟨M7, eM7, hF⟩ := lt_e hF
  rw [← eM7] at B
  refine lv_aload_n hx hb dX3_putLine_43 rfl (lv_at hl 1 rfl) ?_
  refine lv_dup hx hb dX3_putLine_44 rfl ?_
  refine gf_X3_30 C B hg dX3_putLine_45 ?_
  refine lv_iconst (v := 1) hx hb dX3_putLine_48 (by decide) ?_
  refine lv_iadd hx hb dX3_putLine_49 ?_
  refine pf_X3_30 C B hg dX3_putLine_50 (fun H locs B => ?_)
  obtain ⟨M8, eM8, hF⟩ := lt_e hF
  rw [← eM8] at B
  refine lv_iload_n hx hb dX3_putLine_53 rfl (lv_at hl 0 rfl) ?_
  exact fr_iret C B hr rfl hlk (by rw [← Option.some.inj hF]) (Nat.le_of_ble_eq_true rfl) (Nat.le_of_ble_eq_true rfl) dX3_putLine_54
def F_X3_appendStop (M : fw_M) (g : Nat) (a1 : Int32) (a2 : Int32) : Option (Int32 × fw_M) :=
  if ix_i a1 5 then
  if ix_i (fw_ri M (g + 2) a1) 6 then
  lt_x (fw_wi M (g + 4 + a1.toNatClampNeg) (fw_ri M (g + 2) a1) a2) fun M3 =>
  lt_x (fw_wi M3 (g + 9) a1 ((fw_ri M3 (g + 9) a1) ||| (1 <<< (a2 &&& 31)))) fun M4 =>
  lt_x (fw_wi M4 (g + 2) a1 ((fw_ri M (g + 2) a1) + 1)) fun M5 =>
  some ((fw_ri M (g + 2) a1), M5)
  else none
  else none
set_option maxHeartbeats 4000000 in
set_option maxRecDepth 100000 in
theorem cm_X3_appendStop {l : Launch} {X : fw_X} {M : fw_M} {g : Nat} {a1 : Int32} {a2 : Int32} (hg : is3 g) {o : Int32 × fw_M} (hF : F_X3_appendStop M g a1 a2 = some o) : ct_i l X yX3_appendStop cX3_appendStop 4 (some .int) ({ frames := 0, cells := 0, slots := 0, locals := 0 } : Room) M [.ref (fw_ad X g), .int a1, .int a2] (.inl o.1, o.2) := by
  refine fw_open rfl (Nat.le_of_ble_eq_true rfl) (fun p e s m below meth c ls C hr hlk hnm hex hl B => ?_)
  have C : fr_C X p c cX3_appendStop 4 RX3 s m ([.ref (fw_ad X g), .int a1, .int a2] : List Value).toArray := C
  have hx := C.1.1
  have hb := C.1.2.1
  have hl : lv_has ls 4 [(0, .ref (fw_ad X g)), (1, .int a1), (2, .int a2)] := hl
  unfold F_X3_appendStop at hF
  refine lv_aload_n hx hb dX3_appendStop_0 rfl (lv_at hl 0 rfl) ?_
  refine gf_X3_15 C B hg dX3_appendStop_1 ?_
  refine lv_iload_n hx hb dX3_appendStop_4 rfl (lv_at hl 1 rfl) ?_
  obtain ⟨c1, hF⟩ := of_g hF
  refine fr_ia C B (ar_3_2 hg) c1 dX3_appendStop_5 ?_
  refine lv_istore_n (lv' := [(3, .int (fw_ri M (g + 2) a1)), (0, .ref (fw_ad X g)), (1, .int a1), (2, .int a2)]) hx hb dX3_appendStop_6 rfl hl (by decide) rfl (fun ls hl => ?_)
  refine lv_aload_n hx hb dX3_appendStop_7 rfl (lv_at hl 1 rfl) ?_
  refine gf_X3_20 C B hg dX3_appendStop_8 ?_
  refine lv_iload_n hx hb dX3_appendStop_11 rfl (lv_at hl 2 rfl) ?_
  refine fr_aa C B (aq_3 hg) c1 dX3_appendStop_12 ?_
  refine lv_iload_n hx hb dX3_appendStop_13 rfl (lv_at hl 0 rfl) ?_
  refine lv_iload_n hx hb dX3_appendStop_14 rfl (lv_at hl 3 rfl) ?_
  obtain ⟨c2, hF⟩ := of_g hF
  refine fr_is C B (ar_3_row hg (ix_lt c1)) c2 dX3_appendStop_15 (fun H locs B => ?_)
  obtain ⟨M3, eM3, hF⟩ := lt_e hF
  rw [← eM3] at B
  refine lv_aload_n hx hb dX3_appendStop_16 rfl (lv_at hl 1 rfl) ?_
  refine gf_X3_23 C B hg dX3_appendStop_17 ?_
  refine lv_iload_n hx hb dX3_appendStop_20 rfl (lv_at hl 2 rfl) ?_
  refine lv_dup2_11 hx hb dX3_appendStop_21 rfl rfl ?_
  refine fr_ia C B (ar_3_9 hg) c1 dX3_appendStop_22 ?_
  refine lv_iconst (v := 1) hx hb dX3_appendStop_23 (by decide) ?_
  refine lv_iload_n hx hb dX3_appendStop_24 rfl (lv_at hl 3 rfl) ?_
  refine lv_ishl hx hb dX3_appendStop_25 ?_
  refine lv_ior hx hb dX3_appendStop_26 ?_
  refine fr_is C B (ar_3_9 hg) c1 dX3_appendStop_27 (fun H locs B => ?_)
  obtain ⟨M4, eM4, hF⟩ := lt_e hF
  rw [← eM4] at B
  refine lv_aload_n hx hb dX3_appendStop_28 rfl (lv_at hl 1 rfl) ?_
  refine gf_X3_15 C B hg dX3_appendStop_29 ?_
  refine lv_iload_n hx hb dX3_appendStop_32 rfl (lv_at hl 2 rfl) ?_
  refine lv_iload_n hx hb dX3_appendStop_33 rfl (lv_at hl 0 rfl) ?_
  refine lv_iconst (v := 1) hx hb dX3_appendStop_34 (by decide) ?_
  refine lv_iadd hx hb dX3_appendStop_35 ?_
  refine fr_is C B (ar_3_2 hg) c1 dX3_appendStop_36 (fun H locs B => ?_)
  obtain ⟨M5, eM5, hF⟩ := lt_e hF
  rw [← eM5] at B
  refine lv_iload_n hx hb dX3_appendStop_37 rfl (lv_at hl 0 rfl) ?_
  exact fr_iret C B hr rfl hlk (by rw [← Option.some.inj hF]) (Nat.le_of_ble_eq_true rfl) (Nat.le_of_ble_eq_true rfl) dX3_appendStop_38
