def F_X5_reachStop (M : fw_M) (a1 : Int32) (a2 : Int32) : Option (fw_M) :=
  if ix_i a1 10 then
  if ¬ (fw_ri M 356 a1) = (-1) then
    some M
  else
    if 10 ≤ (M 355 4) then
      some M
    else
      lt_x (fw_wi M 356 a1 a2) fun M4 =>
      if ix_i (M4 355 4) 10 then
      lt_x (fw_wi M4 357 (M4 355 4) a1) fun M6 =>
      lt_x (fw_up M6 355 4 ((M6 355 4) + 1)) fun M7 =>
      some M7
      else none
  else none
set_option maxHeartbeats 4000000 in
set_option maxRecDepth 100000 in
theorem cm_X5_reachStop {l : Launch} {X : fw_X} {M : fw_M} {a1 : Int32} {a2 : Int32}  {o : fw_M} (hF : F_X5_reachStop M a1 a2 = some o) : ct_v l X yX5_reachStop cX5_reachStop 3 none ({ frames := 0, cells := 0, slots := 0, locals := 0 } : Room) M [.ref (fw_ad X 355), .int a1, .int a2] (.inl 0, o) := by
  refine fw_open rfl (Nat.le_of_ble_eq_true rfl) (fun p e s m below meth c ls C hr hlk hnm hex hl B => ?_)
  have C : fr_C X p c cX5_reachStop 3 RX5 s m ([.ref (fw_ad X 355), .int a1, .int a2] : List Value).toArray := C
  have hx := C.1.1
  have hb := C.1.2.1
  have hl : lv_has ls 3 [(0, .ref (fw_ad X 355)), (1, .int a1), (2, .int a2)] := hl
  unfold F_X5_reachStop at hF
  refine lv_aload_n hx hb dX5_reachStop_0 rfl (lv_at hl 0 rfl) ?_
  refine gf_X5_9 C B dX5_reachStop_1 ?_
  refine lv_iload_n hx hb dX5_reachStop_4 rfl (lv_at hl 1 rfl) ?_
  obtain ⟨c1, hF⟩ := of_g hF
  refine fr_ia C B ar_5_356 c1 dX5_reachStop_5 ?_
  refine lv_iconst (v := (-1)) hx hb dX5_reachStop_6 (by decide) ?_
  refine lv_icmp_ne (tgt := 46) hx hb dX5_reachStop_7 (by decide) (fun c2 => ?_) (fun c2 => ?_)
  · have hF := it_t hF c2
    exact fr_vret C B hr hlk (by rw [← Option.some.inj hF]) (Nat.le_of_ble_eq_true rfl) (Nat.le_of_ble_eq_true rfl) dX5_reachStop_46
  · have hF := it_f hF (not_not_intro c2)
    refine lv_aload_n hx hb dX5_reachStop_10 rfl (lv_at hl 0 rfl) ?_
    refine gf_X5_30 C B dX5_reachStop_11 ?_
    refine lv_bipush (v := 10) hx hb dX5_reachStop_14 (by decide) ?_
    refine lv_icmp_ge (tgt := 46) hx hb dX5_reachStop_16 (by decide) (fun c3 => ?_) (fun c3 => ?_)
    · have hF := it_t hF c3
      exact fr_vret C B hr hlk (by rw [← Option.some.inj hF]) (Nat.le_of_ble_eq_true rfl) (Nat.le_of_ble_eq_true rfl) dX5_reachStop_46
    · have hF := it_f hF c3
      refine lv_aload_n hx hb dX5_reachStop_19 rfl (lv_at hl 0 rfl) ?_
      refine gf_X5_9 C B dX5_reachStop_20 ?_
      refine lv_iload_n hx hb dX5_reachStop_23 rfl (lv_at hl 1 rfl) ?_
      refine lv_iload_n hx hb dX5_reachStop_24 rfl (lv_at hl 2 rfl) ?_
      refine fr_is C B ar_5_356 c1 dX5_reachStop_25 (fun H locs B => ?_)
      obtain ⟨M4, eM4, hF⟩ := lt_e hF
      rw [← eM4] at B
      refine lv_aload_n hx hb dX5_reachStop_26 rfl (lv_at hl 0 rfl) ?_
      refine gf_X5_15 C B dX5_reachStop_27 ?_
      refine lv_aload_n hx hb dX5_reachStop_30 rfl (lv_at hl 0 rfl) ?_
      refine gf_X5_30 C B dX5_reachStop_31 ?_
      refine lv_iload_n hx hb dX5_reachStop_34 rfl (lv_at hl 1 rfl) ?_
      obtain ⟨c5, hF⟩ := of_g hF
      refine fr_is C B ar_5_357 c5 dX5_reachStop_35 (fun H locs B => ?_)
      obtain ⟨M6, eM6, hF⟩ := lt_e hF
      rw [← eM6] at B
      refine lv_aload_n hx hb dX5_reachStop_36 rfl (lv_at hl 0 rfl) ?_
      refine lv_dup hx hb dX5_reachStop_37 rfl ?_
      refine gf_X5_30 C B dX5_reachStop_38 ?_
      refine lv_iconst (v := 1) hx hb dX5_reachStop_41 (by decide) ?_
      refine lv_iadd hx hb dX5_reachStop_42 ?_
      refine pf_X5_30 C B dX5_reachStop_43 (fun H locs B => ?_)
      obtain ⟨M7, eM7, hF⟩ := lt_e hF
      rw [← eM7] at B
      exact fr_vret C B hr hlk (by rw [← Option.some.inj hF]) (Nat.le_of_ble_eq_true rfl) (Nat.le_of_ble_eq_true rfl) dX5_reachStop_46
def F_X5_relax (M : fw_M) (a1 : Int32) (a2 : Int32) : Option (Int32 × fw_M) :=
  if ix_i a1 10 then
  if ¬ (fw_ri M 356 a1) = (-1) then
    if ix_i a2 10 then
    if (fw_ri M 356 a2) = (-1) then
      lt_x (fw_wi M 356 a2 ((fw_ri M 356 a1) + 1)) fun M5 =>
      some (1, M5)
    else
      if ((fw_ri M 356 a1) + 1) < (fw_ri M 356 a2) then
        lt_x (fw_wi M 356 a2 ((fw_ri M 356 a1) + 1)) fun M7 =>
        some (1, M7)
      else
        some (0, M)
    else none
  else
    some (0, M)
  else none
set_option maxHeartbeats 4000000 in
set_option maxRecDepth 100000 in
theorem cm_X5_relax {l : Launch} {X : fw_X} {M : fw_M} {a1 : Int32} {a2 : Int32}  {o : Int32 × fw_M} (hF : F_X5_relax M a1 a2 = some o) : ct_i l X yX5_relax cX5_relax 4 (some .boolean) ({ frames := 0, cells := 0, slots := 0, locals := 0 } : Room) M [.ref (fw_ad X 355), .int a1, .int a2] (.inl o.1, o.2) := by
  refine fw_open rfl (Nat.le_of_ble_eq_true rfl) (fun p e s m below meth c ls C hr hlk hnm hex hl B => ?_)
  have C : fr_C X p c cX5_relax 4 RX5 s m ([.ref (fw_ad X 355), .int a1, .int a2] : List Value).toArray := C
  have hx := C.1.1
  have hb := C.1.2.1
  have hl : lv_has ls 4 [(0, .ref (fw_ad X 355)), (1, .int a1), (2, .int a2)] := hl
  unfold F_X5_relax at hF
  refine lv_aload_n hx hb dX5_relax_0 rfl (lv_at hl 0 rfl) ?_
  refine gf_X5_9 C B dX5_relax_1 ?_
  refine lv_iload_n hx hb dX5_relax_4 rfl (lv_at hl 1 rfl) ?_
  obtain ⟨c1, hF⟩ := of_g hF
  refine fr_ia C B ar_5_356 c1 dX5_relax_5 ?_
  refine lv_iconst (v := (-1)) hx hb dX5_relax_6 (by decide) ?_
  refine lv_icmp_ne (tgt := 12) hx hb dX5_relax_7 (by decide) (fun c2 => ?_) (fun c2 => ?_)
  · have hF := it_t hF c2
    refine lv_aload_n hx hb dX5_relax_12 rfl (lv_at hl 0 rfl) ?_
    refine gf_X5_9 C B dX5_relax_13 ?_
    refine lv_iload_n hx hb dX5_relax_16 rfl (lv_at hl 1 rfl) ?_
    refine fr_ia C B ar_5_356 c1 dX5_relax_17 ?_
    refine lv_iconst (v := 1) hx hb dX5_relax_18 (by decide) ?_
    refine lv_iadd hx hb dX5_relax_19 ?_
    refine lv_istore_n (lv' := [(3, .int ((fw_ri M 356 a1) + 1)), (0, .ref (fw_ad X 355)), (1, .int a1), (2, .int a2)]) hx hb dX5_relax_20 rfl hl (by decide) rfl (fun ls hl => ?_)
    refine lv_aload_n hx hb dX5_relax_21 rfl (lv_at hl 1 rfl) ?_
    refine gf_X5_9 C B dX5_relax_22 ?_
    refine lv_iload_n hx hb dX5_relax_25 rfl (lv_at hl 3 rfl) ?_
    obtain ⟨c3, hF⟩ := of_g hF
    refine fr_ia C B ar_5_356 c3 dX5_relax_26 ?_
    refine lv_iconst (v := (-1)) hx hb dX5_relax_27 (by decide) ?_
    refine lv_icmp_eq (tgt := 43) hx hb dX5_relax_28 (by decide) (fun c4 => ?_) (fun c4 => ?_)
    · have hF := it_t hF c4
      refine lv_aload_n hx hb dX5_relax_43 rfl (lv_at hl 1 rfl) ?_
      refine gf_X5_9 C B dX5_relax_44 ?_
      refine lv_iload_n hx hb dX5_relax_47 rfl (lv_at hl 3 rfl) ?_
      refine lv_iload_n hx hb dX5_relax_48 rfl (lv_at hl 0 rfl) ?_
      refine fr_is C B ar_5_356 c3 dX5_relax_49 (fun H locs B => ?_)
      obtain ⟨M5, eM5, hF⟩ := lt_e hF
      rw [← eM5] at B
      refine lv_iconst (v := 1) hx hb dX5_relax_50 (by decide) ?_
      exact fr_iret C B hr rfl hlk (by rw [← Option.some.inj hF]) (Nat.le_of_ble_eq_true rfl) (Nat.le_of_ble_eq_true rfl) dX5_relax_51
    · have hF := it_f hF c4
      refine lv_aload_n hx hb dX5_relax_31 rfl (lv_at hl 1 rfl) ?_
      refine gf_X5_9 C B dX5_relax_32 ?_
      refine lv_iload_n hx hb dX5_relax_35 rfl (lv_at hl 3 rfl) ?_
      refine fr_ia C B ar_5_356 c3 dX5_relax_36 ?_
      refine lv_iload_n hx hb dX5_relax_37 rfl (lv_at hl 0 rfl) ?_
      refine lv_icmp_gt (tgt := 43) hx hb dX5_relax_38 (by decide) (fun c6 => ?_) (fun c6 => ?_)
      · have hF := it_t hF c6
        refine lv_aload_n hx hb dX5_relax_43 rfl (lv_at hl 1 rfl) ?_
        refine gf_X5_9 C B dX5_relax_44 ?_
        refine lv_iload_n hx hb dX5_relax_47 rfl (lv_at hl 3 rfl) ?_
        refine lv_iload_n hx hb dX5_relax_48 rfl (lv_at hl 0 rfl) ?_
        refine fr_is C B ar_5_356 c3 dX5_relax_49 (fun H locs B => ?_)
        obtain ⟨M7, eM7, hF⟩ := lt_e hF
        rw [← eM7] at B
        refine lv_iconst (v := 1) hx hb dX5_relax_50 (by decide) ?_
        exact fr_iret C B hr rfl hlk (by rw [← Option.some.inj hF]) (Nat.le_of_ble_eq_true rfl) (Nat.le_of_ble_eq_true rfl) dX5_relax_51
      · have hF := it_f hF c6
        refine lv_iconst (v := 0) hx hb dX5_relax_41 (by decide) ?_
        exact fr_iret C B hr rfl hlk (by rw [← Option.some.inj hF]) (Nat.le_of_ble_eq_true rfl) (Nat.le_of_ble_eq_true rfl) dX5_relax_42
  · have hF := it_f hF (not_not_intro c2)
    refine lv_iconst (v := 0) hx hb dX5_relax_10 (by decide) ?_
    exact fr_iret C B hr rfl hlk (by rw [← Option.some.inj hF]) (Nat.le_of_ble_eq_true rfl) (Nat.le_of_ble_eq_true rfl) dX5_relax_11
def F_X5_reachLines_3 (g1 : Nat) (a2 : Int32) (a3 : Int32)  : Nat → Int32 → fw_M → Option (fw_M)
  | 0, _, _ => none
  | n + 1, x4, M =>
    if (M g1 1) ≤ x4 then
      some M
    else
      if ix_i x4 5 then
      if ¬ (fw_ri M 358 x4) = (-1) then
        F_X5_reachLines_3 g1 a2 a3 n (x4 + 1) M
      else
        if ((fw_ri M (g1 + 9) x4) &&& a2) = 0 then
          F_X5_reachLines_3 g1 a2 a3 n (x4 + 1) M
        else
          if 5 ≤ (M 355 4) then
            F_X5_reachLines_3 g1 a2 a3 n (x4 + 1) M
          else
            lt_x (fw_wi M 358 x4 a3) fun M6 =>
            if ix_i (M6 355 4) 5 then
            lt_x (fw_wi M6 359 (M6 355 4) x4) fun M8 =>
            lt_x (fw_up M8 355 4 ((M8 355 4) + 1)) fun M9 =>
            F_X5_reachLines_3 g1 a2 a3 n (x4 + 1) M9
            else none
      else none
def F_X5_reachLines (M : fw_M) (g1 : Nat) (a2 : Int32) (a3 : Int32) : Option (fw_M) :=
  F_X5_reachLines_3 g1 a2 a3 64 0 M
set_option maxHeartbeats 4000000 in
set_option maxRecDepth 100000 in
theorem cm_X5_reachLines {l : Launch} {X : fw_X} {M : fw_M} {g1 : Nat} {a2 : Int32} {a3 : Int32} (h1 : is3 g1) {o : fw_M} (hF : F_X5_reachLines M g1 a2 a3 = some o) : ct_v l X yX5_reachLines cX5_reachLines 5 none ({ frames := 0, cells := 0, slots := 0, locals := 0 } : Room) M [.ref (fw_ad X 355), .ref (fw_ad X g1), .int a2, .int a3] (.inl 0, o) := by
  refine fw_open rfl (Nat.le_of_ble_eq_true rfl) (fun p e s m below meth c ls C hr hlk hnm hex hl B => ?_)
  have C : fr_C X p c cX5_reachLines 5 RX5 s m ([.ref (fw_ad X 355), .ref (fw_ad X g1), .int a2, .int a3] : List Value).toArray := C
  have hx := C.1.1
  have hb := C.1.2.1
  have hl : lv_has ls 5 [(0, .ref (fw_ad X 355)), (1, .ref (fw_ad X g1)), (2, .int a2), (3, .int a3)] := hl
  have hJ3 : ∀ (n : Nat), ∀ (x4 : Int32) (M : fw_M) (H : Heap) (locs : List Loc) (ls : Array Slot), F_X5_reachLines_3 g1 a2 a3 n x4 M = some o → fr_H X s M H locs → lv_has ls 5 [(0, .ref (fw_ad X 355)), (1, .ref (fw_ad X g1)), (2, .int a2), (3, .int a3), (4, .int x4)] → W p l e ({ frames := 0, cells := 0, slots := 0, locals := 0 } : Room) s m ([.ref (fw_ad X 355), .ref (fw_ad X g1), .int a2, .int a3] : List Value).toArray below meth c H locs 0 0 (vx_MQ below (fw_Qv X (.inl 0, o)) (fw_Qx X (.inl 0, o)) ([.ref (fw_ad X 355), .ref (fw_ad X g1), .int a2, .int a3] : List Value).toArray s 0 0 (fw_A X)) (F0 m 3 ls []) := by
    intro n
    induction n with
    | zero =>
      intro x4 M H locs ls hF B hl
      exact absurd hF (by simp [F_X5_reachLines_3])
    | succ n ih =>
      intro x4 M H locs ls hF B hl
      rw [F_X5_reachLines_3] at hF
      refine lv_iload hx hb dX5_reachLines_3 (lv_at hl 4 rfl) ?_
      refine lv_aload_n hx hb dX5_reachLines_5 rfl (lv_at hl 1 rfl) ?_
      refine gf_X5_42 C B h1 dX5_reachLines_6 ?_
      refine lv_icmp_ge (tgt := 78) hx hb dX5_reachLines_9 (by decide) (fun c1 => ?_) (fun c1 => ?_)
      · have hF := it_t hF c1
        exact fr_vret C B hr hlk (by rw [← Option.some.inj hF]) (Nat.le_of_ble_eq_true rfl) (Nat.le_of_ble_eq_true rfl) dX5_reachLines_78
      · have hF := it_f hF c1
        refine lv_aload_n hx hb dX5_reachLines_12 rfl (lv_at hl 0 rfl) ?_
        refine gf_X5_18 C B dX5_reachLines_13 ?_
        refine lv_iload hx hb dX5_reachLines_16 (lv_at hl 4 rfl) ?_
        obtain ⟨c2, hF⟩ := of_g hF
        refine fr_ia C B ar_5_358 c2 dX5_reachLines_18 ?_
        refine lv_iconst (v := (-1)) hx hb dX5_reachLines_19 (by decide) ?_
        refine lv_icmp_ne (tgt := 72) hx hb dX5_reachLines_20 (by decide) (fun c3 => ?_) (fun c3 => ?_)
        · have hF := it_t hF c3
          refine lv_iinc (v := (x4 + 1)) (lv' := [(4, .int (x4 + 1)), (0, .ref (fw_ad X 355)), (1, .ref (fw_ad X g1)), (2, .int a2), (3, .int a3)]) hx hb dX5_reachLines_72 hl (k := 4) rfl rfl (by decide) rfl (fun ls hl => ?_)
          refine lv_goto (tgt := 3) hx hb dX5_reachLines_75 (by decide) ?_
          exact ih (x4 + 1) M _ _ _ hF B (lv_sub hl [1, 2, 3, 4, 0] rfl)
        · have hF := it_f hF (not_not_intro c3)
          refine lv_aload_n hx hb dX5_reachLines_23 rfl (lv_at hl 1 rfl) ?_
          refine gf_X5_73 C B h1 dX5_reachLines_24 ?_
          refine lv_iload hx hb dX5_reachLines_27 (lv_at hl 4 rfl) ?_
          refine fr_ia C B (ar_3_9 h1) c2 dX5_reachLines_29 ?_
          refine lv_iload_n hx hb dX5_reachLines_30 rfl (lv_at hl 2 rfl) ?_
          refine lv_iand hx hb dX5_reachLines_31 ?_
          refine lv_if_eq (tgt := 72) hx hb dX5_reachLines_32 (by decide) (fun c4 => ?_) (fun c4 => ?_)
          · have hF := it_t hF c4
            refine lv_iinc (v := (x4 + 1)) (lv' := [(4, .int (x4 + 1)), (0, .ref (fw_ad X 355)), (1, .ref (fw_ad X g1)), (2, .int a2), (3, .int a3)]) hx hb dX5_reachLines_72 hl (k := 4) rfl rfl (by decide) rfl (fun ls hl => ?_)
            refine lv_goto (tgt := 3) hx hb dX5_reachLines_75 (by decide) ?_
            exact ih (x4 + 1) M _ _ _ hF B (lv_sub hl [1, 2, 3, 4, 0] rfl)
          · have hF := it_f hF c4
            refine lv_aload_n hx hb dX5_reachLines_35 rfl (lv_at hl 0 rfl) ?_
            refine gf_X5_30 C B dX5_reachLines_36 ?_
            refine lv_iconst (v := 5) hx hb dX5_reachLines_39 (by decide) ?_
            refine lv_icmp_ge (tgt := 72) hx hb dX5_reachLines_40 (by decide) (fun c5 => ?_) (fun c5 => ?_)
            · have hF := it_t hF c5
              refine lv_iinc (v := (x4 + 1)) (lv' := [(4, .int (x4 + 1)), (0, .ref (fw_ad X 355)), (1, .ref (fw_ad X g1)), (2, .int a2), (3, .int a3)]) hx hb dX5_reachLines_72 hl (k := 4) rfl rfl (by decide) rfl (fun ls hl => ?_)
              refine lv_goto (tgt := 3) hx hb dX5_reachLines_75 (by decide) ?_
              exact ih (x4 + 1) M _ _ _ hF B (lv_sub hl [1, 2, 3, 4, 0] rfl)
            · have hF := it_f hF c5
              refine lv_aload_n hx hb dX5_reachLines_43 rfl (lv_at hl 0 rfl) ?_
              refine gf_X5_18 C B dX5_reachLines_44 ?_
              refine lv_iload hx hb dX5_reachLines_47 (lv_at hl 4 rfl) ?_
              refine lv_iload_n hx hb dX5_reachLines_49 rfl (lv_at hl 3 rfl) ?_
              refine fr_is C B ar_5_358 c2 dX5_reachLines_50 (fun H locs B => ?_)
              obtain ⟨M6, eM6, hF⟩ := lt_e hF
              rw [← eM6] at B
              refine lv_aload_n hx hb dX5_reachLines_51 rfl (lv_at hl 0 rfl) ?_
              refine gf_X5_21 C B dX5_reachLines_52 ?_
              refine lv_aload_n hx hb dX5_reachLines_55 rfl (lv_at hl 0 rfl) ?_
              refine gf_X5_30 C B dX5_reachLines_56 ?_
              refine lv_iload hx hb dX5_reachLines_59 (lv_at hl 4 rfl) ?_
              obtain ⟨c7, hF⟩ := of_g hF
              refine fr_is C B ar_5_359 c7 dX5_reachLines_61 (fun H locs B => ?_)
              obtain ⟨M8, eM8, hF⟩ := lt_e hF
              rw [← eM8] at B
              refine lv_aload_n hx hb dX5_reachLines_62 rfl (lv_at hl 0 rfl) ?_
              refine lv_dup hx hb dX5_reachLines_63 rfl ?_
              refine gf_X5_30 C B dX5_reachLines_64 ?_
              refine lv_iconst (v := 1) hx hb dX5_reachLines_67 (by decide) ?_
              refine lv_iadd hx hb dX5_reachLines_68 ?_
              refine pf_X5_30 C B dX5_reachLines_69 (fun H locs B => ?_)
              obtain ⟨M9, eM9, hF⟩ := lt_e hF
              rw [← eM9] at B
              refine lv_iinc (v := (x4 + 1)) (lv' := [(4, .int (x4 + 1)), (0, .ref (fw_ad X 355)), (1, .ref (fw_ad X g1)), (2, .int a2), (3, .int a3)]) hx hb dX5_reachLines_72 hl (k := 4) rfl rfl (by decide) rfl (fun ls hl => ?_)
              refine lv_goto (tgt := 3) hx hb dX5_reachLines_75 (by decide) ?_
              exact ih (x4 + 1) M9 _ _ _ hF B (lv_sub hl [1, 2, 3, 4, 0] rfl)
  unfold F_X5_reachLines at hF
  refine lv_iconst (v := 0) hx hb dX5_reachLines_0 (by decide) ?_
  refine lv_istore (lv' := [(4, .int 0), (0, .ref (fw_ad X 355)), (1, .ref (fw_ad X g1)), (2, .int a2), (3, .int a3)]) hx hb dX5_reachLines_1 hl (by decide) rfl (fun ls hl => ?_)
  exact hJ3 64 0 M _ _ _ hF B (lv_sub hl [1, 2, 3, 4, 0] rfl)
def F_X5_grown_5 (M : fw_M) (g1 : Nat) (a2 : Int32)  : Nat → Int32 → Int32 → Option (Int32)
  | 0, _, _ => none
  | n + 1, x3, x4 =>
    if (M g1 1) ≤ x4 then
      some x3
    else
      if ix_i x4 5 then
      if ((fw_ri M (g1 + 9) x4) &&& a2) = 0 then
        F_X5_grown_5 M g1 a2 n x3 (x4 + 1)
      else
        F_X5_grown_5 M g1 a2 n (x3 ||| (fw_ri M (g1 + 9) x4)) (x4 + 1)
      else none
def F_X5_grown (M : fw_M) (g1 : Nat) (a2 : Int32) : Option (Int32) :=
  F_X5_grown_5 M g1 a2 64 a2 0
set_option maxHeartbeats 4000000 in
set_option maxRecDepth 100000 in
theorem cm_X5_grown {l : Launch} {X : fw_X} {M : fw_M} {g1 : Nat} {a2 : Int32} (h1 : is3 g1) {o : Int32} (hF : F_X5_grown M g1 a2 = some o) : ct_i l X yX5_grown cX5_grown 5 (some .int) ({ frames := 0, cells := 0, slots := 0, locals := 0 } : Room) M [.ref (fw_ad X 355), .ref (fw_ad X g1), .int a2] (.inl o, M) := by
  refine fw_open rfl (Nat.le_of_ble_eq_true rfl) (fun p e s m below meth c ls C hr hlk hnm hex hl B => ?_)
  have C : fr_C X p c cX5_grown 5 RX5 s m ([.ref (fw_ad X 355), .ref (fw_ad X g1), .int a2] : List Value).toArray := C
  have hx := C.1.1
  have hb := C.1.2.1
  have hl : lv_has ls 5 [(0, .ref (fw_ad X 355)), (1, .ref (fw_ad X g1)), (2, .int a2)] := hl
  have hJ5 : ∀ (n : Nat), ∀ (x3 : Int32) (x4 : Int32) (H : Heap) (locs : List Loc) (ls : Array Slot), F_X5_grown_5 M g1 a2 n x3 x4 = some o → fr_H X s M H locs → lv_has ls 5 [(1, .ref (fw_ad X g1)), (2, .int a2), (3, .int x3), (4, .int x4)] → W p l e ({ frames := 0, cells := 0, slots := 0, locals := 0 } : Room) s m ([.ref (fw_ad X 355), .ref (fw_ad X g1), .int a2] : List Value).toArray below meth c H locs 0 0 (vx_MQ below (fw_Qi X (.inl o, M)) (fw_Qx X (.inl o, M)) ([.ref (fw_ad X 355), .ref (fw_ad X g1), .int a2] : List Value).toArray s 0 0 (fw_A X)) (F0 m 5 ls []) := by
    intro n
    induction n with
    | zero =>
      intro x3 x4 H locs ls hF B hl
      exact absurd hF (by simp [F_X5_grown_5])
    | succ n ih =>
      intro x3 x4 H locs ls hF B hl
      rw [F_X5_grown_5] at hF
      refine lv_iload hx hb dX5_grown_5 (lv_at hl 3 rfl) ?_
      refine lv_aload_n hx hb dX5_grown_7 rfl (lv_at hl 0 rfl) ?_
      refine gf_X5_42 C B h1 dX5_grown_8 ?_
      refine lv_icmp_ge (tgt := 42) hx hb dX5_grown_11 (by decide) (fun c1 => ?_) (fun c1 => ?_)
      · have hF := it_t hF c1
        refine lv_iload_n hx hb dX5_grown_42 rfl (lv_at hl 2 rfl) ?_
        exact fr_iret C B hr rfl hlk (by rw [← Option.some.inj hF]) (Nat.le_of_ble_eq_true rfl) (Nat.le_of_ble_eq_true rfl) dX5_grown_43
      · have hF := it_f hF c1
        refine lv_aload_n hx hb dX5_grown_14 rfl (lv_at hl 0 rfl) ?_
        refine gf_X5_73 C B h1 dX5_grown_15 ?_
        refine lv_iload hx hb dX5_grown_18 (lv_at hl 3 rfl) ?_
        obtain ⟨c2, hF⟩ := of_g hF
        refine fr_ia C B (ar_3_9 h1) c2 dX5_grown_20 ?_
        refine lv_iload_n hx hb dX5_grown_21 rfl (lv_at hl 1 rfl) ?_
        refine lv_iand hx hb dX5_grown_22 ?_
        refine lv_if_eq (tgt := 36) hx hb dX5_grown_23 (by decide) (fun c3 => ?_) (fun c3 => ?_)
        · have hF := it_t hF c3
          refine lv_iinc (v := (x4 + 1)) (lv' := [(4, .int (x4 + 1)), (1, .ref (fw_ad X g1)), (2, .int a2), (3, .int x3)]) hx hb dX5_grown_36 hl (k := 3) rfl rfl (by decide) rfl (fun ls hl => ?_)
          refine lv_goto (tgt := 5) hx hb dX5_grown_39 (by decide) ?_
          exact ih x3 (x4 + 1) _ _ _ hF B (lv_sub hl [1, 2, 3, 0] rfl)
        · have hF := it_f hF c3
          refine lv_iload_n hx hb dX5_grown_26 rfl (lv_at hl 2 rfl) ?_
          refine lv_aload_n hx hb dX5_grown_27 rfl (lv_at hl 0 rfl) ?_
          refine gf_X5_73 C B h1 dX5_grown_28 ?_
          refine lv_iload hx hb dX5_grown_31 (lv_at hl 3 rfl) ?_
          refine fr_ia C B (ar_3_9 h1) c2 dX5_grown_33 ?_
          refine lv_ior hx hb dX5_grown_34 ?_
          refine lv_istore_n (lv' := [(3, .int (x3 ||| (fw_ri M (g1 + 9) x4))), (1, .ref (fw_ad X g1)), (2, .int a2), (4, .int x4)]) hx hb dX5_grown_35 rfl hl (by decide) rfl (fun ls hl => ?_)
          refine lv_iinc (v := (x4 + 1)) (lv' := [(4, .int (x4 + 1)), (3, .int (x3 ||| (fw_ri M (g1 + 9) x4))), (1, .ref (fw_ad X g1)), (2, .int a2)]) hx hb dX5_grown_36 hl (k := 3) rfl rfl (by decide) rfl (fun ls hl => ?_)
          refine lv_goto (tgt := 5) hx hb dX5_grown_39 (by decide) ?_
          exact ih (x3 ||| (fw_ri M (g1 + 9) x4)) (x4 + 1) _ _ _ hF B (lv_sub hl [2, 3, 1, 0] rfl)
  unfold F_X5_grown at hF
  refine lv_iload_n hx hb dX5_grown_0 rfl (lv_at hl 2 rfl) ?_
  refine lv_istore_n (lv' := [(3, .int a2), (0, .ref (fw_ad X 355)), (1, .ref (fw_ad X g1)), (2, .int a2)]) hx hb dX5_grown_1 rfl hl (by decide) rfl (fun ls hl => ?_)
  refine lv_iconst (v := 0) hx hb dX5_grown_2 (by decide) ?_
  refine lv_istore (lv' := [(4, .int 0), (3, .int a2), (0, .ref (fw_ad X 355)), (1, .ref (fw_ad X g1)), (2, .int a2)]) hx hb dX5_grown_3 hl (by decide) rfl (fun ls hl => ?_)
  exact hJ5 64 a2 0 _ _ _ hF B (lv_sub hl [3, 4, 1, 0] rfl)
def F_X5_reachNeighbours_52 (g1 : Nat) (a2 : Int32) (k12 : Int32 → Int32 → fw_M → Option (fw_M)) (x3 : Int32) (x4 : Int32) (x5 : Int32) (M : fw_M) : Option (fw_M) :=
  if x5 = (-1) then
    k12 x3 (x4 + 1) M
  else
    if ix_i x4 5 then
    if (fw_ri M (g1 + 2) x4) ≤ (x5 + 1) then
      k12 x3 (x4 + 1) M
    else
      if ix_i (x5 + 1) 6 then
      bd_x (F_X5_reachStop M (fw_ri M (g1 + 4 + x4.toNatClampNeg) (x5 + 1)) x3) fun M7 =>
      k12 x3 (x4 + 1) M7
      else none
    else none
def F_X5_reachNeighbours_12 (g1 : Nat) (a2 : Int32)  : Nat → Int32 → Int32 → fw_M → Option (fw_M)
  | 0, _, _, _ => none
  | n + 1, x3, x4, M =>
    if (M g1 1) ≤ x4 then
      some M
    else
      bd_x (F_X3_positionOn M g1 x4 a2) fun r10 =>
      if r10 ≤ 0 then
        F_X5_reachNeighbours_52 g1 a2 (fun x3 x4 M => F_X5_reachNeighbours_12 g1 a2 n x3 x4 M) x3 x4 r10 M
      else
        if ix_i x4 5 then
        if ix_i (r10 - 1) 6 then
        bd_x (F_X5_reachStop M (fw_ri M (g1 + 4 + x4.toNatClampNeg) (r10 - 1)) x3) fun M17 =>
        F_X5_reachNeighbours_52 g1 a2 (fun x3 x4 M => F_X5_reachNeighbours_12 g1 a2 n x3 x4 M) x3 x4 r10 M17
        else none
        else none
def F_X5_reachNeighbours (M : fw_M) (g1 : Nat) (a2 : Int32) : Option (fw_M) :=
  if ix_i a2 10 then
  F_X5_reachNeighbours_12 g1 a2 64 ((fw_ri M 356 a2) + 1) 0 M
  else none
set_option maxHeartbeats 4000000 in
set_option maxRecDepth 100000 in
theorem cm_X5_reachNeighbours {l : Launch} {X : fw_X} {M : fw_M} {g1 : Nat} {a2 : Int32} (h1 : is3 g1) {o : fw_M} (hF : F_X5_reachNeighbours M g1 a2 = some o) : ct_v l X yX5_reachNeighbours cX5_reachNeighbours 6 none ({ frames := 1, cells := 0, slots := 0, locals := 23 } : Room) M [.ref (fw_ad X 355), .ref (fw_ad X g1), .int a2] (.inl 0, o) := by
  refine fw_open rfl (Nat.le_of_ble_eq_true rfl) (fun p e s m below meth c ls C hr hlk hnm hex hl B => ?_)
  have C : fr_C X p c cX5_reachNeighbours 6 RX5 s m ([.ref (fw_ad X 355), .ref (fw_ad X g1), .int a2] : List Value).toArray := C
  have hx := C.1.1
  have hb := C.1.2.1
  have hl : lv_has ls 6 [(0, .ref (fw_ad X 355)), (1, .ref (fw_ad X g1)), (2, .int a2)] := hl
  have hJ52 : ∀ (k12 : Int32 → Int32 → fw_M → Option (fw_M)), (∀ (x3 : Int32) (x4 : Int32) (M : fw_M) (H : Heap) (locs : List Loc) (ls : Array Slot), k12 x3 x4 M = some o → fr_H X s M H locs → lv_has ls 6 [(0, .ref (fw_ad X 355)), (1, .ref (fw_ad X g1)), (2, .int a2), (3, .int x3), (4, .int x4)] → W p l e ({ frames := 1, cells := 0, slots := 0, locals := 23 } : Room) s m ([.ref (fw_ad X 355), .ref (fw_ad X g1), .int a2] : List Value).toArray below meth c H locs 0 0 (vx_MQ below (fw_Qv X (.inl 0, o)) (fw_Qx X (.inl 0, o)) ([.ref (fw_ad X 355), .ref (fw_ad X g1), .int a2] : List Value).toArray s 0 0 (fw_A X)) (F0 m 12 ls [])) → ∀ (x3 : Int32) (x4 : Int32) (x5 : Int32) (M : fw_M) (H : Heap) (locs : List Loc) (ls : Array Slot), F_X5_reachNeighbours_52 g1 a2 k12 x3 x4 x5 M = some o → fr_H X s M H locs → lv_has ls 6 [(0, .ref (fw_ad X 355)), (1, .ref (fw_ad X g1)), (2, .int a2), (3, .int x3), (4, .int x4), (5, .int x5)] → W p l e ({ frames := 1, cells := 0, slots := 0, locals := 23 } : Room) s m ([.ref (fw_ad X 355), .ref (fw_ad X g1), .int a2] : List Value).toArray below meth c H locs 0 0 (vx_MQ below (fw_Qv X (.inl 0, o)) (fw_Qx X (.inl 0, o)) ([.ref (fw_ad X 355), .ref (fw_ad X g1), .int a2] : List Value).toArray s 0 0 (fw_A X)) (F0 m 52 ls []) := by
    intro k12 hk12 x3 x4 x5 M H locs ls hF B hl
    unfold F_X5_reachNeighbours_52 at hF
    refine lv_iload hx hb dX5_reachNeighbours_52 (lv_at hl 5 rfl) ?_
    refine lv_iconst (v := (-1)) hx hb dX5_reachNeighbours_54 (by decide) ?_
    refine lv_icmp_eq (tgt := 89) hx hb dX5_reachNeighbours_55 (by decide) (fun c1 => ?_) (fun c1 => ?_)
    · have hF := it_t hF c1
      refine lv_iinc (v := (x4 + 1)) (lv' := [(4, .int (x4 + 1)), (0, .ref (fw_ad X 355)), (1, .ref (fw_ad X g1)), (2, .int a2), (3, .int x3), (5, .int x5)]) hx hb dX5_reachNeighbours_89 hl (k := 4) rfl rfl (by decide) rfl (fun ls hl => ?_)
      refine lv_goto (tgt := 12) hx hb dX5_reachNeighbours_92 (by decide) ?_
      exact hk12 x3 (x4 + 1) M _ _ _ hF B (lv_sub hl [1, 2, 3, 4, 0] rfl)
    · have hF := it_f hF c1
      refine lv_iload hx hb dX5_reachNeighbours_58 (lv_at hl 5 rfl) ?_
      refine lv_iconst (v := 1) hx hb dX5_reachNeighbours_60 (by decide) ?_
      refine lv_iadd hx hb dX5_reachNeighbours_61 ?_
      refine lv_aload_n hx hb dX5_reachNeighbours_62 rfl (lv_at hl 1 rfl) ?_
      refine gf_X5_55 C B h1 dX5_reachNeighbours_63 ?_
      refine lv_iload hx hb dX5_reachNeighbours_66 (lv_at hl 4 rfl) ?_
      obtain ⟨c2, hF⟩ := of_g hF
      refine fr_ia C B (ar_3_2 h1) c2 dX5_reachNeighbours_68 ?_
      refine lv_icmp_ge (tgt := 89) hx hb dX5_reachNeighbours_69 (by decide) (fun c3 => ?_) (fun c3 => ?_)
      · have hF := it_t hF c3
        refine lv_iinc (v := (x4 + 1)) (lv' := [(4, .int (x4 + 1)), (0, .ref (fw_ad X 355)), (1, .ref (fw_ad X g1)), (2, .int a2), (3, .int x3), (5, .int x5)]) hx hb dX5_reachNeighbours_89 hl (k := 4) rfl rfl (by decide) rfl (fun ls hl => ?_)
        refine lv_goto (tgt := 12) hx hb dX5_reachNeighbours_92 (by decide) ?_
        exact hk12 x3 (x4 + 1) M _ _ _ hF B (lv_sub hl [1, 2, 3, 4, 0] rfl)
      · have hF := it_f hF c3
        refine lv_aload_n hx hb dX5_reachNeighbours_72 rfl (lv_at hl 0 rfl) ?_
        refine lv_aload_n hx hb dX5_reachNeighbours_73 rfl (lv_at hl 1 rfl) ?_
        refine gf_X5_51 C B h1 dX5_reachNeighbours_74 ?_
        refine lv_iload hx hb dX5_reachNeighbours_77 (lv_at hl 4 rfl) ?_
        refine fr_aa C B (aq_3 h1) c2 dX5_reachNeighbours_79 ?_
        refine lv_iload hx hb dX5_reachNeighbours_80 (lv_at hl 5 rfl) ?_
        refine lv_iconst (v := 1) hx hb dX5_reachNeighbours_82 (by decide) ?_
        refine lv_iadd hx hb dX5_reachNeighbours_83 ?_
        obtain ⟨c4, hF⟩ := of_g hF
        refine fr_ia C B (ar_3_row h1 (ix_lt c2)) c4 dX5_reachNeighbours_84 ?_
        refine lv_iload_n hx hb dX5_reachNeighbours_85 rfl (lv_at hl 3 rfl) ?_
        obtain ⟨M7, hf5, hF⟩ := bx_e hF
        refine fr_cVv (As := [.int (fw_ri M (g1 + 4 + x4.toNatClampNeg) (x5 + 1)), .int x3]) (rest := []) C B (cm_X5_reachStop hf5) ob_5 rfl yw_X5_reachStop wm_X5_34 rfl hl.1 rfl (Nat.le_of_ble_eq_true rfl) ⟨Nat.le_of_ble_eq_true rfl, Nat.le_of_ble_eq_true rfl⟩ ⟨Nat.le_of_ble_eq_true rfl, Nat.le_of_ble_eq_true rfl⟩ dX5_reachNeighbours_86 (fr_nx rfl) (fun M9 H locs ho9 B => ?_)
        obtain ⟨-, rfl⟩ := oi_e ho9
        refine lv_iinc (v := (x4 + 1)) (lv' := [(4, .int (x4 + 1)), (0, .ref (fw_ad X 355)), (1, .ref (fw_ad X g1)), (2, .int a2), (3, .int x3), (5, .int x5)]) hx hb dX5_reachNeighbours_89 hl (k := 4) rfl rfl (by decide) rfl (fun ls hl => ?_)
        refine lv_goto (tgt := 12) hx hb dX5_reachNeighbours_92 (by decide) ?_
        exact hk12 x3 (x4 + 1) M7 _ _ _ hF B (lv_sub hl [1, 2, 3, 4, 0] rfl)
  have hJ12 : ∀ (n : Nat), ∀ (x3 : Int32) (x4 : Int32) (M : fw_M) (H : Heap) (locs : List Loc) (ls : Array Slot), F_X5_reachNeighbours_12 g1 a2 n x3 x4 M = some o → fr_H X s M H locs → lv_has ls 6 [(0, .ref (fw_ad X 355)), (1, .ref (fw_ad X g1)), (2, .int a2), (3, .int x3), (4, .int x4)] → W p l e ({ frames := 1, cells := 0, slots := 0, locals := 23 } : Room) s m ([.ref (fw_ad X 355), .ref (fw_ad X g1), .int a2] : List Value).toArray below meth c H locs 0 0 (vx_MQ below (fw_Qv X (.inl 0, o)) (fw_Qx X (.inl 0, o)) ([.ref (fw_ad X 355), .ref (fw_ad X g1), .int a2] : List Value).toArray s 0 0 (fw_A X)) (F0 m 12 ls []) := by
    intro n
    induction n with
    | zero =>
      intro x3 x4 M H locs ls hF B hl
      exact absurd hF (by simp [F_X5_reachNeighbours_12])
    | succ n ih =>
      intro x3 x4 M H locs ls hF B hl
      rw [F_X5_reachNeighbours_12] at hF
      refine lv_iload hx hb dX5_reachNeighbours_12 (lv_at hl 4 rfl) ?_
      refine lv_aload_n hx hb dX5_reachNeighbours_14 rfl (lv_at hl 1 rfl) ?_
      refine gf_X5_42 C B h1 dX5_reachNeighbours_15 ?_
      refine lv_icmp_ge (tgt := 95) hx hb dX5_reachNeighbours_18 (by decide) (fun c8 => ?_) (fun c8 => ?_)
      · have hF := it_t hF c8
        exact fr_vret C B hr hlk (by rw [← Option.some.inj hF]) (Nat.le_of_ble_eq_true rfl) (Nat.le_of_ble_eq_true rfl) dX5_reachNeighbours_95
      · have hF := it_f hF c8
        refine lv_aload_n hx hb dX5_reachNeighbours_21 rfl (lv_at hl 1 rfl) ?_
        refine lv_iload hx hb dX5_reachNeighbours_22 (lv_at hl 4 rfl) ?_
        refine lv_iload_n hx hb dX5_reachNeighbours_24 rfl (lv_at hl 2 rfl) ?_
        obtain ⟨r10, hf9, hF⟩ := bx_e hF
        refine fr_cVi (As := [.int x4, .int a2]) (rest := []) C B (cm_X3_positionOn h1 hf9) (ob_3 h1) rfl yw_X3_positionOn wm_X5_47 rfl hl.1 rfl (Nat.le_of_ble_eq_true rfl) ⟨Nat.le_of_ble_eq_true rfl, Nat.le_of_ble_eq_true rfl⟩ ⟨Nat.le_of_ble_eq_true rfl, Nat.le_of_ble_eq_true rfl⟩ dX5_reachNeighbours_25 (fr_nx rfl) (fun r9 M9 H locs ho9 B => ?_)
        obtain ⟨rfl, rfl⟩ := oi_e ho9
        refine lv_istore (lv' := [(5, .int r10), (0, .ref (fw_ad X 355)), (1, .ref (fw_ad X g1)), (2, .int a2), (3, .int x3), (4, .int x4)]) hx hb dX5_reachNeighbours_28 hl (by decide) rfl (fun ls hl => ?_)
        refine lv_iload hx hb dX5_reachNeighbours_30 (lv_at hl 0 rfl) ?_
        refine lv_if_le (tgt := 52) hx hb dX5_reachNeighbours_32 (by decide) (fun c12 => ?_) (fun c12 => ?_)
        · have hF := it_t hF c12
          exact hJ52 (fun x3 x4 M => F_X5_reachNeighbours_12 g1 a2 n x3 x4 M) (fun x3 x4 M H locs ls h1 h2 h3 => ih x3 x4 M H locs ls h1 h2 h3) x3 x4 r10 M _ _ _ hF B (lv_sub hl [1, 2, 3, 4, 5, 0] rfl)
        · have hF := it_f hF c12
          refine lv_aload_n hx hb dX5_reachNeighbours_35 rfl (lv_at hl 1 rfl) ?_
          refine lv_aload_n hx hb dX5_reachNeighbours_36 rfl (lv_at hl 2 rfl) ?_
          refine gf_X5_51 C B h1 dX5_reachNeighbours_37 ?_
          refine lv_iload hx hb dX5_reachNeighbours_40 (lv_at hl 5 rfl) ?_
          obtain ⟨c13, hF⟩ := of_g hF
          refine fr_aa C B (aq_3 h1) c13 dX5_reachNeighbours_42 ?_
          refine lv_iload hx hb dX5_reachNeighbours_43 (lv_at hl 0 rfl) ?_
          refine lv_iconst (v := 1) hx hb dX5_reachNeighbours_45 (by decide) ?_
          refine lv_isub hx hb dX5_reachNeighbours_46 ?_
          obtain ⟨c14, hF⟩ := of_g hF
          refine fr_ia C B (ar_3_row h1 (ix_lt c13)) c14 dX5_reachNeighbours_47 ?_
          refine lv_iload_n hx hb dX5_reachNeighbours_48 rfl (lv_at hl 4 rfl) ?_
          obtain ⟨M17, hf15, hF⟩ := bx_e hF
          refine fr_cVv (As := [.int (fw_ri M (g1 + 4 + x4.toNatClampNeg) (r10 - 1)), .int x3]) (rest := []) C B (cm_X5_reachStop hf15) ob_5 rfl yw_X5_reachStop wm_X5_34 rfl hl.1 rfl (Nat.le_of_ble_eq_true rfl) ⟨Nat.le_of_ble_eq_true rfl, Nat.le_of_ble_eq_true rfl⟩ ⟨Nat.le_of_ble_eq_true rfl, Nat.le_of_ble_eq_true rfl⟩ dX5_reachNeighbours_49 (fr_nx rfl) (fun M9 H locs ho9 B => ?_)
          obtain ⟨-, rfl⟩ := oi_e ho9
          exact hJ52 (fun x3 x4 M => F_X5_reachNeighbours_12 g1 a2 n x3 x4 M) (fun x3 x4 M H locs ls h1 h2 h3 => ih x3 x4 M H locs ls h1 h2 h3) x3 x4 r10 M17 _ _ _ hF B (lv_sub hl [1, 2, 3, 4, 5, 0] rfl)
  unfold F_X5_reachNeighbours at hF
  refine lv_aload_n hx hb dX5_reachNeighbours_0 rfl (lv_at hl 0 rfl) ?_
  refine gf_X5_9 C B dX5_reachNeighbours_1 ?_
  refine lv_iload_n hx hb dX5_reachNeighbours_4 rfl (lv_at hl 2 rfl) ?_
  obtain ⟨c18, hF⟩ := of_g hF
  refine fr_ia C B ar_5_356 c18 dX5_reachNeighbours_5 ?_
  refine lv_iconst (v := 1) hx hb dX5_reachNeighbours_6 (by decide) ?_
  refine lv_iadd hx hb dX5_reachNeighbours_7 ?_
  refine lv_istore_n (lv' := [(3, .int ((fw_ri M 356 a2) + 1)), (0, .ref (fw_ad X 355)), (1, .ref (fw_ad X g1)), (2, .int a2)]) hx hb dX5_reachNeighbours_8 rfl hl (by decide) rfl (fun ls hl => ?_)
  refine lv_iconst (v := 0) hx hb dX5_reachNeighbours_9 (by decide) ?_
  refine lv_istore (lv' := [(4, .int 0), (3, .int ((fw_ri M 356 a2) + 1)), (0, .ref (fw_ad X 355)), (1, .ref (fw_ad X g1)), (2, .int a2)]) hx hb dX5_reachNeighbours_10 hl (by decide) rfl (fun ls hl => ?_)
  exact hJ12 64 ((fw_ri M 356 a2) + 1) 0 M _ _ _ hF B (lv_sub hl [2, 3, 4, 1, 0] rfl)
def F_X5_relaxAll_15 (g1 : Nat) (k4 : Int32 → Int32 → fw_M → Option (Int32 × fw_M)) : Nat → Int32 → Int32 → Int32 → fw_M → Option (Int32 × fw_M)
  | 0, _, _, _, _ => none
  | n + 1, x2, x3, x4, M =>
    if ix_i x3 5 then
    if (fw_ri M (g1 + 2) x3) ≤ x4 then
      k4 x2 (x3 + 1) M
    else
      if ix_i (x4 - 1) 6 then
      if ix_i x4 6 then
      bd_p (F_X5_relax M (fw_ri M (g1 + 4 + x3.toNatClampNeg) (x4 - 1)) (fw_ri M (g1 + 4 + x3.toNatClampNeg) x4)) fun r6 M7 =>
      bd_p (F_X5_relax M7 (fw_ri M (g1 + 4 + x3.toNatClampNeg) x4) (fw_ri M (g1 + 4 + x3.toNatClampNeg) (x4 - 1))) fun r9 M10 =>
      if ¬ x2 = 0 then
        F_X5_relaxAll_15 g1 k4 n 1 x3 (x4 + 1) M10
      else
        if ¬ r6 = 0 then
          F_X5_relaxAll_15 g1 k4 n 1 x3 (x4 + 1) M10
        else
          if r9 = 0 then
            F_X5_relaxAll_15 g1 k4 n 0 x3 (x4 + 1) M10
          else
            F_X5_relaxAll_15 g1 k4 n 1 x3 (x4 + 1) M10
      else none
      else none
    else none
def F_X5_relaxAll_4 (g1 : Nat)  : Nat → Int32 → Int32 → fw_M → Option (Int32 × fw_M)
  | 0, _, _, _ => none
  | n + 1, x2, x3, M =>
    if (M g1 1) ≤ x3 then
      if (x2 = 0 ∨ x2 = 1) then
      some (x2, M)
      else none
    else
      F_X5_relaxAll_15 g1 (fun x2 x3 M => F_X5_relaxAll_4 g1 n x2 x3 M) 64 x2 x3 1 M
def F_X5_relaxAll (M : fw_M) (g1 : Nat) : Option (Int32 × fw_M) :=
  F_X5_relaxAll_4 g1 64 0 0 M
set_option maxHeartbeats 4000000 in
set_option maxRecDepth 100000 in
theorem cm_X5_relaxAll {l : Launch} {X : fw_X} {M : fw_M} {g1 : Nat} (h1 : is3 g1) {o : Int32 × fw_M} (hF : F_X5_relaxAll M g1 = some o) : ct_i l X yX5_relaxAll cX5_relaxAll 9 (some .boolean) ({ frames := 1, cells := 0, slots := 0, locals := 23 } : Room) M [.ref (fw_ad X 355), .ref (fw_ad X g1)] (.inl o.1, o.2) := by
  refine fw_open rfl (Nat.le_of_ble_eq_true rfl) (fun p e s m below meth c ls C hr hlk hnm hex hl B => ?_)
  have C : fr_C X p c cX5_relaxAll 9 RX5 s m ([.ref (fw_ad X 355), .ref (fw_ad X g1)] : List Value).toArray := C
  have hx := C.1.1
  have hb := C.1.2.1
  have hl : lv_has ls 9 [(0, .ref (fw_ad X 355)), (1, .ref (fw_ad X g1))] := hl
  have hJ15 : ∀ (k4 : Int32 → Int32 → fw_M → Option (Int32 × fw_M)), (∀ (x2 : Int32) (x3 : Int32) (M : fw_M) (H : Heap) (locs : List Loc) (ls : Array Slot), k4 x2 x3 M = some o → fr_H X s M H locs → lv_has ls 9 [(0, .ref (fw_ad X 355)), (1, .ref (fw_ad X g1)), (2, .int x2), (3, .int x3)] → W p l e ({ frames := 1, cells := 0, slots := 0, locals := 23 } : Room) s m ([.ref (fw_ad X 355), .ref (fw_ad X g1)] : List Value).toArray below meth c H locs 0 0 (vx_MQ below (fw_Qi X (.inl o.1, o.2)) (fw_Qx X (.inl o.1, o.2)) ([.ref (fw_ad X 355), .ref (fw_ad X g1)] : List Value).toArray s 0 0 (fw_A X)) (F0 m 4 ls [])) → ∀ (n : Nat), ∀ (x2 : Int32) (x3 : Int32) (x4 : Int32) (M : fw_M) (H : Heap) (locs : List Loc) (ls : Array Slot), F_X5_relaxAll_15 g1 k4 n x2 x3 x4 M = some o → fr_H X s M H locs → lv_has ls 9 [(0, .ref (fw_ad X 355)), (1, .ref (fw_ad X g1)), (2, .int x2), (3, .int x3), (4, .int x4)] → W p l e ({ frames := 1, cells := 0, slots := 0, locals := 23 } : Room) s m ([.ref (fw_ad X 355), .ref (fw_ad X g1)] : List Value).toArray below meth c H locs 0 0 (vx_MQ below (fw_Qi X (.inl o.1, o.2)) (fw_Qx X (.inl o.1, o.2)) ([.ref (fw_ad X 355), .ref (fw_ad X g1)] : List Value).toArray s 0 0 (fw_A X)) (F0 m 15 ls []) := by
    intro k4 hk4
    intro n
    induction n with
    | zero =>
      intro x2 x3 x4 M H locs ls hF B hl
      exact absurd hF (by simp [F_X5_relaxAll_15])
    | succ n ih =>
      intro x2 x3 x4 M H locs ls hF B hl
      rw [F_X5_relaxAll_15] at hF
      refine lv_iload hx hb dX5_relaxAll_15 (lv_at hl 4 rfl) ?_
      refine lv_aload_n hx hb dX5_relaxAll_17 rfl (lv_at hl 1 rfl) ?_
      refine gf_X5_55 C B h1 dX5_relaxAll_18 ?_
      refine lv_iload_n hx hb dX5_relaxAll_21 rfl (lv_at hl 3 rfl) ?_
      obtain ⟨c1, hF⟩ := of_g hF
      refine fr_ia C B (ar_3_2 h1) c1 dX5_relaxAll_22 ?_
      refine lv_icmp_ge (tgt := 96) hx hb dX5_relaxAll_23 (by decide) (fun c2 => ?_) (fun c2 => ?_)
      · have hF := it_t hF c2
        refine lv_iinc (v := (x3 + 1)) (lv' := [(3, .int (x3 + 1)), (0, .ref (fw_ad X 355)), (1, .ref (fw_ad X g1)), (2, .int x2), (4, .int x4)]) hx hb dX5_relaxAll_96 hl (k := 3) rfl rfl (by decide) rfl (fun ls hl => ?_)
        refine lv_goto (tgt := 4) hx hb dX5_relaxAll_99 (by decide) ?_
        exact hk4 x2 (x3 + 1) M _ _ _ hF B (lv_sub hl [1, 2, 3, 0] rfl)
      · have hF := it_f hF c2
        refine lv_aload_n hx hb dX5_relaxAll_26 rfl (lv_at hl 1 rfl) ?_
        refine gf_X5_51 C B h1 dX5_relaxAll_27 ?_
        refine lv_iload_n hx hb dX5_relaxAll_30 rfl (lv_at hl 3 rfl) ?_
        refine fr_aa C B (aq_3 h1) c1 dX5_relaxAll_31 ?_
        refine lv_iload hx hb dX5_relaxAll_32 (lv_at hl 4 rfl) ?_
        refine lv_iconst (v := 1) hx hb dX5_relaxAll_34 (by decide) ?_
        refine lv_isub hx hb dX5_relaxAll_35 ?_
        obtain ⟨c3, hF⟩ := of_g hF
        refine fr_ia C B (ar_3_row h1 (ix_lt c1)) c3 dX5_relaxAll_36 ?_
        refine lv_istore (lv' := [(5, .int (fw_ri M (g1 + 4 + x3.toNatClampNeg) (x4 - 1))), (0, .ref (fw_ad X 355)), (1, .ref (fw_ad X g1)), (2, .int x2), (3, .int x3), (4, .int x4)]) hx hb dX5_relaxAll_37 hl (by decide) rfl (fun ls hl => ?_)
        refine lv_aload_n hx hb dX5_relaxAll_39 rfl (lv_at hl 2 rfl) ?_
        refine gf_X5_51 C B h1 dX5_relaxAll_40 ?_
        refine lv_iload_n hx hb dX5_relaxAll_43 rfl (lv_at hl 4 rfl) ?_
        refine fr_aa C B (aq_3 h1) c1 dX5_relaxAll_44 ?_
        refine lv_iload hx hb dX5_relaxAll_45 (lv_at hl 5 rfl) ?_
        obtain ⟨c4, hF⟩ := of_g hF
        refine fr_ia C B (ar_3_row h1 (ix_lt c1)) c4 dX5_relaxAll_47 ?_
        refine lv_istore (lv' := [(6, .int (fw_ri M (g1 + 4 + x3.toNatClampNeg) x4)), (5, .int (fw_ri M (g1 + 4 + x3.toNatClampNeg) (x4 - 1))), (0, .ref (fw_ad X 355)), (1, .ref (fw_ad X g1)), (2, .int x2), (3, .int x3), (4, .int x4)]) hx hb dX5_relaxAll_48 hl (by decide) rfl (fun ls hl => ?_)
        refine lv_aload_n hx hb dX5_relaxAll_50 rfl (lv_at hl 2 rfl) ?_
        refine lv_iload hx hb dX5_relaxAll_51 (lv_at hl 1 rfl) ?_
        refine lv_iload hx hb dX5_relaxAll_53 (lv_at hl 0 rfl) ?_
        obtain ⟨r6, M7, hf5, hF⟩ := bp_e hF
        refine fr_cVi (As := [.int (fw_ri M (g1 + 4 + x3.toNatClampNeg) (x4 - 1)), .int (fw_ri M (g1 + 4 + x3.toNatClampNeg) x4)]) (rest := []) C B (cm_X5_relax hf5) ob_5 rfl yw_X5_relax wm_X5_62 rfl hl.1 rfl (Nat.le_of_ble_eq_true rfl) ⟨Nat.le_of_ble_eq_true rfl, Nat.le_of_ble_eq_true rfl⟩ ⟨Nat.le_of_ble_eq_true rfl, Nat.le_of_ble_eq_true rfl⟩ dX5_relaxAll_55 (fr_nx rfl) (fun r9 M9 H locs ho9 B => ?_)
        obtain ⟨rfl, rfl⟩ := oi_e ho9
        refine lv_istore (lv' := [(7, .int r6), (6, .int (fw_ri M (g1 + 4 + x3.toNatClampNeg) x4)), (5, .int (fw_ri M (g1 + 4 + x3.toNatClampNeg) (x4 - 1))), (0, .ref (fw_ad X 355)), (1, .ref (fw_ad X g1)), (2, .int x2), (3, .int x3), (4, .int x4)]) hx hb dX5_relaxAll_58 hl (by decide) rfl (fun ls hl => ?_)
        refine lv_aload_n hx hb dX5_relaxAll_60 rfl (lv_at hl 3 rfl) ?_
        refine lv_iload hx hb dX5_relaxAll_61 (lv_at hl 1 rfl) ?_
        refine lv_iload hx hb dX5_relaxAll_63 (lv_at hl 2 rfl) ?_
        obtain ⟨r9, M10, hf8, hF⟩ := bp_e hF
        refine fr_cVi (As := [.int (fw_ri M (g1 + 4 + x3.toNatClampNeg) x4), .int (fw_ri M (g1 + 4 + x3.toNatClampNeg) (x4 - 1))]) (rest := []) C B (cm_X5_relax hf8) ob_5 rfl yw_X5_relax wm_X5_62 rfl hl.1 rfl (Nat.le_of_ble_eq_true rfl) ⟨Nat.le_of_ble_eq_true rfl, Nat.le_of_ble_eq_true rfl⟩ ⟨Nat.le_of_ble_eq_true rfl, Nat.le_of_ble_eq_true rfl⟩ dX5_relaxAll_65 (fr_nx rfl) (fun r9 M9 H locs ho9 B => ?_)
        obtain ⟨rfl, rfl⟩ := oi_e ho9
        refine lv_istore (lv' := [(8, .int r9), (7, .int r6), (6, .int (fw_ri M (g1 + 4 + x3.toNatClampNeg) x4)), (5, .int (fw_ri M (g1 + 4 + x3.toNatClampNeg) (x4 - 1))), (0, .ref (fw_ad X 355)), (1, .ref (fw_ad X g1)), (2, .int x2), (3, .int x3), (4, .int x4)]) hx hb dX5_relaxAll_68 hl (by decide) rfl (fun ls hl => ?_)
        refine lv_iload_n hx hb dX5_relaxAll_70 rfl (lv_at hl 6 rfl) ?_
        refine lv_if_ne (tgt := 84) hx hb dX5_relaxAll_71 (by decide) (fun c11 => ?_) (fun c11 => ?_)
        · have hF := it_t hF c11
          refine lv_iconst (v := 1) hx hb dX5_relaxAll_84 (by decide) ?_
          refine lv_goto (tgt := 89) hx hb dX5_relaxAll_85 (by decide) ?_
          refine lv_istore_n (lv' := [(2, .int 1), (8, .int r9), (7, .int r6), (6, .int (fw_ri M (g1 + 4 + x3.toNatClampNeg) x4)), (5, .int (fw_ri M (g1 + 4 + x3.toNatClampNeg) (x4 - 1))), (0, .ref (fw_ad X 355)), (1, .ref (fw_ad X g1)), (3, .int x3), (4, .int x4)]) hx hb dX5_relaxAll_89 rfl hl (by decide) rfl (fun ls hl => ?_)
          refine lv_iinc (v := (x4 + 1)) (lv' := [(4, .int (x4 + 1)), (2, .int 1), (8, .int r9), (7, .int r6), (6, .int (fw_ri M (g1 + 4 + x3.toNatClampNeg) x4)), (5, .int (fw_ri M (g1 + 4 + x3.toNatClampNeg) (x4 - 1))), (0, .ref (fw_ad X 355)), (1, .ref (fw_ad X g1)), (3, .int x3)]) hx hb dX5_relaxAll_90 hl (k := 8) rfl rfl (by decide) rfl (fun ls hl => ?_)
          refine lv_goto (tgt := 15) hx hb dX5_relaxAll_93 (by decide) ?_
          exact ih 1 x3 (x4 + 1) M10 _ _ _ hF B (lv_sub hl [6, 7, 1, 8, 0] rfl)
        · have hF := it_f hF (not_not_intro c11)
          refine lv_iload hx hb dX5_relaxAll_74 (lv_at hl 1 rfl) ?_
          refine lv_if_ne (tgt := 84) hx hb dX5_relaxAll_76 (by decide) (fun c12 => ?_) (fun c12 => ?_)
          · have hF := it_t hF c12
            refine lv_iconst (v := 1) hx hb dX5_relaxAll_84 (by decide) ?_
            refine lv_goto (tgt := 89) hx hb dX5_relaxAll_85 (by decide) ?_
            refine lv_istore_n (lv' := [(2, .int 1), (8, .int r9), (7, .int r6), (6, .int (fw_ri M (g1 + 4 + x3.toNatClampNeg) x4)), (5, .int (fw_ri M (g1 + 4 + x3.toNatClampNeg) (x4 - 1))), (0, .ref (fw_ad X 355)), (1, .ref (fw_ad X g1)), (3, .int x3), (4, .int x4)]) hx hb dX5_relaxAll_89 rfl hl (by decide) rfl (fun ls hl => ?_)
            refine lv_iinc (v := (x4 + 1)) (lv' := [(4, .int (x4 + 1)), (2, .int 1), (8, .int r9), (7, .int r6), (6, .int (fw_ri M (g1 + 4 + x3.toNatClampNeg) x4)), (5, .int (fw_ri M (g1 + 4 + x3.toNatClampNeg) (x4 - 1))), (0, .ref (fw_ad X 355)), (1, .ref (fw_ad X g1)), (3, .int x3)]) hx hb dX5_relaxAll_90 hl (k := 8) rfl rfl (by decide) rfl (fun ls hl => ?_)
            refine lv_goto (tgt := 15) hx hb dX5_relaxAll_93 (by decide) ?_
            exact ih 1 x3 (x4 + 1) M10 _ _ _ hF B (lv_sub hl [6, 7, 1, 8, 0] rfl)
          · have hF := it_f hF (not_not_intro c12)
            refine lv_iload hx hb dX5_relaxAll_79 (lv_at hl 0 rfl) ?_
            refine lv_if_eq (tgt := 88) hx hb dX5_relaxAll_81 (by decide) (fun c13 => ?_) (fun c13 => ?_)
            · have hF := it_t hF c13
              refine lv_iconst (v := 0) hx hb dX5_relaxAll_88 (by decide) ?_
              refine lv_istore_n (lv' := [(2, .int 0), (8, .int r9), (7, .int r6), (6, .int (fw_ri M (g1 + 4 + x3.toNatClampNeg) x4)), (5, .int (fw_ri M (g1 + 4 + x3.toNatClampNeg) (x4 - 1))), (0, .ref (fw_ad X 355)), (1, .ref (fw_ad X g1)), (3, .int x3), (4, .int x4)]) hx hb dX5_relaxAll_89 rfl hl (by decide) rfl (fun ls hl => ?_)
              refine lv_iinc (v := (x4 + 1)) (lv' := [(4, .int (x4 + 1)), (2, .int 0), (8, .int r9), (7, .int r6), (6, .int (fw_ri M (g1 + 4 + x3.toNatClampNeg) x4)), (5, .int (fw_ri M (g1 + 4 + x3.toNatClampNeg) (x4 - 1))), (0, .ref (fw_ad X 355)), (1, .ref (fw_ad X g1)), (3, .int x3)]) hx hb dX5_relaxAll_90 hl (k := 8) rfl rfl (by decide) rfl (fun ls hl => ?_)
              refine lv_goto (tgt := 15) hx hb dX5_relaxAll_93 (by decide) ?_
              exact ih 0 x3 (x4 + 1) M10 _ _ _ hF B (lv_sub hl [6, 7, 1, 8, 0] rfl)
            · have hF := it_f hF c13
              refine lv_iconst (v := 1) hx hb dX5_relaxAll_84 (by decide) ?_
              refine lv_goto (tgt := 89) hx hb dX5_relaxAll_85 (by decide) ?_
              refine lv_istore_n (lv' := [(2, .int 1), (8, .int r9), (7, .int r6), (6, .int (fw_ri M (g1 + 4 + x3.toNatClampNeg) x4)), (5, .int (fw_ri M (g1 + 4 + x3.toNatClampNeg) (x4 - 1))), (0, .ref (fw_ad X 355)), (1, .ref (fw_ad X g1)), (3, .int x3), (4, .int x4)]) hx hb dX5_relaxAll_89 rfl hl (by decide) rfl (fun ls hl => ?_)
              refine lv_iinc (v := (x4 + 1)) (lv' := [(4, .int (x4 + 1)), (2, .int 1), (8, .int r9), (7, .int r6), (6, .int (fw_ri M (g1 + 4 + x3.toNatClampNeg) x4)), (5, .int (fw_ri M (g1 + 4 + x3.toNatClampNeg) (x4 - 1))), (0, .ref (fw_ad X 355)), (1, .ref (fw_ad X g1)), (3, .int x3)]) hx hb dX5_relaxAll_90 hl (k := 8) rfl rfl (by decide) rfl (fun ls hl => ?_)
              refine lv_goto (tgt := 15) hx hb dX5_relaxAll_93 (by decide) ?_
              exact ih 1 x3 (x4 + 1) M10 _ _ _ hF B (lv_sub hl [6, 7, 1, 8, 0] rfl)
  have hJ4 : ∀ (n : Nat), ∀ (x2 : Int32) (x3 : Int32) (M : fw_M) (H : Heap) (locs : List Loc) (ls : Array Slot), F_X5_relaxAll_4 g1 n x2 x3 M = some o → fr_H X s M H locs → lv_has ls 9 [(0, .ref (fw_ad X 355)), (1, .ref (fw_ad X g1)), (2, .int x2), (3, .int x3)] → W p l e ({ frames := 1, cells := 0, slots := 0, locals := 23 } : Room) s m ([.ref (fw_ad X 355), .ref (fw_ad X g1)] : List Value).toArray below meth c H locs 0 0 (vx_MQ below (fw_Qi X (.inl o.1, o.2)) (fw_Qx X (.inl o.1, o.2)) ([.ref (fw_ad X 355), .ref (fw_ad X g1)] : List Value).toArray s 0 0 (fw_A X)) (F0 m 4 ls []) := by
    intro n
    induction n with
    | zero =>
      intro x2 x3 M H locs ls hF B hl
      exact absurd hF (by simp [F_X5_relaxAll_4])
    | succ n ih =>
      intro x2 x3 M H locs ls hF B hl
      rw [F_X5_relaxAll_4] at hF
      refine lv_iload_n hx hb dX5_relaxAll_4 rfl (lv_at hl 3 rfl) ?_
      refine lv_aload_n hx hb dX5_relaxAll_5 rfl (lv_at hl 1 rfl) ?_
      refine gf_X5_42 C B h1 dX5_relaxAll_6 ?_
      refine lv_icmp_ge (tgt := 102) hx hb dX5_relaxAll_9 (by decide) (fun c14 => ?_) (fun c14 => ?_)
      · have hF := it_t hF c14
        refine lv_iload_n hx hb dX5_relaxAll_102 rfl (lv_at hl 2 rfl) ?_
        obtain ⟨c15, hF⟩ := of_g hF
        exact fr_iret C B hr (nz_b c15) hlk (by rw [← Option.some.inj hF]) (Nat.le_of_ble_eq_true rfl) (Nat.le_of_ble_eq_true rfl) dX5_relaxAll_103
      · have hF := it_f hF c14
        refine lv_iconst (v := 1) hx hb dX5_relaxAll_12 (by decide) ?_
        refine lv_istore (lv' := [(4, .int 1), (0, .ref (fw_ad X 355)), (1, .ref (fw_ad X g1)), (2, .int x2), (3, .int x3)]) hx hb dX5_relaxAll_13 hl (by decide) rfl (fun ls hl => ?_)
        exact hJ15 (fun x2 x3 M => F_X5_relaxAll_4 g1 n x2 x3 M) (fun x2 x3 M H locs ls h1 h2 h3 => ih x2 x3 M H locs ls h1 h2 h3) 64 x2 x3 1 M _ _ _ hF B (lv_sub hl [1, 2, 3, 4, 0] rfl)
  unfold F_X5_relaxAll at hF
  refine lv_iconst (v := 0) hx hb dX5_relaxAll_0 (by decide) ?_
  refine lv_istore_n (lv' := [(2, .int 0), (0, .ref (fw_ad X 355)), (1, .ref (fw_ad X g1))]) hx hb dX5_relaxAll_1 rfl hl (by decide) rfl (fun ls hl => ?_)
  refine lv_iconst (v := 0) hx hb dX5_relaxAll_2 (by decide) ?_
  refine lv_istore_n (lv' := [(3, .int 0), (2, .int 0), (0, .ref (fw_ad X 355)), (1, .ref (fw_ad X g1))]) hx hb dX5_relaxAll_3 rfl hl (by decide) rfl (fun ls hl => ?_)
  exact hJ4 64 0 0 M _ _ _ hF B (lv_sub hl [2, 3, 1, 0] rfl)
def F_X5_linesBySearch_32 (g1 : Nat) (a2 : Int32) (a3 : Int32)  : Nat → Int32 → fw_M → Option (Int32 × fw_M)
  | 0, _, _ => none
  | n + 1, x4, M =>
    if (M 355 4) ≤ x4 then
      some ((-1), M)
    else
      if 5 ≤ x4 then
        some ((-1), M)
      else
        if ix_i x4 5 then
        bd_x (F_X3_serves M g1 (fw_ri M 359 x4) a3) fun r5 =>
        if r5 = 0 then
          if ix_i (fw_ri M 359 x4) 5 then
          bd_x (F_X5_reachLines M g1 (fw_ri M (g1 + 9) (fw_ri M 359 x4)) ((fw_ri M 358 (fw_ri M 359 x4)) + 1)) fun M11 =>
          F_X5_linesBySearch_32 g1 a2 a3 n (x4 + 1) M11
          else none
        else
          if ix_i (fw_ri M 359 x4) 5 then
          some ((fw_ri M 358 (fw_ri M 359 x4)), M)
          else none
        else none
def F_X5_linesBySearch (M : fw_M) (g1 : Nat) (a2 : Int32) (a3 : Int32) : Option (Int32 × fw_M) :=
  if ¬ a2 = a3 then
    bd_x (F_J7_fill_53178 M 358 5 (-1)) fun M16 =>
    lt_x (fw_up M16 355 4 0) fun M17 =>
    bd_x (F_X5_reachLines M17 g1 (1 <<< (a2 &&& 31)) 0) fun M20 =>
    F_X5_linesBySearch_32 g1 a2 a3 64 0 M20
  else
    some (0, M)
set_option maxHeartbeats 4000000 in
set_option maxRecDepth 100000 in
theorem cm_X5_linesBySearch {l : Launch} {X : fw_X} {M : fw_M} {g1 : Nat} {a2 : Int32} {a3 : Int32} (h1 : is3 g1) {o : Int32 × fw_M} (hF : F_X5_linesBySearch M g1 a2 a3 = some o) : ct_i l X yX5_linesBySearch cX5_linesBySearch 6 (some .int) ({ frames := 1, cells := 0, slots := 0, locals := 24 } : Room) M [.ref (fw_ad X 355), .ref (fw_ad X g1), .int a2, .int a3] (.inl o.1, o.2) := by
  refine fw_open rfl (Nat.le_of_ble_eq_true rfl) (fun p e s m below meth c ls C hr hlk hnm hex hl B => ?_)
  have C : fr_C X p c cX5_linesBySearch 6 RX5 s m ([.ref (fw_ad X 355), .ref (fw_ad X g1), .int a2, .int a3] : List Value).toArray := C
  have hx := C.1.1
  have hb := C.1.2.1
  have hl : lv_has ls 6 [(0, .ref (fw_ad X 355)), (1, .ref (fw_ad X g1)), (2, .int a2), (3, .int a3)] := hl
  have hJ32 : ∀ (n : Nat), ∀ (x4 : Int32) (M : fw_M) (H : Heap) (locs : List Loc) (ls : Array Slot), F_X5_linesBySearch_32 g1 a2 a3 n x4 M = some o → fr_H X s M H locs → lv_has ls 6 [(0, .ref (fw_ad X 355)), (1, .ref (fw_ad X g1)), (3, .int a3), (4, .int x4)] → W p l e ({ frames := 1, cells := 0, slots := 0, locals := 24 } : Room) s m ([.ref (fw_ad X 355), .ref (fw_ad X g1), .int a2, .int a3] : List Value).toArray below meth c H locs 0 0 (vx_MQ below (fw_Qi X (.inl o.1, o.2)) (fw_Qx X (.inl o.1, o.2)) ([.ref (fw_ad X 355), .ref (fw_ad X g1), .int a2, .int a3] : List Value).toArray s 0 0 (fw_A X)) (F0 m 32 ls []) := by
    intro n
    induction n with
    | zero =>
      intro x4 M H locs ls hF B hl
      exact absurd hF (by simp [F_X5_linesBySearch_32])
    | succ n ih =>
      intro x4 M H locs ls hF B hl
      rw [F_X5_linesBySearch_32] at hF
      refine lv_iload hx hb dX5_linesBySearch_32 (lv_at hl 3 rfl) ?_
      refine lv_aload_n hx hb dX5_linesBySearch_34 rfl (lv_at hl 0 rfl) ?_
      refine gf_X5_30 C B dX5_linesBySearch_35 ?_
      refine lv_icmp_ge (tgt := 101) hx hb dX5_linesBySearch_38 (by decide) (fun c1 => ?_) (fun c1 => ?_)
      · have hF := it_t hF c1
        refine lv_iconst (v := (-1)) hx hb dX5_linesBySearch_101 (by decide) ?_
        exact fr_iret C B hr rfl hlk (by rw [← Option.some.inj hF]) (Nat.le_of_ble_eq_true rfl) (Nat.le_of_ble_eq_true rfl) dX5_linesBySearch_102
      · have hF := it_f hF c1
        refine lv_iload hx hb dX5_linesBySearch_41 (lv_at hl 3 rfl) ?_
        refine lv_iconst (v := 5) hx hb dX5_linesBySearch_43 (by decide) ?_
        refine lv_icmp_ge (tgt := 101) hx hb dX5_linesBySearch_44 (by decide) (fun c2 => ?_) (fun c2 => ?_)
        · have hF := it_t hF c2
          refine lv_iconst (v := (-1)) hx hb dX5_linesBySearch_101 (by decide) ?_
          exact fr_iret C B hr rfl hlk (by rw [← Option.some.inj hF]) (Nat.le_of_ble_eq_true rfl) (Nat.le_of_ble_eq_true rfl) dX5_linesBySearch_102
        · have hF := it_f hF c2
          refine lv_aload_n hx hb dX5_linesBySearch_47 rfl (lv_at hl 0 rfl) ?_
          refine gf_X5_21 C B dX5_linesBySearch_48 ?_
          refine lv_iload hx hb dX5_linesBySearch_51 (lv_at hl 3 rfl) ?_
          obtain ⟨c3, hF⟩ := of_g hF
          refine fr_ia C B ar_5_359 c3 dX5_linesBySearch_53 ?_
          refine lv_istore (lv' := [(5, .int (fw_ri M 359 x4)), (0, .ref (fw_ad X 355)), (1, .ref (fw_ad X g1)), (3, .int a3), (4, .int x4)]) hx hb dX5_linesBySearch_54 hl (by decide) rfl (fun ls hl => ?_)
          refine lv_aload_n hx hb dX5_linesBySearch_56 rfl (lv_at hl 2 rfl) ?_
          refine lv_iload hx hb dX5_linesBySearch_57 (lv_at hl 0 rfl) ?_
          refine lv_iload_n hx hb dX5_linesBySearch_59 rfl (lv_at hl 3 rfl) ?_
          obtain ⟨r5, hf4, hF⟩ := bx_e hF
          refine fr_cVi (As := [.int (fw_ri M 359 x4), .int a3]) (rest := []) C B (cm_X3_serves h1 hf4) (ob_3 h1) rfl yw_X3_serves wm_X5_70 rfl hl.1 rfl (Nat.le_of_ble_eq_true rfl) ⟨Nat.le_of_ble_eq_true rfl, Nat.le_of_ble_eq_true rfl⟩ ⟨Nat.le_of_ble_eq_true rfl, Nat.le_of_ble_eq_true rfl⟩ dX5_linesBySearch_60 (fr_nx rfl) (fun r9 M9 H locs ho9 B => ?_)
          obtain ⟨rfl, rfl⟩ := oi_e ho9
          refine lv_if_eq (tgt := 74) hx hb dX5_linesBySearch_63 (by decide) (fun c7 => ?_) (fun c7 => ?_)
          · have hF := it_t hF c7
            refine lv_aload_n hx hb dX5_linesBySearch_74 rfl (lv_at hl 1 rfl) ?_
            refine lv_aload_n hx hb dX5_linesBySearch_75 rfl (lv_at hl 2 rfl) ?_
            refine lv_aload_n hx hb dX5_linesBySearch_76 rfl (lv_at hl 2 rfl) ?_
            refine gf_X5_73 C B h1 dX5_linesBySearch_77 ?_
            refine lv_iload hx hb dX5_linesBySearch_80 (lv_at hl 0 rfl) ?_
            obtain ⟨c8, hF⟩ := of_g hF
            refine fr_ia C B (ar_3_9 h1) c8 dX5_linesBySearch_82 ?_
            refine lv_aload_n hx hb dX5_linesBySearch_83 rfl (lv_at hl 1 rfl) ?_
            refine gf_X5_18 C B dX5_linesBySearch_84 ?_
            refine lv_iload hx hb dX5_linesBySearch_87 (lv_at hl 0 rfl) ?_
            refine fr_ia C B ar_5_358 c8 dX5_linesBySearch_89 ?_
            refine lv_iconst (v := 1) hx hb dX5_linesBySearch_90 (by decide) ?_
            refine lv_iadd hx hb dX5_linesBySearch_91 ?_
            obtain ⟨M11, hf9, hF⟩ := bx_e hF
            refine fr_cVv (As := [.ref (fw_ad X g1), .int (fw_ri M (g1 + 9) (fw_ri M 359 x4)), .int ((fw_ri M 358 (fw_ri M 359 x4)) + 1)]) (rest := []) C B (cm_X5_reachLines h1 hf9) ob_5 rfl yw_X5_reachLines wm_X5_66 rfl hl.1 rfl (Nat.le_of_ble_eq_true rfl) ⟨Nat.le_of_ble_eq_true rfl, Nat.le_of_ble_eq_true rfl⟩ ⟨Nat.le_of_ble_eq_true rfl, Nat.le_of_ble_eq_true rfl⟩ dX5_linesBySearch_92 (fr_nx rfl) (fun M9 H locs ho9 B => ?_)
            obtain ⟨-, rfl⟩ := oi_e ho9
            refine lv_iinc (v := (x4 + 1)) (lv' := [(4, .int (x4 + 1)), (5, .int (fw_ri M 359 x4)), (0, .ref (fw_ad X 355)), (1, .ref (fw_ad X g1)), (3, .int a3)]) hx hb dX5_linesBySearch_95 hl (k := 4) rfl rfl (by decide) rfl (fun ls hl => ?_)
            refine lv_goto (tgt := 32) hx hb dX5_linesBySearch_98 (by decide) ?_
            exact ih (x4 + 1) M11 _ _ _ hF B (lv_sub hl [2, 3, 4, 0] rfl)
          · have hF := it_f hF c7
            refine lv_aload_n hx hb dX5_linesBySearch_66 rfl (lv_at hl 1 rfl) ?_
            refine gf_X5_18 C B dX5_linesBySearch_67 ?_
            refine lv_iload hx hb dX5_linesBySearch_70 (lv_at hl 0 rfl) ?_
            obtain ⟨c12, hF⟩ := of_g hF
            refine fr_ia C B ar_5_358 c12 dX5_linesBySearch_72 ?_
            exact fr_iret C B hr rfl hlk (by rw [← Option.some.inj hF]) (Nat.le_of_ble_eq_true rfl) (Nat.le_of_ble_eq_true rfl) dX5_linesBySearch_73
  unfold F_X5_linesBySearch at hF
  refine lv_iload_n hx hb dX5_linesBySearch_0 rfl (lv_at hl 2 rfl) ?_
  refine lv_iload_n hx hb dX5_linesBySearch_1 rfl (lv_at hl 3 rfl) ?_
  refine lv_icmp_ne (tgt := 7) hx hb dX5_linesBySearch_2 (by decide) (fun c13 => ?_) (fun c13 => ?_)
  · have hF := it_t hF c13
    refine lv_aload_n hx hb dX5_linesBySearch_7 rfl (lv_at hl 0 rfl) ?_
    refine gf_X5_18 C B dX5_linesBySearch_8 ?_
    refine lv_iconst (v := (-1)) hx hb dX5_linesBySearch_11 (by decide) ?_
    obtain ⟨M16, hf14, hF⟩ := bx_e hF
    refine fr_cSv (As := [.ref (fw_ad X 358), .int (-1)]) (rest := []) C B (cm_J7_fill_53178 ar_5_358 hf14) yw_J7_fill_53178 wm_X5_24 rfl hl.1 rfl (Nat.le_of_ble_eq_true rfl) ⟨Nat.le_of_ble_eq_true rfl, Nat.le_of_ble_eq_true rfl⟩ ⟨Nat.le_of_ble_eq_true rfl, Nat.le_of_ble_eq_true rfl⟩ dX5_linesBySearch_12 (fr_nx rfl) (fun M9 H locs ho9 B => ?_)
    obtain ⟨-, rfl⟩ := oi_e ho9
    refine lv_aload_n hx hb dX5_linesBySearch_15 rfl (lv_at hl 0 rfl) ?_
    refine lv_iconst (v := 0) hx hb dX5_linesBySearch_16 (by decide) ?_
    refine pf_X5_30 C B dX5_linesBySearch_17 (fun H locs B => ?_)
    obtain ⟨M17, eM17, hF⟩ := lt_e hF
    rw [← eM17] at B
    refine lv_aload_n hx hb dX5_linesBySearch_20 rfl (lv_at hl 0 rfl) ?_
    refine lv_aload_n hx hb dX5_linesBySearch_21 rfl (lv_at hl 1 rfl) ?_
    refine lv_iconst (v := 1) hx hb dX5_linesBySearch_22 (by decide) ?_
    refine lv_iload_n hx hb dX5_linesBySearch_23 rfl (lv_at hl 2 rfl) ?_
    refine lv_ishl hx hb dX5_linesBySearch_24 ?_
    refine lv_iconst (v := 0) hx hb dX5_linesBySearch_25 (by decide) ?_
    obtain ⟨M20, hf18, hF⟩ := bx_e hF
    refine fr_cVv (As := [.ref (fw_ad X g1), .int (1 <<< (a2 &&& 31)), .int 0]) (rest := []) C B (cm_X5_reachLines h1 hf18) ob_5 rfl yw_X5_reachLines wm_X5_66 rfl hl.1 rfl (Nat.le_of_ble_eq_true rfl) ⟨Nat.le_of_ble_eq_true rfl, Nat.le_of_ble_eq_true rfl⟩ ⟨Nat.le_of_ble_eq_true rfl, Nat.le_of_ble_eq_true rfl⟩ dX5_linesBySearch_26 (fr_nx rfl) (fun M9 H locs ho9 B => ?_)
    obtain ⟨-, rfl⟩ := oi_e ho9
    refine lv_iconst (v := 0) hx hb dX5_linesBySearch_29 (by decide) ?_
    refine lv_istore (lv' := [(4, .int 0), (0, .ref (fw_ad X 355)), (1, .ref (fw_ad X g1)), (2, .int a2), (3, .int a3)]) hx hb dX5_linesBySearch_30 hl (by decide) rfl (fun ls hl => ?_)
    exact hJ32 64 0 M20 _ _ _ hF B (lv_sub hl [1, 2, 4, 0] rfl)
  · have hF := it_f hF (not_not_intro c13)
    refine lv_iconst (v := 0) hx hb dX5_linesBySearch_5 (by decide) ?_
    exact fr_iret C B hr rfl hlk (by rw [← Option.some.inj hF]) (Nat.le_of_ble_eq_true rfl) (Nat.le_of_ble_eq_true rfl) dX5_linesBySearch_6
def F_X5_linesByGrowth_15 (M : fw_M) (g1 : Nat) (a2 : Int32) (a3 : Int32)  : Nat → Int32 → Int32 → Option (Int32)
  | 0, _, _ => none
  | n + 1, x4, x5 =>
    if 5 < x5 then
      some (-1)
    else
      bd_x (F_X5_grown M g1 x4) fun r3 =>
      if (r3 &&& (1 <<< (a3 &&& 31))) = 0 then
        F_X5_linesByGrowth_15 M g1 a2 a3 n r3 (x5 + 1)
      else
        some (x5 - 1)
def F_X5_linesByGrowth (M : fw_M) (g1 : Nat) (a2 : Int32) (a3 : Int32) : Option (Int32) :=
  if ¬ a2 = a3 then
    F_X5_linesByGrowth_15 M g1 a2 a3 64 (1 <<< (a2 &&& 31)) 1
  else
    some 0
set_option maxHeartbeats 4000000 in
set_option maxRecDepth 100000 in
theorem cm_X5_linesByGrowth {l : Launch} {X : fw_X} {M : fw_M} {g1 : Nat} {a2 : Int32} {a3 : Int32} (h1 : is3 g1) {o : Int32} (hF : F_X5_linesByGrowth M g1 a2 a3 = some o) : ct_i l X yX5_linesByGrowth cX5_linesByGrowth 6 (some .int) ({ frames := 1, cells := 0, slots := 0, locals := 24 } : Room) M [.ref (fw_ad X 355), .ref (fw_ad X g1), .int a2, .int a3] (.inl o, M) := by
  refine fw_open rfl (Nat.le_of_ble_eq_true rfl) (fun p e s m below meth c ls C hr hlk hnm hex hl B => ?_)
  have C : fr_C X p c cX5_linesByGrowth 6 RX5 s m ([.ref (fw_ad X 355), .ref (fw_ad X g1), .int a2, .int a3] : List Value).toArray := C
  have hx := C.1.1
  have hb := C.1.2.1
  have hl : lv_has ls 6 [(0, .ref (fw_ad X 355)), (1, .ref (fw_ad X g1)), (2, .int a2), (3, .int a3)] := hl
  have hJ15 : ∀ (n : Nat), ∀ (x4 : Int32) (x5 : Int32) (H : Heap) (locs : List Loc) (ls : Array Slot), F_X5_linesByGrowth_15 M g1 a2 a3 n x4 x5 = some o → fr_H X s M H locs → lv_has ls 6 [(0, .ref (fw_ad X 355)), (1, .ref (fw_ad X g1)), (3, .int a3), (4, .int x4), (5, .int x5)] → W p l e ({ frames := 1, cells := 0, slots := 0, locals := 24 } : Room) s m ([.ref (fw_ad X 355), .ref (fw_ad X g1), .int a2, .int a3] : List Value).toArray below meth c H locs 0 0 (vx_MQ below (fw_Qi X (.inl o, M)) (fw_Qx X (.inl o, M)) ([.ref (fw_ad X 355), .ref (fw_ad X g1), .int a2, .int a3] : List Value).toArray s 0 0 (fw_A X)) (F0 m 15 ls []) := by
    intro n
    induction n with
    | zero =>
      intro x4 x5 H locs ls hF B hl
      exact absurd hF (by simp [F_X5_linesByGrowth_15])
    | succ n ih =>
      intro x4 x5 H locs ls hF B hl
      rw [F_X5_linesByGrowth_15] at hF
      refine lv_iload hx hb dX5_linesByGrowth_15 (lv_at hl 4 rfl) ?_
      refine lv_iconst (v := 5) hx hb dX5_linesByGrowth_17 (by decide) ?_
      refine lv_icmp_gt (tgt := 50) hx hb dX5_linesByGrowth_18 (by decide) (fun c1 => ?_) (fun c1 => ?_)
      · have hF := it_t hF c1
        refine lv_iconst (v := (-1)) hx hb dX5_linesByGrowth_50 (by decide) ?_
        exact fr_iret C B hr rfl hlk (by rw [← Option.some.inj hF]) (Nat.le_of_ble_eq_true rfl) (Nat.le_of_ble_eq_true rfl) dX5_linesByGrowth_51
      · have hF := it_f hF c1
        refine lv_aload_n hx hb dX5_linesByGrowth_21 rfl (lv_at hl 0 rfl) ?_
        refine lv_aload_n hx hb dX5_linesByGrowth_22 rfl (lv_at hl 1 rfl) ?_
        refine lv_iload hx hb dX5_linesByGrowth_23 (lv_at hl 3 rfl) ?_
        obtain ⟨r3, hf2, hF⟩ := bx_e hF
        refine fr_cVi (As := [.ref (fw_ad X g1), .int x4]) (rest := []) C B (cm_X5_grown h1 hf2) ob_5 rfl yw_X5_grown wm_X5_76 rfl hl.1 rfl (Nat.le_of_ble_eq_true rfl) ⟨Nat.le_of_ble_eq_true rfl, Nat.le_of_ble_eq_true rfl⟩ ⟨Nat.le_of_ble_eq_true rfl, Nat.le_of_ble_eq_true rfl⟩ dX5_linesByGrowth_25 (fr_nx rfl) (fun r9 M9 H locs ho9 B => ?_)
        obtain ⟨rfl, rfl⟩ := oi_e ho9
        refine lv_istore (lv' := [(4, .int r3), (0, .ref (fw_ad X 355)), (1, .ref (fw_ad X g1)), (3, .int a3), (5, .int x5)]) hx hb dX5_linesByGrowth_28 hl (by decide) rfl (fun ls hl => ?_)
        refine lv_iload hx hb dX5_linesByGrowth_30 (lv_at hl 0 rfl) ?_
        refine lv_iconst (v := 1) hx hb dX5_linesByGrowth_32 (by decide) ?_
        refine lv_iload_n hx hb dX5_linesByGrowth_33 rfl (lv_at hl 3 rfl) ?_
        refine lv_ishl hx hb dX5_linesByGrowth_34 ?_
        refine lv_iand hx hb dX5_linesByGrowth_35 ?_
        refine lv_if_eq (tgt := 44) hx hb dX5_linesByGrowth_36 (by decide) (fun c5 => ?_) (fun c5 => ?_)
        · have hF := it_t hF c5
          refine lv_iinc (v := (x5 + 1)) (lv' := [(5, .int (x5 + 1)), (4, .int r3), (0, .ref (fw_ad X 355)), (1, .ref (fw_ad X g1)), (3, .int a3)]) hx hb dX5_linesByGrowth_44 hl (k := 4) rfl rfl (by decide) rfl (fun ls hl => ?_)
          refine lv_goto (tgt := 15) hx hb dX5_linesByGrowth_47 (by decide) ?_
          exact ih r3 (x5 + 1) _ _ _ hF B (lv_sub hl [2, 3, 4, 1, 0] rfl)
        · have hF := it_f hF c5
          refine lv_iload hx hb dX5_linesByGrowth_39 (lv_at hl 4 rfl) ?_
          refine lv_iconst (v := 1) hx hb dX5_linesByGrowth_41 (by decide) ?_
          refine lv_isub hx hb dX5_linesByGrowth_42 ?_
          exact fr_iret C B hr rfl hlk (by rw [← Option.some.inj hF]) (Nat.le_of_ble_eq_true rfl) (Nat.le_of_ble_eq_true rfl) dX5_linesByGrowth_43
  unfold F_X5_linesByGrowth at hF
  refine lv_iload_n hx hb dX5_linesByGrowth_0 rfl (lv_at hl 2 rfl) ?_
  refine lv_iload_n hx hb dX5_linesByGrowth_1 rfl (lv_at hl 3 rfl) ?_
  refine lv_icmp_ne (tgt := 7) hx hb dX5_linesByGrowth_2 (by decide) (fun c6 => ?_) (fun c6 => ?_)
  · have hF := it_t hF c6
    refine lv_iconst (v := 1) hx hb dX5_linesByGrowth_7 (by decide) ?_
    refine lv_iload_n hx hb dX5_linesByGrowth_8 rfl (lv_at hl 2 rfl) ?_
    refine lv_ishl hx hb dX5_linesByGrowth_9 ?_
    refine lv_istore (lv' := [(4, .int (1 <<< (a2 &&& 31))), (0, .ref (fw_ad X 355)), (1, .ref (fw_ad X g1)), (2, .int a2), (3, .int a3)]) hx hb dX5_linesByGrowth_10 hl (by decide) rfl (fun ls hl => ?_)
    refine lv_iconst (v := 1) hx hb dX5_linesByGrowth_12 (by decide) ?_
    refine lv_istore (lv' := [(5, .int 1), (4, .int (1 <<< (a2 &&& 31))), (0, .ref (fw_ad X 355)), (1, .ref (fw_ad X g1)), (2, .int a2), (3, .int a3)]) hx hb dX5_linesByGrowth_13 hl (by decide) rfl (fun ls hl => ?_)
    exact hJ15 64 (1 <<< (a2 &&& 31)) 1 _ _ _ hF B (lv_sub hl [2, 3, 5, 1, 0] rfl)
  · have hF := it_f hF (not_not_intro c6)
    refine lv_iconst (v := 0) hx hb dX5_linesByGrowth_5 (by decide) ?_
    exact fr_iret C B hr rfl hlk (by rw [← Option.some.inj hF]) (Nat.le_of_ble_eq_true rfl) (Nat.le_of_ble_eq_true rfl) dX5_linesByGrowth_6
def F_X5_stepsBySearch_22 (g1 : Nat) (a2 : Int32) (a3 : Int32)  : Nat → Int32 → fw_M → Option (Int32 × fw_M)
  | 0, _, _ => none
  | n + 1, x4, M =>
    if (M 355 4) ≤ x4 then
      some ((-1), M)
    else
      if 10 ≤ x4 then
        some ((-1), M)
      else
        if ix_i x4 10 then
        if ¬ (fw_ri M 357 x4) = a3 then
          bd_x (F_X5_reachNeighbours M g1 (fw_ri M 357 x4)) fun M7 =>
          F_X5_stepsBySearch_22 g1 a2 a3 n (x4 + 1) M7
        else
          if ix_i (fw_ri M 357 x4) 10 then
          some ((fw_ri M 356 (fw_ri M 357 x4)), M)
          else none
        else none
def F_X5_stepsBySearch (M : fw_M) (g1 : Nat) (a2 : Int32) (a3 : Int32) : Option (Int32 × fw_M) :=
  bd_x (F_J7_fill_53178 M 356 10 (-1)) fun M11 =>
  lt_x (fw_up M11 355 4 0) fun M12 =>
  bd_x (F_X5_reachStop M12 a2 0) fun M15 =>
  F_X5_stepsBySearch_22 g1 a2 a3 64 0 M15
set_option maxHeartbeats 4000000 in
set_option maxRecDepth 100000 in
theorem cm_X5_stepsBySearch {l : Launch} {X : fw_X} {M : fw_M} {g1 : Nat} {a2 : Int32} {a3 : Int32} (h1 : is3 g1) {o : Int32 × fw_M} (hF : F_X5_stepsBySearch M g1 a2 a3 = some o) : ct_i l X yX5_stepsBySearch cX5_stepsBySearch 6 (some .int) ({ frames := 2, cells := 0, slots := 0, locals := 48 } : Room) M [.ref (fw_ad X 355), .ref (fw_ad X g1), .int a2, .int a3] (.inl o.1, o.2) := by
  refine fw_open rfl (Nat.le_of_ble_eq_true rfl) (fun p e s m below meth c ls C hr hlk hnm hex hl B => ?_)
  have C : fr_C X p c cX5_stepsBySearch 6 RX5 s m ([.ref (fw_ad X 355), .ref (fw_ad X g1), .int a2, .int a3] : List Value).toArray := C
  have hx := C.1.1
  have hb := C.1.2.1
  have hl : lv_has ls 6 [(0, .ref (fw_ad X 355)), (1, .ref (fw_ad X g1)), (2, .int a2), (3, .int a3)] := hl
  have hJ22 : ∀ (n : Nat), ∀ (x4 : Int32) (M : fw_M) (H : Heap) (locs : List Loc) (ls : Array Slot), F_X5_stepsBySearch_22 g1 a2 a3 n x4 M = some o → fr_H X s M H locs → lv_has ls 6 [(0, .ref (fw_ad X 355)), (1, .ref (fw_ad X g1)), (3, .int a3), (4, .int x4)] → W p l e ({ frames := 2, cells := 0, slots := 0, locals := 48 } : Room) s m ([.ref (fw_ad X 355), .ref (fw_ad X g1), .int a2, .int a3] : List Value).toArray below meth c H locs 0 0 (vx_MQ below (fw_Qi X (.inl o.1, o.2)) (fw_Qx X (.inl o.1, o.2)) ([.ref (fw_ad X 355), .ref (fw_ad X g1), .int a2, .int a3] : List Value).toArray s 0 0 (fw_A X)) (F0 m 22 ls []) := by
    intro n
    induction n with
    | zero =>
      intro x4 M H locs ls hF B hl
      exact absurd hF (by simp [F_X5_stepsBySearch_22])
    | succ n ih =>
      intro x4 M H locs ls hF B hl
      rw [F_X5_stepsBySearch_22] at hF
      refine lv_iload hx hb dX5_stepsBySearch_22 (lv_at hl 3 rfl) ?_
      refine lv_aload_n hx hb dX5_stepsBySearch_24 rfl (lv_at hl 0 rfl) ?_
      refine gf_X5_30 C B dX5_stepsBySearch_25 ?_
      refine lv_icmp_ge (tgt := 74) hx hb dX5_stepsBySearch_28 (by decide) (fun c1 => ?_) (fun c1 => ?_)
      · have hF := it_t hF c1
        refine lv_iconst (v := (-1)) hx hb dX5_stepsBySearch_74 (by decide) ?_
        exact fr_iret C B hr rfl hlk (by rw [← Option.some.inj hF]) (Nat.le_of_ble_eq_true rfl) (Nat.le_of_ble_eq_true rfl) dX5_stepsBySearch_75
      · have hF := it_f hF c1
        refine lv_iload hx hb dX5_stepsBySearch_31 (lv_at hl 3 rfl) ?_
        refine lv_bipush (v := 10) hx hb dX5_stepsBySearch_33 (by decide) ?_
        refine lv_icmp_ge (tgt := 74) hx hb dX5_stepsBySearch_35 (by decide) (fun c2 => ?_) (fun c2 => ?_)
        · have hF := it_t hF c2
          refine lv_iconst (v := (-1)) hx hb dX5_stepsBySearch_74 (by decide) ?_
          exact fr_iret C B hr rfl hlk (by rw [← Option.some.inj hF]) (Nat.le_of_ble_eq_true rfl) (Nat.le_of_ble_eq_true rfl) dX5_stepsBySearch_75
        · have hF := it_f hF c2
          refine lv_aload_n hx hb dX5_stepsBySearch_38 rfl (lv_at hl 0 rfl) ?_
          refine gf_X5_15 C B dX5_stepsBySearch_39 ?_
          refine lv_iload hx hb dX5_stepsBySearch_42 (lv_at hl 3 rfl) ?_
          obtain ⟨c3, hF⟩ := of_g hF
          refine fr_ia C B ar_5_357 c3 dX5_stepsBySearch_44 ?_
          refine lv_istore (lv' := [(5, .int (fw_ri M 357 x4)), (0, .ref (fw_ad X 355)), (1, .ref (fw_ad X g1)), (3, .int a3), (4, .int x4)]) hx hb dX5_stepsBySearch_45 hl (by decide) rfl (fun ls hl => ?_)
          refine lv_iload hx hb dX5_stepsBySearch_47 (lv_at hl 0 rfl) ?_
          refine lv_iload_n hx hb dX5_stepsBySearch_49 rfl (lv_at hl 3 rfl) ?_
          refine lv_icmp_ne (tgt := 61) hx hb dX5_stepsBySearch_50 (by decide) (fun c4 => ?_) (fun c4 => ?_)
          · have hF := it_t hF c4
            refine lv_aload_n hx hb dX5_stepsBySearch_61 rfl (lv_at hl 1 rfl) ?_
            refine lv_aload_n hx hb dX5_stepsBySearch_62 rfl (lv_at hl 2 rfl) ?_
            refine lv_iload hx hb dX5_stepsBySearch_63 (lv_at hl 0 rfl) ?_
            obtain ⟨M7, hf5, hF⟩ := bx_e hF
            refine fr_cVv (As := [.ref (fw_ad X g1), .int (fw_ri M 357 x4)]) (rest := []) C B (cm_X5_reachNeighbours h1 hf5) ob_5 rfl yw_X5_reachNeighbours wm_X5_38 rfl hl.1 rfl (Nat.le_of_ble_eq_true rfl) ⟨Nat.le_of_ble_eq_true rfl, Nat.le_of_ble_eq_true rfl⟩ ⟨Nat.le_of_ble_eq_true rfl, Nat.le_of_ble_eq_true rfl⟩ dX5_stepsBySearch_65 (fr_nx rfl) (fun M9 H locs ho9 B => ?_)
            obtain ⟨-, rfl⟩ := oi_e ho9
            refine lv_iinc (v := (x4 + 1)) (lv' := [(4, .int (x4 + 1)), (5, .int (fw_ri M 357 x4)), (0, .ref (fw_ad X 355)), (1, .ref (fw_ad X g1)), (3, .int a3)]) hx hb dX5_stepsBySearch_68 hl (k := 4) rfl rfl (by decide) rfl (fun ls hl => ?_)
            refine lv_goto (tgt := 22) hx hb dX5_stepsBySearch_71 (by decide) ?_
            exact ih (x4 + 1) M7 _ _ _ hF B (lv_sub hl [2, 3, 4, 0] rfl)
          · have hF := it_f hF (not_not_intro c4)
            refine lv_aload_n hx hb dX5_stepsBySearch_53 rfl (lv_at hl 1 rfl) ?_
            refine gf_X5_9 C B dX5_stepsBySearch_54 ?_
            refine lv_iload hx hb dX5_stepsBySearch_57 (lv_at hl 0 rfl) ?_
            obtain ⟨c8, hF⟩ := of_g hF
            refine fr_ia C B ar_5_356 c8 dX5_stepsBySearch_59 ?_
            exact fr_iret C B hr rfl hlk (by rw [← Option.some.inj hF]) (Nat.le_of_ble_eq_true rfl) (Nat.le_of_ble_eq_true rfl) dX5_stepsBySearch_60
  unfold F_X5_stepsBySearch at hF
  refine lv_aload_n hx hb dX5_stepsBySearch_0 rfl (lv_at hl 0 rfl) ?_
  refine gf_X5_9 C B dX5_stepsBySearch_1 ?_
  refine lv_iconst (v := (-1)) hx hb dX5_stepsBySearch_4 (by decide) ?_
  obtain ⟨M11, hf9, hF⟩ := bx_e hF
  refine fr_cSv (As := [.ref (fw_ad X 356), .int (-1)]) (rest := []) C B (cm_J7_fill_53178 ar_5_356 hf9) yw_J7_fill_53178 wm_X5_24 rfl hl.1 rfl (Nat.le_of_ble_eq_true rfl) ⟨Nat.le_of_ble_eq_true rfl, Nat.le_of_ble_eq_true rfl⟩ ⟨Nat.le_of_ble_eq_true rfl, Nat.le_of_ble_eq_true rfl⟩ dX5_stepsBySearch_5 (fr_nx rfl) (fun M9 H locs ho9 B => ?_)
  obtain ⟨-, rfl⟩ := oi_e ho9
  refine lv_aload_n hx hb dX5_stepsBySearch_8 rfl (lv_at hl 0 rfl) ?_
  refine lv_iconst (v := 0) hx hb dX5_stepsBySearch_9 (by decide) ?_
  refine pf_X5_30 C B dX5_stepsBySearch_10 (fun H locs B => ?_)
  obtain ⟨M12, eM12, hF⟩ := lt_e hF
  rw [← eM12] at B
  refine lv_aload_n hx hb dX5_stepsBySearch_13 rfl (lv_at hl 0 rfl) ?_
  refine lv_iload_n hx hb dX5_stepsBySearch_14 rfl (lv_at hl 2 rfl) ?_
  refine lv_iconst (v := 0) hx hb dX5_stepsBySearch_15 (by decide) ?_
  obtain ⟨M15, hf13, hF⟩ := bx_e hF
  refine fr_cVv (As := [.int a2, .int 0]) (rest := []) C B (cm_X5_reachStop hf13) ob_5 rfl yw_X5_reachStop wm_X5_34 rfl hl.1 rfl (Nat.le_of_ble_eq_true rfl) ⟨Nat.le_of_ble_eq_true rfl, Nat.le_of_ble_eq_true rfl⟩ ⟨Nat.le_of_ble_eq_true rfl, Nat.le_of_ble_eq_true rfl⟩ dX5_stepsBySearch_16 (fr_nx rfl) (fun M9 H locs ho9 B => ?_)
  obtain ⟨-, rfl⟩ := oi_e ho9
  refine lv_iconst (v := 0) hx hb dX5_stepsBySearch_19 (by decide) ?_
  refine lv_istore (lv' := [(4, .int 0), (0, .ref (fw_ad X 355)), (1, .ref (fw_ad X g1)), (2, .int a2), (3, .int a3)]) hx hb dX5_stepsBySearch_20 hl (by decide) rfl (fun ls hl => ?_)
  exact hJ22 64 0 M15 _ _ _ hF B (lv_sub hl [1, 2, 4, 0] rfl)
def F_X5_stepsByRelaxation_21 (g1 : Nat) (a2 : Int32) (a3 : Int32)  : Nat → Int32 → Int32 → fw_M → Option (Int32 × fw_M)
  | 0, _, _, _ => none
  | n + 1, x4, x5, M =>
    if x4 = 0 then
      if ix_i a3 10 then
      some ((fw_ri M 356 a3), M)
      else none
    else
      if 10 ≤ x5 then
        if ix_i a3 10 then
        some ((fw_ri M 356 a3), M)
        else none
      else
        bd_p (F_X5_relaxAll M g1) fun r6 M7 =>
        F_X5_stepsByRelaxation_21 g1 a2 a3 n r6 (x5 + 1) M7
def F_X5_stepsByRelaxation (M : fw_M) (g1 : Nat) (a2 : Int32) (a3 : Int32) : Option (Int32 × fw_M) :=
  bd_x (F_J7_fill_53178 M 356 10 (-1)) fun M10 =>
  if ix_i a2 10 then
  lt_x (fw_wi M10 356 a2 0) fun M12 =>
  F_X5_stepsByRelaxation_21 g1 a2 a3 64 1 0 M12
  else none
set_option maxHeartbeats 4000000 in
set_option maxRecDepth 100000 in
theorem cm_X5_stepsByRelaxation {l : Launch} {X : fw_X} {M : fw_M} {g1 : Nat} {a2 : Int32} {a3 : Int32} (h1 : is3 g1) {o : Int32 × fw_M} (hF : F_X5_stepsByRelaxation M g1 a2 a3 = some o) : ct_i l X yX5_stepsByRelaxation cX5_stepsByRelaxation 6 (some .int) ({ frames := 2, cells := 0, slots := 0, locals := 51 } : Room) M [.ref (fw_ad X 355), .ref (fw_ad X g1), .int a2, .int a3] (.inl o.1, o.2) := by
  refine fw_open rfl (Nat.le_of_ble_eq_true rfl) (fun p e s m below meth c ls C hr hlk hnm hex hl B => ?_)
  have C : fr_C X p c cX5_stepsByRelaxation 6 RX5 s m ([.ref (fw_ad X 355), .ref (fw_ad X g1), .int a2, .int a3] : List Value).toArray := C
  have hx := C.1.1
  have hb := C.1.2.1
  have hl : lv_has ls 6 [(0, .ref (fw_ad X 355)), (1, .ref (fw_ad X g1)), (2, .int a2), (3, .int a3)] := hl
  have hJ21 : ∀ (n : Nat), ∀ (x4 : Int32) (x5 : Int32) (M : fw_M) (H : Heap) (locs : List Loc) (ls : Array Slot), F_X5_stepsByRelaxation_21 g1 a2 a3 n x4 x5 M = some o → fr_H X s M H locs → lv_has ls 6 [(0, .ref (fw_ad X 355)), (1, .ref (fw_ad X g1)), (3, .int a3), (4, .int x4), (5, .int x5)] → W p l e ({ frames := 2, cells := 0, slots := 0, locals := 51 } : Room) s m ([.ref (fw_ad X 355), .ref (fw_ad X g1), .int a2, .int a3] : List Value).toArray below meth c H locs 0 0 (vx_MQ below (fw_Qi X (.inl o.1, o.2)) (fw_Qx X (.inl o.1, o.2)) ([.ref (fw_ad X 355), .ref (fw_ad X g1), .int a2, .int a3] : List Value).toArray s 0 0 (fw_A X)) (F0 m 21 ls []) := by
    intro n
    induction n with
    | zero =>
      intro x4 x5 M H locs ls hF B hl
      exact absurd hF (by simp [F_X5_stepsByRelaxation_21])
    | succ n ih =>
      intro x4 x5 M H locs ls hF B hl
      rw [F_X5_stepsByRelaxation_21] at hF
      refine lv_iload hx hb dX5_stepsByRelaxation_21 (lv_at hl 3 rfl) ?_
      refine lv_if_eq (tgt := 46) hx hb dX5_stepsByRelaxation_23 (by decide) (fun c1 => ?_) (fun c1 => ?_)
      · have hF := it_t hF c1
        refine lv_aload_n hx hb dX5_stepsByRelaxation_46 rfl (lv_at hl 0 rfl) ?_
        refine gf_X5_9 C B dX5_stepsByRelaxation_47 ?_
        refine lv_iload_n hx hb dX5_stepsByRelaxation_50 rfl (lv_at hl 2 rfl) ?_
        obtain ⟨c2, hF⟩ := of_g hF
        refine fr_ia C B ar_5_356 c2 dX5_stepsByRelaxation_51 ?_
        exact fr_iret C B hr rfl hlk (by rw [← Option.some.inj hF]) (Nat.le_of_ble_eq_true rfl) (Nat.le_of_ble_eq_true rfl) dX5_stepsByRelaxation_52
      · have hF := it_f hF c1
        refine lv_iload hx hb dX5_stepsByRelaxation_26 (lv_at hl 4 rfl) ?_
        refine lv_bipush (v := 10) hx hb dX5_stepsByRelaxation_28 (by decide) ?_
        refine lv_icmp_ge (tgt := 46) hx hb dX5_stepsByRelaxation_30 (by decide) (fun c3 => ?_) (fun c3 => ?_)
        · have hF := it_t hF c3
          refine lv_aload_n hx hb dX5_stepsByRelaxation_46 rfl (lv_at hl 0 rfl) ?_
          refine gf_X5_9 C B dX5_stepsByRelaxation_47 ?_
          refine lv_iload_n hx hb dX5_stepsByRelaxation_50 rfl (lv_at hl 2 rfl) ?_
          obtain ⟨c4, hF⟩ := of_g hF
          refine fr_ia C B ar_5_356 c4 dX5_stepsByRelaxation_51 ?_
          exact fr_iret C B hr rfl hlk (by rw [← Option.some.inj hF]) (Nat.le_of_ble_eq_true rfl) (Nat.le_of_ble_eq_true rfl) dX5_stepsByRelaxation_52
        · have hF := it_f hF c3
          refine lv_aload_n hx hb dX5_stepsByRelaxation_33 rfl (lv_at hl 0 rfl) ?_
          refine lv_aload_n hx hb dX5_stepsByRelaxation_34 rfl (lv_at hl 1 rfl) ?_
          obtain ⟨r6, M7, hf5, hF⟩ := bp_e hF
          refine fr_cVi (As := [.ref (fw_ad X g1)]) (rest := []) C B (cm_X5_relaxAll h1 hf5) ob_5 rfl yw_X5_relaxAll wm_X5_58 rfl hl.1 rfl (Nat.le_of_ble_eq_true rfl) ⟨Nat.le_of_ble_eq_true rfl, Nat.le_of_ble_eq_true rfl⟩ ⟨Nat.le_of_ble_eq_true rfl, Nat.le_of_ble_eq_true rfl⟩ dX5_stepsByRelaxation_35 (fr_nx rfl) (fun r9 M9 H locs ho9 B => ?_)
          obtain ⟨rfl, rfl⟩ := oi_e ho9
          refine lv_istore (lv' := [(4, .int r6), (0, .ref (fw_ad X 355)), (1, .ref (fw_ad X g1)), (3, .int a3), (5, .int x5)]) hx hb dX5_stepsByRelaxation_38 hl (by decide) rfl (fun ls hl => ?_)
          refine lv_iinc (v := (x5 + 1)) (lv' := [(5, .int (x5 + 1)), (4, .int r6), (0, .ref (fw_ad X 355)), (1, .ref (fw_ad X g1)), (3, .int a3)]) hx hb dX5_stepsByRelaxation_40 hl (k := 4) rfl rfl (by decide) rfl (fun ls hl => ?_)
          refine lv_goto (tgt := 21) hx hb dX5_stepsByRelaxation_43 (by decide) ?_
          exact ih r6 (x5 + 1) M7 _ _ _ hF B (lv_sub hl [2, 3, 4, 1, 0] rfl)
  unfold F_X5_stepsByRelaxation at hF
  refine lv_aload_n hx hb dX5_stepsByRelaxation_0 rfl (lv_at hl 0 rfl) ?_
  refine gf_X5_9 C B dX5_stepsByRelaxation_1 ?_
  refine lv_iconst (v := (-1)) hx hb dX5_stepsByRelaxation_4 (by decide) ?_
  obtain ⟨M10, hf8, hF⟩ := bx_e hF
  refine fr_cSv (As := [.ref (fw_ad X 356), .int (-1)]) (rest := []) C B (cm_J7_fill_53178 ar_5_356 hf8) yw_J7_fill_53178 wm_X5_24 rfl hl.1 rfl (Nat.le_of_ble_eq_true rfl) ⟨Nat.le_of_ble_eq_true rfl, Nat.le_of_ble_eq_true rfl⟩ ⟨Nat.le_of_ble_eq_true rfl, Nat.le_of_ble_eq_true rfl⟩ dX5_stepsByRelaxation_5 (fr_nx rfl) (fun M9 H locs ho9 B => ?_)
  obtain ⟨-, rfl⟩ := oi_e ho9
  refine lv_aload_n hx hb dX5_stepsByRelaxation_8 rfl (lv_at hl 0 rfl) ?_
  refine gf_X5_9 C B dX5_stepsByRelaxation_9 ?_
  refine lv_iload_n hx hb dX5_stepsByRelaxation_12 rfl (lv_at hl 2 rfl) ?_
  refine lv_iconst (v := 0) hx hb dX5_stepsByRelaxation_13 (by decide) ?_
  obtain ⟨c11, hF⟩ := of_g hF
  refine fr_is C B ar_5_356 c11 dX5_stepsByRelaxation_14 (fun H locs B => ?_)
  obtain ⟨M12, eM12, hF⟩ := lt_e hF
  rw [← eM12] at B
  refine lv_iconst (v := 1) hx hb dX5_stepsByRelaxation_15 (by decide) ?_
  refine lv_istore (lv' := [(4, .int 1), (0, .ref (fw_ad X 355)), (1, .ref (fw_ad X g1)), (2, .int a2), (3, .int a3)]) hx hb dX5_stepsByRelaxation_16 hl (by decide) rfl (fun ls hl => ?_)
  refine lv_iconst (v := 0) hx hb dX5_stepsByRelaxation_18 (by decide) ?_
  refine lv_istore (lv' := [(5, .int 0), (4, .int 1), (0, .ref (fw_ad X 355)), (1, .ref (fw_ad X g1)), (2, .int a2), (3, .int a3)]) hx hb dX5_stepsByRelaxation_19 hl (by decide) rfl (fun ls hl => ?_)
  exact hJ21 64 1 0 M12 _ _ _ hF B (lv_sub hl [2, 3, 5, 1, 0] rfl)
def F_X5_methodsAgree_12 (g1 : Nat) (k2 : Int32 → fw_M → Option (Int32 × fw_M)) : Nat → Int32 → Int32 → fw_M → Option (Int32 × fw_M)
  | 0, _, _, _ => none
  | n + 1, x2, x3, M =>
    if (M g1 0) ≤ x3 then
      k2 (x2 + 1) M
    else
      bd_p (F_X5_stepsBySearch M g1 x2 x3) fun r3 M4 =>
      bd_p (F_X5_stepsByRelaxation M4 g1 x2 x3) fun r6 M7 =>
      if ¬ r3 = r6 then
        some (0, M7)
      else
        bd_p (F_X5_linesBySearch M7 g1 x2 x3) fun r10 M11 =>
        bd_x (F_X5_linesByGrowth M11 g1 x2 x3) fun r13 =>
        if r10 = r13 then
          F_X5_methodsAgree_12 g1 k2 n x2 (x3 + 1) M11
        else
          some (0, M11)
def F_X5_methodsAgree_2 (g1 : Nat)  : Nat → Int32 → fw_M → Option (Int32 × fw_M)
  | 0, _, _ => none
  | n + 1, x2, M =>
    if (M g1 0) ≤ x2 then
      some (1, M)
    else
      F_X5_methodsAgree_12 g1 (fun x2 M => F_X5_methodsAgree_2 g1 n x2 M) 64 x2 0 M
def F_X5_methodsAgree (M : fw_M) (g1 : Nat) : Option (Int32 × fw_M) :=
  F_X5_methodsAgree_2 g1 64 0 M
set_option maxHeartbeats 4000000 in
set_option maxRecDepth 100000 in
theorem cm_X5_methodsAgree {l : Launch} {X : fw_X} {M : fw_M} {g1 : Nat} (h1 : is3 g1) {o : Int32 × fw_M} (hF : F_X5_methodsAgree M g1 = some o) : ct_i l X yX5_methodsAgree cX5_methodsAgree 4 (some .boolean) ({ frames := 3, cells := 0, slots := 0, locals := 76 } : Room) M [.ref (fw_ad X 355), .ref (fw_ad X g1)] (.inl o.1, o.2) := by
  refine fw_open rfl (Nat.le_of_ble_eq_true rfl) (fun p e s m below meth c ls C hr hlk hnm hex hl B => ?_)
  have C : fr_C X p c cX5_methodsAgree 4 RX5 s m ([.ref (fw_ad X 355), .ref (fw_ad X g1)] : List Value).toArray := C
  have hx := C.1.1
  have hb := C.1.2.1
  have hl : lv_has ls 4 [(0, .ref (fw_ad X 355)), (1, .ref (fw_ad X g1))] := hl
  have hJ12 : ∀ (k2 : Int32 → fw_M → Option (Int32 × fw_M)), (∀ (x2 : Int32) (M : fw_M) (H : Heap) (locs : List Loc) (ls : Array Slot), k2 x2 M = some o → fr_H X s M H locs → lv_has ls 4 [(0, .ref (fw_ad X 355)), (1, .ref (fw_ad X g1)), (2, .int x2)] → W p l e ({ frames := 3, cells := 0, slots := 0, locals := 76 } : Room) s m ([.ref (fw_ad X 355), .ref (fw_ad X g1)] : List Value).toArray below meth c H locs 0 0 (vx_MQ below (fw_Qi X (.inl o.1, o.2)) (fw_Qx X (.inl o.1, o.2)) ([.ref (fw_ad X 355), .ref (fw_ad X g1)] : List Value).toArray s 0 0 (fw_A X)) (F0 m 2 ls [])) → ∀ (n : Nat), ∀ (x2 : Int32) (x3 : Int32) (M : fw_M) (H : Heap) (locs : List Loc) (ls : Array Slot), F_X5_methodsAgree_12 g1 k2 n x2 x3 M = some o → fr_H X s M H locs → lv_has ls 4 [(0, .ref (fw_ad X 355)), (1, .ref (fw_ad X g1)), (2, .int x2), (3, .int x3)] → W p l e ({ frames := 3, cells := 0, slots := 0, locals := 76 } : Room) s m ([.ref (fw_ad X 355), .ref (fw_ad X g1)] : List Value).toArray below meth c H locs 0 0 (vx_MQ below (fw_Qi X (.inl o.1, o.2)) (fw_Qx X (.inl o.1, o.2)) ([.ref (fw_ad X 355), .ref (fw_ad X g1)] : List Value).toArray s 0 0 (fw_A X)) (F0 m 12 ls []) := by
    intro k2 hk2
    intro n
    induction n with
    | zero =>
      intro x2 x3 M H locs ls hF B hl
      exact absurd hF (by simp [F_X5_methodsAgree_12])
    | succ n ih =>
      intro x2 x3 M H locs ls hF B hl
      rw [F_X5_methodsAgree_12] at hF
      refine lv_iload_n hx hb dX5_methodsAgree_12 rfl (lv_at hl 3 rfl) ?_
      refine lv_aload_n hx hb dX5_methodsAgree_13 rfl (lv_at hl 1 rfl) ?_
      refine gf_X5_80 C B h1 dX5_methodsAgree_14 ?_
      refine lv_icmp_ge (tgt := 62) hx hb dX5_methodsAgree_17 (by decide) (fun c1 => ?_) (fun c1 => ?_)
      · have hF := it_t hF c1
        refine lv_iinc (v := (x2 + 1)) (lv' := [(2, .int (x2 + 1)), (0, .ref (fw_ad X 355)), (1, .ref (fw_ad X g1)), (3, .int x3)]) hx hb dX5_methodsAgree_62 hl (k := 2) rfl rfl (by decide) rfl (fun ls hl => ?_)
        refine lv_goto (tgt := 2) hx hb dX5_methodsAgree_65 (by decide) ?_
        exact hk2 (x2 + 1) M _ _ _ hF B (lv_sub hl [1, 2, 0] rfl)
      · have hF := it_f hF c1
        refine lv_aload_n hx hb dX5_methodsAgree_20 rfl (lv_at hl 0 rfl) ?_
        refine lv_aload_n hx hb dX5_methodsAgree_21 rfl (lv_at hl 1 rfl) ?_
        refine lv_iload_n hx hb dX5_methodsAgree_22 rfl (lv_at hl 2 rfl) ?_
        refine lv_iload_n hx hb dX5_methodsAgree_23 rfl (lv_at hl 3 rfl) ?_
        obtain ⟨r3, M4, hf2, hF⟩ := bp_e hF
        refine fr_cVi (As := [.ref (fw_ad X g1), .int x2, .int x3]) (rest := []) C B (cm_X5_stepsBySearch h1 hf2) ob_5 rfl yw_X5_stepsBySearch wm_X5_83 rfl hl.1 rfl (Nat.le_of_ble_eq_true rfl) ⟨Nat.le_of_ble_eq_true rfl, Nat.le_of_ble_eq_true rfl⟩ ⟨Nat.le_of_ble_eq_true rfl, Nat.le_of_ble_eq_true rfl⟩ dX5_methodsAgree_24 (fr_nx rfl) (fun r9 M9 H locs ho9 B => ?_)
        obtain ⟨rfl, rfl⟩ := oi_e ho9
        refine lv_aload_n hx hb dX5_methodsAgree_27 rfl (lv_at hl 0 rfl) ?_
        refine lv_aload_n hx hb dX5_methodsAgree_28 rfl (lv_at hl 1 rfl) ?_
        refine lv_iload_n hx hb dX5_methodsAgree_29 rfl (lv_at hl 2 rfl) ?_
        refine lv_iload_n hx hb dX5_methodsAgree_30 rfl (lv_at hl 3 rfl) ?_
        obtain ⟨r6, M7, hf5, hF⟩ := bp_e hF
        refine fr_cVi (As := [.ref (fw_ad X g1), .int x2, .int x3]) (rest := [.int r3]) C B (cm_X5_stepsByRelaxation h1 hf5) ob_5 rfl yw_X5_stepsByRelaxation wm_X5_87 rfl hl.1 rfl (Nat.le_of_ble_eq_true rfl) ⟨Nat.le_of_ble_eq_true rfl, Nat.le_of_ble_eq_true rfl⟩ ⟨Nat.le_of_ble_eq_true rfl, Nat.le_of_ble_eq_true rfl⟩ dX5_methodsAgree_31 (fr_nx rfl) (fun r9 M9 H locs ho9 B => ?_)
        obtain ⟨rfl, rfl⟩ := oi_e ho9
        refine lv_icmp_ne (tgt := 54) hx hb dX5_methodsAgree_34 (by decide) (fun c8 => ?_) (fun c8 => ?_)
        · have hF := it_t hF c8
          refine lv_iconst (v := 0) hx hb dX5_methodsAgree_54 (by decide) ?_
          exact fr_iret C B hr rfl hlk (by rw [← Option.some.inj hF]) (Nat.le_of_ble_eq_true rfl) (Nat.le_of_ble_eq_true rfl) dX5_methodsAgree_55
        · have hF := it_f hF (not_not_intro c8)
          refine lv_aload_n hx hb dX5_methodsAgree_37 rfl (lv_at hl 0 rfl) ?_
          refine lv_aload_n hx hb dX5_methodsAgree_38 rfl (lv_at hl 1 rfl) ?_
          refine lv_iload_n hx hb dX5_methodsAgree_39 rfl (lv_at hl 2 rfl) ?_
          refine lv_iload_n hx hb dX5_methodsAgree_40 rfl (lv_at hl 3 rfl) ?_
          obtain ⟨r10, M11, hf9, hF⟩ := bp_e hF
          refine fr_cVi (As := [.ref (fw_ad X g1), .int x2, .int x3]) (rest := []) C B (cm_X5_linesBySearch h1 hf9) ob_5 rfl yw_X5_linesBySearch wm_X5_90 rfl hl.1 rfl (Nat.le_of_ble_eq_true rfl) ⟨Nat.le_of_ble_eq_true rfl, Nat.le_of_ble_eq_true rfl⟩ ⟨Nat.le_of_ble_eq_true rfl, Nat.le_of_ble_eq_true rfl⟩ dX5_methodsAgree_41 (fr_nx rfl) (fun r9 M9 H locs ho9 B => ?_)
          obtain ⟨rfl, rfl⟩ := oi_e ho9
          refine lv_aload_n hx hb dX5_methodsAgree_44 rfl (lv_at hl 0 rfl) ?_
          refine lv_aload_n hx hb dX5_methodsAgree_45 rfl (lv_at hl 1 rfl) ?_
          refine lv_iload_n hx hb dX5_methodsAgree_46 rfl (lv_at hl 2 rfl) ?_
          refine lv_iload_n hx hb dX5_methodsAgree_47 rfl (lv_at hl 3 rfl) ?_
          obtain ⟨r13, hf12, hF⟩ := bx_e hF
          refine fr_cVi (As := [.ref (fw_ad X g1), .int x2, .int x3]) (rest := [.int r10]) C B (cm_X5_linesByGrowth h1 hf12) ob_5 rfl yw_X5_linesByGrowth wm_X5_93 rfl hl.1 rfl (Nat.le_of_ble_eq_true rfl) ⟨Nat.le_of_ble_eq_true rfl, Nat.le_of_ble_eq_true rfl⟩ ⟨Nat.le_of_ble_eq_true rfl, Nat.le_of_ble_eq_true rfl⟩ dX5_methodsAgree_48 (fr_nx rfl) (fun r9 M9 H locs ho9 B => ?_)
          obtain ⟨rfl, rfl⟩ := oi_e ho9
          refine lv_icmp_eq (tgt := 56) hx hb dX5_methodsAgree_51 (by decide) (fun c15 => ?_) (fun c15 => ?_)
          · have hF := it_t hF c15
            refine lv_iinc (v := (x3 + 1)) (lv' := [(3, .int (x3 + 1)), (0, .ref (fw_ad X 355)), (1, .ref (fw_ad X g1)), (2, .int x2)]) hx hb dX5_methodsAgree_56 hl (k := 3) rfl rfl (by decide) rfl (fun ls hl => ?_)
            refine lv_goto (tgt := 12) hx hb dX5_methodsAgree_59 (by decide) ?_
            exact ih x2 (x3 + 1) M11 _ _ _ hF B (lv_sub hl [1, 2, 3, 0] rfl)
          · have hF := it_f hF c15
            refine lv_iconst (v := 0) hx hb dX5_methodsAgree_54 (by decide) ?_
            exact fr_iret C B hr rfl hlk (by rw [← Option.some.inj hF]) (Nat.le_of_ble_eq_true rfl) (Nat.le_of_ble_eq_true rfl) dX5_methodsAgree_55
  have hJ2 : ∀ (n : Nat), ∀ (x2 : Int32) (M : fw_M) (H : Heap) (locs : List Loc) (ls : Array Slot), F_X5_methodsAgree_2 g1 n x2 M = some o → fr_H X s M H locs → lv_has ls 4 [(0, .ref (fw_ad X 355)), (1, .ref (fw_ad X g1)), (2, .int x2)] → W p l e ({ frames := 3, cells := 0, slots := 0, locals := 76 } : Room) s m ([.ref (fw_ad X 355), .ref (fw_ad X g1)] : List Value).toArray below meth c H locs 0 0 (vx_MQ below (fw_Qi X (.inl o.1, o.2)) (fw_Qx X (.inl o.1, o.2)) ([.ref (fw_ad X 355), .ref (fw_ad X g1)] : List Value).toArray s 0 0 (fw_A X)) (F0 m 2 ls []) := by
    intro n
    induction n with
    | zero =>
      intro x2 M H locs ls hF B hl
      exact absurd hF (by simp [F_X5_methodsAgree_2])
    | succ n ih =>
      intro x2 M H locs ls hF B hl
      rw [F_X5_methodsAgree_2] at hF
      refine lv_iload_n hx hb dX5_methodsAgree_2 rfl (lv_at hl 2 rfl) ?_
      refine lv_aload_n hx hb dX5_methodsAgree_3 rfl (lv_at hl 1 rfl) ?_
      refine gf_X5_80 C B h1 dX5_methodsAgree_4 ?_
      refine lv_icmp_ge (tgt := 68) hx hb dX5_methodsAgree_7 (by decide) (fun c16 => ?_) (fun c16 => ?_)
      · have hF := it_t hF c16
        refine lv_iconst (v := 1) hx hb dX5_methodsAgree_68 (by decide) ?_
        exact fr_iret C B hr rfl hlk (by rw [← Option.some.inj hF]) (Nat.le_of_ble_eq_true rfl) (Nat.le_of_ble_eq_true rfl) dX5_methodsAgree_69
      · have hF := it_f hF c16
        refine lv_iconst (v := 0) hx hb dX5_methodsAgree_10 (by decide) ?_
        refine lv_istore_n (lv' := [(3, .int 0), (0, .ref (fw_ad X 355)), (1, .ref (fw_ad X g1)), (2, .int x2)]) hx hb dX5_methodsAgree_11 rfl hl (by decide) rfl (fun ls hl => ?_)
        exact hJ12 (fun x2 M => F_X5_methodsAgree_2 g1 n x2 M) (fun x2 M H locs ls h1 h2 h3 => ih x2 M H locs ls h1 h2 h3) 64 x2 0 M _ _ _ hF B (lv_sub hl [1, 2, 3, 0] rfl)
  unfold F_X5_methodsAgree at hF
  refine lv_iconst (v := 0) hx hb dX5_methodsAgree_0 (by decide) ?_
  refine lv_istore_n (lv' := [(2, .int 0), (0, .ref (fw_ad X 355)), (1, .ref (fw_ad X g1))]) hx hb dX5_methodsAgree_1 rfl hl (by decide) rfl (fun ls hl => ?_)
  exact hJ2 64 0 M _ _ _ hF B (lv_sub hl [1, 2, 0] rfl)
