def F_X9_isFree (M : fw_M) (a1 : Int32) (a2 : Int32) : Option (Int32) :=
  bd_x (F_X9_ofPassenger M a1 4) fun r2 =>
  bd_x (F_X9_ofPassenger M a1 1) fun r5 =>
  if 0 ≤ r5 then
    some 0
  else
    if r2 < 0 then
      some 0
    else
      if r2 = a2 then
        some 0
      else
        if ix_i 5 129 then
        bd_x (F_X9_ofPassenger M a1 5) fun r12 =>
        if 1 < ((fw_ri M 379 5) - r12) then
          some 0
        else
          some 1
        else none
set_option maxHeartbeats 4000000 in
set_option maxRecDepth 100000 in
theorem cm_X9_isFree {l : Launch} {X : fw_X} {M : fw_M} {a1 : Int32} {a2 : Int32}  {o : Int32} (hF : F_X9_isFree M a1 a2 = some o) : ct_i l X yX9_isFree cX9_isFree 4 (some .boolean) ({ frames := 1, cells := 0, slots := 0, locals := 22 } : Room) M [.ref (fw_ad X 378), .int a1, .int a2] (.inl o, M) := by
  refine fw_open rfl (Nat.le_of_ble_eq_true rfl) (fun p e s m below meth c ls C hr hlk hnm hex hl B => ?_)
  have C : fr_C X p c cX9_isFree 4 RX9 s m ([.ref (fw_ad X 378), .int a1, .int a2] : List Value).toArray := C
  have hx := C.1.1
  have hb := C.1.2.1
  have hl : lv_has ls 4 [(0, .ref (fw_ad X 378)), (1, .int a1), (2, .int a2)] := hl
  unfold F_X9_isFree at hF
  refine lv_aload_n hx hb dX9_isFree_0 rfl (lv_at hl 0 rfl) ?_
  refine lv_iload_n hx hb dX9_isFree_1 rfl (lv_at hl 1 rfl) ?_
  refine lv_iconst (v := 4) hx hb dX9_isFree_2 (by decide) ?_
  obtain ⟨r2, hf1, hF⟩ := bx_e hF
  refine fr_cVi (As := [.int a1, .int 4]) (rest := []) C B (cm_X9_ofPassenger hf1) ob_9 rfl yw_X9_ofPassenger wm_X9_117 rfl hl.1 rfl (Nat.le_of_ble_eq_true rfl) ⟨Nat.le_of_ble_eq_true rfl, Nat.le_of_ble_eq_true rfl⟩ ⟨Nat.le_of_ble_eq_true rfl, Nat.le_of_ble_eq_true rfl⟩ dX9_isFree_3 (fr_nx rfl) (fun r9 M9 H locs ho9 B => ?_)
  obtain ⟨rfl, rfl⟩ := oi_e ho9
  refine lv_istore_n (lv' := [(3, .int r2), (0, .ref (fw_ad X 378)), (1, .int a1), (2, .int a2)]) hx hb dX9_isFree_6 rfl hl (by decide) rfl (fun ls hl => ?_)
  refine lv_aload_n hx hb dX9_isFree_7 rfl (lv_at hl 1 rfl) ?_
  refine lv_iload_n hx hb dX9_isFree_8 rfl (lv_at hl 2 rfl) ?_
  refine lv_iconst (v := 1) hx hb dX9_isFree_9 (by decide) ?_
  obtain ⟨r5, hf4, hF⟩ := bx_e hF
  refine fr_cVi (As := [.int a1, .int 1]) (rest := []) C B (cm_X9_ofPassenger hf4) ob_9 rfl yw_X9_ofPassenger wm_X9_117 rfl hl.1 rfl (Nat.le_of_ble_eq_true rfl) ⟨Nat.le_of_ble_eq_true rfl, Nat.le_of_ble_eq_true rfl⟩ ⟨Nat.le_of_ble_eq_true rfl, Nat.le_of_ble_eq_true rfl⟩ dX9_isFree_10 (fr_nx rfl) (fun r9 M9 H locs ho9 B => ?_)
  obtain ⟨rfl, rfl⟩ := oi_e ho9
  refine lv_if_ge (tgt := 46) hx hb dX9_isFree_13 (by decide) (fun c7 => ?_) (fun c7 => ?_)
  · have hF := it_t hF c7
    refine lv_iconst (v := 0) hx hb dX9_isFree_46 (by decide) ?_
    exact fr_iret C B hr rfl hlk (by rw [← Option.some.inj hF]) (Nat.le_of_ble_eq_true rfl) (Nat.le_of_ble_eq_true rfl) dX9_isFree_47
  · have hF := it_f hF c7
    refine lv_iload_n hx hb dX9_isFree_16 rfl (lv_at hl 0 rfl) ?_
    refine lv_if_lt (tgt := 46) hx hb dX9_isFree_17 (by decide) (fun c8 => ?_) (fun c8 => ?_)
    · have hF := it_t hF c8
      refine lv_iconst (v := 0) hx hb dX9_isFree_46 (by decide) ?_
      exact fr_iret C B hr rfl hlk (by rw [← Option.some.inj hF]) (Nat.le_of_ble_eq_true rfl) (Nat.le_of_ble_eq_true rfl) dX9_isFree_47
    · have hF := it_f hF c8
      refine lv_iload_n hx hb dX9_isFree_20 rfl (lv_at hl 0 rfl) ?_
      refine lv_iload_n hx hb dX9_isFree_21 rfl (lv_at hl 3 rfl) ?_
      refine lv_icmp_eq (tgt := 46) hx hb dX9_isFree_22 (by decide) (fun c9 => ?_) (fun c9 => ?_)
      · have hF := it_t hF c9
        refine lv_iconst (v := 0) hx hb dX9_isFree_46 (by decide) ?_
        exact fr_iret C B hr rfl hlk (by rw [← Option.some.inj hF]) (Nat.le_of_ble_eq_true rfl) (Nat.le_of_ble_eq_true rfl) dX9_isFree_47
      · have hF := it_f hF c9
        refine lv_aload_n hx hb dX9_isFree_25 rfl (lv_at hl 1 rfl) ?_
        refine gf_X9_9 C B dX9_isFree_26 ?_
        refine lv_iconst (v := 5) hx hb dX9_isFree_29 (by decide) ?_
        obtain ⟨c10, hF⟩ := of_g hF
        refine fr_ia C B ar_9_379 c10 dX9_isFree_30 ?_
        refine lv_aload_n hx hb dX9_isFree_31 rfl (lv_at hl 1 rfl) ?_
        refine lv_iload_n hx hb dX9_isFree_32 rfl (lv_at hl 2 rfl) ?_
        refine lv_iconst (v := 5) hx hb dX9_isFree_33 (by decide) ?_
        obtain ⟨r12, hf11, hF⟩ := bx_e hF
        refine fr_cVi (As := [.int a1, .int 5]) (rest := [.int (fw_ri M 379 5)]) C B (cm_X9_ofPassenger hf11) ob_9 rfl yw_X9_ofPassenger wm_X9_117 rfl hl.1 rfl (Nat.le_of_ble_eq_true rfl) ⟨Nat.le_of_ble_eq_true rfl, Nat.le_of_ble_eq_true rfl⟩ ⟨Nat.le_of_ble_eq_true rfl, Nat.le_of_ble_eq_true rfl⟩ dX9_isFree_34 (fr_nx rfl) (fun r9 M9 H locs ho9 B => ?_)
        obtain ⟨rfl, rfl⟩ := oi_e ho9
        refine lv_isub hx hb dX9_isFree_37 ?_
        refine lv_iconst (v := 1) hx hb dX9_isFree_38 (by decide) ?_
        refine lv_icmp_gt (tgt := 46) hx hb dX9_isFree_39 (by decide) (fun c14 => ?_) (fun c14 => ?_)
        · have hF := it_t hF c14
          refine lv_iconst (v := 0) hx hb dX9_isFree_46 (by decide) ?_
          exact fr_iret C B hr rfl hlk (by rw [← Option.some.inj hF]) (Nat.le_of_ble_eq_true rfl) (Nat.le_of_ble_eq_true rfl) dX9_isFree_47
        · have hF := it_f hF c14
          refine lv_iconst (v := 1) hx hb dX9_isFree_42 (by decide) ?_
          refine lv_goto (tgt := 47) hx hb dX9_isFree_43 (by decide) ?_
          exact fr_iret C B hr rfl hlk (by rw [← Option.some.inj hF]) (Nat.le_of_ble_eq_true rfl) (Nat.le_of_ble_eq_true rfl) dX9_isFree_47
def F_X9_hinders_64 (M : fw_M) (a1 : Int32) (a2 : Int32)   : Option (Int32) :=
  bd_x (F_X9_ofTram M a2 0) fun r2 =>
  bd_x (F_X9_isFree M a1 r2) fun r5 =>
  if ¬ r5 = 0 then
    some 0
  else
    some 4
def F_X9_hinders (M : fw_M) (a1 : Int32) (a2 : Int32) : Option (Int32) :=
  bd_x (F_X9_ofPassenger M a1 1) fun r10 =>
  if r10 < 0 then
    bd_x (F_X9_ofPassenger M a1 0) fun r14 =>
    bd_x (F_X9_tramStop M a2) fun r17 =>
    if r17 = r14 then
      bd_x (F_X9_ofPassenger M a1 2) fun r21 =>
      if ix_i (6 + r14) 129 then
      if ¬ ((r21 >>> ((fw_ri M 379 (6 + r14)) &&& 31)) &&& 1) = 1 then
        F_X9_hinders_64 M a1 a2
      else
        bd_x (F_X9_ofPassenger M a1 3) fun r26 =>
        if r26 ≤ 0 then
          F_X9_hinders_64 M a1 a2
        else
          bd_x (F_X9_ofTram M a2 0) fun r30 =>
          bd_x (F_X9_isFree M a1 r30) fun r33 =>
          if ¬ r33 = 0 then
            some 0
          else
            some 0
      else none
    else
      some 3
  else
    some 2
set_option maxHeartbeats 4000000 in
set_option maxRecDepth 100000 in
theorem cm_X9_hinders {l : Launch} {X : fw_X} {M : fw_M} {a1 : Int32} {a2 : Int32}  {o : Int32} (hF : F_X9_hinders M a1 a2 = some o) : ct_i l X yX9_hinders cX9_hinders 5 (some .int) ({ frames := 2, cells := 0, slots := 0, locals := 45 } : Room) M [.ref (fw_ad X 378), .int a1, .int a2] (.inl o, M) := by
  refine fw_open rfl (Nat.le_of_ble_eq_true rfl) (fun p e s m below meth c ls C hr hlk hnm hex hl B => ?_)
  have C : fr_C X p c cX9_hinders 5 RX9 s m ([.ref (fw_ad X 378), .int a1, .int a2] : List Value).toArray := C
  have hx := C.1.1
  have hb := C.1.2.1
  have hl : lv_has ls 5 [(0, .ref (fw_ad X 378)), (1, .int a1), (2, .int a2)] := hl
  have hJ64 : ∀ (H : Heap) (locs : List Loc) (ls : Array Slot), F_X9_hinders_64 M a1 a2  = some o → fr_H X s M H locs → lv_has ls 5 [(0, .ref (fw_ad X 378)), (1, .int a1), (2, .int a2)] → W p l e ({ frames := 2, cells := 0, slots := 0, locals := 45 } : Room) s m ([.ref (fw_ad X 378), .int a1, .int a2] : List Value).toArray below meth c H locs 0 0 (vx_MQ below (fw_Qi X (.inl o, M)) (fw_Qx X (.inl o, M)) ([.ref (fw_ad X 378), .int a1, .int a2] : List Value).toArray s 0 0 (fw_A X)) (F0 m 64 ls []) := by
    intro H locs ls hF B hl
    unfold F_X9_hinders_64 at hF
    refine lv_iconst (v := 0) hx hb dX9_hinders_64 (by decide) ?_
    refine lv_istore (lv' := [(4, .int 0), (0, .ref (fw_ad X 378)), (1, .int a1), (2, .int a2)]) hx hb dX9_hinders_65 hl (by decide) rfl (fun ls hl => ?_)
    refine lv_aload_n hx hb dX9_hinders_67 rfl (lv_at hl 1 rfl) ?_
    refine lv_iload_n hx hb dX9_hinders_68 rfl (lv_at hl 2 rfl) ?_
    refine lv_aload_n hx hb dX9_hinders_69 rfl (lv_at hl 1 rfl) ?_
    refine lv_iload_n hx hb dX9_hinders_70 rfl (lv_at hl 3 rfl) ?_
    refine lv_iconst (v := 0) hx hb dX9_hinders_71 (by decide) ?_
    obtain ⟨r2, hf1, hF⟩ := bx_e hF
    refine fr_cVi (As := [.int a2, .int 0]) (rest := [.int a1, .ref (fw_ad X 378)]) C B (cm_X9_ofTram hf1) ob_9 rfl yw_X9_ofTram wm_X9_111 rfl hl.1 rfl (Nat.le_of_ble_eq_true rfl) ⟨Nat.le_of_ble_eq_true rfl, Nat.le_of_ble_eq_true rfl⟩ ⟨Nat.le_of_ble_eq_true rfl, Nat.le_of_ble_eq_true rfl⟩ dX9_hinders_72 (fr_nx rfl) (fun r9 M9 H locs ho9 B => ?_)
    obtain ⟨rfl, rfl⟩ := oi_e ho9
    obtain ⟨r5, hf4, hF⟩ := bx_e hF
    refine fr_cVi (As := [.int a1, .int r2]) (rest := []) C B (cm_X9_isFree hf4) ob_9 rfl yw_X9_isFree wm_X9_140 rfl hl.1 rfl (Nat.le_of_ble_eq_true rfl) ⟨Nat.le_of_ble_eq_true rfl, Nat.le_of_ble_eq_true rfl⟩ ⟨Nat.le_of_ble_eq_true rfl, Nat.le_of_ble_eq_true rfl⟩ dX9_hinders_75 (fr_nx rfl) (fun r9 M9 H locs ho9 B => ?_)
    obtain ⟨rfl, rfl⟩ := oi_e ho9
    refine lv_if_ne (tgt := 86) hx hb dX9_hinders_78 (by decide) (fun c7 => ?_) (fun c7 => ?_)
    · have hF := it_t hF c7
      refine lv_iconst (v := 0) hx hb dX9_hinders_86 (by decide) ?_
      refine lv_goto (tgt := 91) hx hb dX9_hinders_87 (by decide) ?_
      exact fr_iret C B hr rfl hlk (by rw [← Option.some.inj hF]) (Nat.le_of_ble_eq_true rfl) (Nat.le_of_ble_eq_true rfl) dX9_hinders_91
    · have hF := it_f hF (not_not_intro c7)
      refine lv_iload hx hb dX9_hinders_81 (lv_at hl 0 rfl) ?_
      refine lv_if_eq (tgt := 90) hx hb dX9_hinders_83 (by decide) (fun c8 => ?_) (fun c8 => ?_)
      · refine lv_iconst (v := 4) hx hb dX9_hinders_90 (by decide) ?_
        exact fr_iret C B hr rfl hlk (by rw [← Option.some.inj hF]) (Nat.le_of_ble_eq_true rfl) (Nat.le_of_ble_eq_true rfl) dX9_hinders_91
      · exact absurd c8 (by decide)
  unfold F_X9_hinders at hF
  refine lv_aload_n hx hb dX9_hinders_0 rfl (lv_at hl 0 rfl) ?_
  refine lv_iload_n hx hb dX9_hinders_1 rfl (lv_at hl 1 rfl) ?_
  refine lv_iconst (v := 1) hx hb dX9_hinders_2 (by decide) ?_
  obtain ⟨r10, hf9, hF⟩ := bx_e hF
  refine fr_cVi (As := [.int a1, .int 1]) (rest := []) C B (cm_X9_ofPassenger hf9) ob_9 rfl yw_X9_ofPassenger wm_X9_117 rfl hl.1 rfl (Nat.le_of_ble_eq_true rfl) ⟨Nat.le_of_ble_eq_true rfl, Nat.le_of_ble_eq_true rfl⟩ ⟨Nat.le_of_ble_eq_true rfl, Nat.le_of_ble_eq_true rfl⟩ dX9_hinders_3 (fr_nx rfl) (fun r9 M9 H locs ho9 B => ?_)
  obtain ⟨rfl, rfl⟩ := oi_e ho9
  refine lv_if_lt (tgt := 11) hx hb dX9_hinders_6 (by decide) (fun c12 => ?_) (fun c12 => ?_)
  · have hF := it_t hF c12
    refine lv_aload_n hx hb dX9_hinders_11 rfl (lv_at hl 0 rfl) ?_
    refine lv_iload_n hx hb dX9_hinders_12 rfl (lv_at hl 1 rfl) ?_
    refine lv_iconst (v := 0) hx hb dX9_hinders_13 (by decide) ?_
    obtain ⟨r14, hf13, hF⟩ := bx_e hF
    refine fr_cVi (As := [.int a1, .int 0]) (rest := []) C B (cm_X9_ofPassenger hf13) ob_9 rfl yw_X9_ofPassenger wm_X9_117 rfl hl.1 rfl (Nat.le_of_ble_eq_true rfl) ⟨Nat.le_of_ble_eq_true rfl, Nat.le_of_ble_eq_true rfl⟩ ⟨Nat.le_of_ble_eq_true rfl, Nat.le_of_ble_eq_true rfl⟩ dX9_hinders_14 (fr_nx rfl) (fun r9 M9 H locs ho9 B => ?_)
    obtain ⟨rfl, rfl⟩ := oi_e ho9
    refine lv_istore_n (lv' := [(3, .int r14), (0, .ref (fw_ad X 378)), (1, .int a1), (2, .int a2)]) hx hb dX9_hinders_17 rfl hl (by decide) rfl (fun ls hl => ?_)
    refine lv_aload_n hx hb dX9_hinders_18 rfl (lv_at hl 1 rfl) ?_
    refine lv_iload_n hx hb dX9_hinders_19 rfl (lv_at hl 3 rfl) ?_
    obtain ⟨r17, hf16, hF⟩ := bx_e hF
    refine fr_cVi (As := [.int a2]) (rest := []) C B (cm_X9_tramStop hf16) ob_9 rfl yw_X9_tramStop wm_X9_114 rfl hl.1 rfl (Nat.le_of_ble_eq_true rfl) ⟨Nat.le_of_ble_eq_true rfl, Nat.le_of_ble_eq_true rfl⟩ ⟨Nat.le_of_ble_eq_true rfl, Nat.le_of_ble_eq_true rfl⟩ dX9_hinders_20 (fr_nx rfl) (fun r9 M9 H locs ho9 B => ?_)
    obtain ⟨rfl, rfl⟩ := oi_e ho9
    refine lv_iload_n hx hb dX9_hinders_23 rfl (lv_at hl 0 rfl) ?_
    refine lv_icmp_eq (tgt := 29) hx hb dX9_hinders_24 (by decide) (fun c19 => ?_) (fun c19 => ?_)
    · have hF := it_t hF c19
      refine lv_aload_n hx hb dX9_hinders_29 rfl (lv_at hl 1 rfl) ?_
      refine lv_iload_n hx hb dX9_hinders_30 rfl (lv_at hl 2 rfl) ?_
      refine lv_iconst (v := 2) hx hb dX9_hinders_31 (by decide) ?_
      obtain ⟨r21, hf20, hF⟩ := bx_e hF
      refine fr_cVi (As := [.int a1, .int 2]) (rest := []) C B (cm_X9_ofPassenger hf20) ob_9 rfl yw_X9_ofPassenger wm_X9_117 rfl hl.1 rfl (Nat.le_of_ble_eq_true rfl) ⟨Nat.le_of_ble_eq_true rfl, Nat.le_of_ble_eq_true rfl⟩ ⟨Nat.le_of_ble_eq_true rfl, Nat.le_of_ble_eq_true rfl⟩ dX9_hinders_32 (fr_nx rfl) (fun r9 M9 H locs ho9 B => ?_)
      obtain ⟨rfl, rfl⟩ := oi_e ho9
      refine lv_aload_n hx hb dX9_hinders_35 rfl (lv_at hl 1 rfl) ?_
      refine gf_X9_9 C B dX9_hinders_36 ?_
      refine lv_bipush (v := 6) hx hb dX9_hinders_39 (by decide) ?_
      refine lv_iload_n hx hb dX9_hinders_41 rfl (lv_at hl 0 rfl) ?_
      refine lv_iadd hx hb dX9_hinders_42 ?_
      obtain ⟨c23, hF⟩ := of_g hF
      refine fr_ia C B ar_9_379 c23 dX9_hinders_43 ?_
      refine lv_ishr hx hb dX9_hinders_44 ?_
      refine lv_iconst (v := 1) hx hb dX9_hinders_45 (by decide) ?_
      refine lv_iand hx hb dX9_hinders_46 ?_
      refine lv_iconst (v := 1) hx hb dX9_hinders_47 (by decide) ?_
      refine lv_icmp_ne (tgt := 64) hx hb dX9_hinders_48 (by decide) (fun c24 => ?_) (fun c24 => ?_)
      · have hF := it_t hF c24
        exact hJ64  _ _ _ hF B (lv_sub hl [1, 2, 3] rfl)
      · have hF := it_f hF (not_not_intro c24)
        refine lv_aload_n hx hb dX9_hinders_51 rfl (lv_at hl 1 rfl) ?_
        refine lv_iload_n hx hb dX9_hinders_52 rfl (lv_at hl 2 rfl) ?_
        refine lv_iconst (v := 3) hx hb dX9_hinders_53 (by decide) ?_
        obtain ⟨r26, hf25, hF⟩ := bx_e hF
        refine fr_cVi (As := [.int a1, .int 3]) (rest := []) C B (cm_X9_ofPassenger hf25) ob_9 rfl yw_X9_ofPassenger wm_X9_117 rfl hl.1 rfl (Nat.le_of_ble_eq_true rfl) ⟨Nat.le_of_ble_eq_true rfl, Nat.le_of_ble_eq_true rfl⟩ ⟨Nat.le_of_ble_eq_true rfl, Nat.le_of_ble_eq_true rfl⟩ dX9_hinders_54 (fr_nx rfl) (fun r9 M9 H locs ho9 B => ?_)
        obtain ⟨rfl, rfl⟩ := oi_e ho9
        refine lv_if_le (tgt := 64) hx hb dX9_hinders_57 (by decide) (fun c28 => ?_) (fun c28 => ?_)
        · have hF := it_t hF c28
          exact hJ64  _ _ _ hF B (lv_sub hl [1, 2, 3] rfl)
        · have hF := it_f hF c28
          refine lv_iconst (v := 1) hx hb dX9_hinders_60 (by decide) ?_
          refine lv_goto (tgt := 65) hx hb dX9_hinders_61 (by decide) ?_
          refine lv_istore (lv' := [(4, .int 1), (3, .int r14), (0, .ref (fw_ad X 378)), (1, .int a1), (2, .int a2)]) hx hb dX9_hinders_65 hl (by decide) rfl (fun ls hl => ?_)
          refine lv_aload_n hx hb dX9_hinders_67 rfl (lv_at hl 2 rfl) ?_
          refine lv_iload_n hx hb dX9_hinders_68 rfl (lv_at hl 3 rfl) ?_
          refine lv_aload_n hx hb dX9_hinders_69 rfl (lv_at hl 2 rfl) ?_
          refine lv_iload_n hx hb dX9_hinders_70 rfl (lv_at hl 4 rfl) ?_
          refine lv_iconst (v := 0) hx hb dX9_hinders_71 (by decide) ?_
          obtain ⟨r30, hf29, hF⟩ := bx_e hF
          refine fr_cVi (As := [.int a2, .int 0]) (rest := [.int a1, .ref (fw_ad X 378)]) C B (cm_X9_ofTram hf29) ob_9 rfl yw_X9_ofTram wm_X9_111 rfl hl.1 rfl (Nat.le_of_ble_eq_true rfl) ⟨Nat.le_of_ble_eq_true rfl, Nat.le_of_ble_eq_true rfl⟩ ⟨Nat.le_of_ble_eq_true rfl, Nat.le_of_ble_eq_true rfl⟩ dX9_hinders_72 (fr_nx rfl) (fun r9 M9 H locs ho9 B => ?_)
          obtain ⟨rfl, rfl⟩ := oi_e ho9
          obtain ⟨r33, hf32, hF⟩ := bx_e hF
          refine fr_cVi (As := [.int a1, .int r30]) (rest := []) C B (cm_X9_isFree hf32) ob_9 rfl yw_X9_isFree wm_X9_140 rfl hl.1 rfl (Nat.le_of_ble_eq_true rfl) ⟨Nat.le_of_ble_eq_true rfl, Nat.le_of_ble_eq_true rfl⟩ ⟨Nat.le_of_ble_eq_true rfl, Nat.le_of_ble_eq_true rfl⟩ dX9_hinders_75 (fr_nx rfl) (fun r9 M9 H locs ho9 B => ?_)
          obtain ⟨rfl, rfl⟩ := oi_e ho9
          refine lv_if_ne (tgt := 86) hx hb dX9_hinders_78 (by decide) (fun c35 => ?_) (fun c35 => ?_)
          · have hF := it_t hF c35
            refine lv_iconst (v := 0) hx hb dX9_hinders_86 (by decide) ?_
            refine lv_goto (tgt := 91) hx hb dX9_hinders_87 (by decide) ?_
            exact fr_iret C B hr rfl hlk (by rw [← Option.some.inj hF]) (Nat.le_of_ble_eq_true rfl) (Nat.le_of_ble_eq_true rfl) dX9_hinders_91
          · have hF := it_f hF (not_not_intro c35)
            refine lv_iload hx hb dX9_hinders_81 (lv_at hl 0 rfl) ?_
            refine lv_if_eq (tgt := 90) hx hb dX9_hinders_83 (by decide) (fun c36 => ?_) (fun c36 => ?_)
            · exact absurd c36 (by decide)
            · refine lv_iconst (v := 0) hx hb dX9_hinders_86 (by decide) ?_
              refine lv_goto (tgt := 91) hx hb dX9_hinders_87 (by decide) ?_
              exact fr_iret C B hr rfl hlk (by rw [← Option.some.inj hF]) (Nat.le_of_ble_eq_true rfl) (Nat.le_of_ble_eq_true rfl) dX9_hinders_91
    · have hF := it_f hF c19
      refine lv_iconst (v := 3) hx hb dX9_hinders_27 (by decide) ?_
      exact fr_iret C B hr rfl hlk (by rw [← Option.some.inj hF]) (Nat.le_of_ble_eq_true rfl) (Nat.le_of_ble_eq_true rfl) dX9_hinders_28
  · have hF := it_f hF c12
    refine lv_iconst (v := 2) hx hb dX9_hinders_9 (by decide) ?_
    exact fr_iret C B hr rfl hlk (by rw [← Option.some.inj hF]) (Nat.le_of_ble_eq_true rfl) (Nat.le_of_ble_eq_true rfl) dX9_hinders_10
def F_X9_doBoard_73 (a1 : Int32) (a2 : Int32)  (x3 : Int32) (M : fw_M) : Option (Int32 × fw_M) :=
  bd_x (F_X9_sets M a1 0 (-1)) fun M3 =>
  bd_x (F_X9_sets M3 a1 1 a2) fun M6 =>
  if ¬ x3 = 0 then
    some (0, M6)
  else
    some (1, M6)
def F_X9_doBoard_30 (a1 : Int32) (a2 : Int32)  (M : fw_M) : Option (Int32 × fw_M) :=
  if (M 378 6) ≤ 0 then
    bd_x (F_X9_ofTram M a2 0) fun r10 =>
    bd_x (F_X9_isFree M a1 r10) fun r13 =>
    bd_x (F_X9_ofPassenger M a1 3) fun r16 =>
    if r13 = 0 then
      bd_x (F_X9_sets M a1 3 (r16 - 1)) fun M21 =>
      F_X9_doBoard_73 a1 a2 r13 M21
    else
      bd_x (F_X9_sets M a1 3 (r16 - 0)) fun M24 =>
      F_X9_doBoard_73 a1 a2 r13 M24
  else
    some (0, M)
def F_X9_doBoard (M : fw_M) (a1 : Int32) (a2 : Int32) : Option (Int32 × fw_M) :=
  bd_x (F_X9_isPassenger M a1) fun r26 =>
  if r26 = 0 then
    lt_x (fw_up M 378 6 1) fun M29 =>
    F_X9_doBoard_30 a1 a2 M29
  else
    bd_x (F_X9_isTram M a2) fun r31 =>
    if ¬ r31 = 0 then
      bd_x (F_X9_hinders M a1 a2) fun r35 =>
      lt_x (fw_up M 378 6 r35) fun M37 =>
      F_X9_doBoard_30 a1 a2 M37
    else
      lt_x (fw_up M 378 6 1) fun M38 =>
      F_X9_doBoard_30 a1 a2 M38
set_option maxHeartbeats 4000000 in
set_option maxRecDepth 100000 in
theorem cm_X9_doBoard {l : Launch} {X : fw_X} {M : fw_M} {a1 : Int32} {a2 : Int32}  {o : Int32 × fw_M} (hF : F_X9_doBoard M a1 a2 = some o) : ct_i l X yX9_doBoard cX9_doBoard 4 (some .boolean) ({ frames := 3, cells := 0, slots := 0, locals := 69 } : Room) M [.ref (fw_ad X 378), .int a1, .int a2] (.inl o.1, o.2) := by
  refine fw_open rfl (Nat.le_of_ble_eq_true rfl) (fun p e s m below meth c ls C hr hlk hnm hex hl B => ?_)
  have C : fr_C X p c cX9_doBoard 4 RX9 s m ([.ref (fw_ad X 378), .int a1, .int a2] : List Value).toArray := C
  have hx := C.1.1
  have hb := C.1.2.1
  have hl : lv_has ls 4 [(0, .ref (fw_ad X 378)), (1, .int a1), (2, .int a2)] := hl
  have hJ73 : ∀ (x3 : Int32) (M : fw_M) (H : Heap) (locs : List Loc) (ls : Array Slot), F_X9_doBoard_73 a1 a2 x3 M = some o → fr_H X s M H locs → lv_has ls 4 [(0, .ref (fw_ad X 378)), (1, .int a1), (2, .int a2), (3, .int x3)] → W p l e ({ frames := 3, cells := 0, slots := 0, locals := 69 } : Room) s m ([.ref (fw_ad X 378), .int a1, .int a2] : List Value).toArray below meth c H locs 0 0 (vx_MQ below (fw_Qi X (.inl o.1, o.2)) (fw_Qx X (.inl o.1, o.2)) ([.ref (fw_ad X 378), .int a1, .int a2] : List Value).toArray s 0 0 (fw_A X)) (F0 m 73 ls []) := by
    intro x3 M H locs ls hF B hl
    unfold F_X9_doBoard_73 at hF
    refine lv_aload_n hx hb dX9_doBoard_73 rfl (lv_at hl 0 rfl) ?_
    refine lv_iload_n hx hb dX9_doBoard_74 rfl (lv_at hl 1 rfl) ?_
    refine lv_iconst (v := 0) hx hb dX9_doBoard_75 (by decide) ?_
    refine lv_iconst (v := (-1)) hx hb dX9_doBoard_76 (by decide) ?_
    obtain ⟨M3, hf1, hF⟩ := bx_e hF
    refine fr_cVv (As := [.int a1, .int 0, .int (-1)]) (rest := []) C B (cm_X9_sets hf1) ob_9 rfl yw_X9_sets wm_X9_126 rfl hl.1 rfl (Nat.le_of_ble_eq_true rfl) ⟨Nat.le_of_ble_eq_true rfl, Nat.le_of_ble_eq_true rfl⟩ ⟨Nat.le_of_ble_eq_true rfl, Nat.le_of_ble_eq_true rfl⟩ dX9_doBoard_77 (fr_nx rfl) (fun M9 H locs ho9 B => ?_)
    obtain ⟨-, rfl⟩ := oi_e ho9
    refine lv_aload_n hx hb dX9_doBoard_80 rfl (lv_at hl 0 rfl) ?_
    refine lv_iload_n hx hb dX9_doBoard_81 rfl (lv_at hl 1 rfl) ?_
    refine lv_iconst (v := 1) hx hb dX9_doBoard_82 (by decide) ?_
    refine lv_iload_n hx hb dX9_doBoard_83 rfl (lv_at hl 2 rfl) ?_
    obtain ⟨M6, hf4, hF⟩ := bx_e hF
    refine fr_cVv (As := [.int a1, .int 1, .int a2]) (rest := []) C B (cm_X9_sets hf4) ob_9 rfl yw_X9_sets wm_X9_126 rfl hl.1 rfl (Nat.le_of_ble_eq_true rfl) ⟨Nat.le_of_ble_eq_true rfl, Nat.le_of_ble_eq_true rfl⟩ ⟨Nat.le_of_ble_eq_true rfl, Nat.le_of_ble_eq_true rfl⟩ dX9_doBoard_84 (fr_nx rfl) (fun M9 H locs ho9 B => ?_)
    obtain ⟨-, rfl⟩ := oi_e ho9
    refine lv_iload_n hx hb dX9_doBoard_87 rfl (lv_at hl 3 rfl) ?_
    refine lv_if_ne (tgt := 95) hx hb dX9_doBoard_88 (by decide) (fun c7 => ?_) (fun c7 => ?_)
    · have hF := it_t hF c7
      refine lv_iconst (v := 0) hx hb dX9_doBoard_95 (by decide) ?_
      exact fr_iret C B hr rfl hlk (by rw [← Option.some.inj hF]) (Nat.le_of_ble_eq_true rfl) (Nat.le_of_ble_eq_true rfl) dX9_doBoard_96
    · have hF := it_f hF (not_not_intro c7)
      refine lv_iconst (v := 1) hx hb dX9_doBoard_91 (by decide) ?_
      refine lv_goto (tgt := 96) hx hb dX9_doBoard_92 (by decide) ?_
      exact fr_iret C B hr rfl hlk (by rw [← Option.some.inj hF]) (Nat.le_of_ble_eq_true rfl) (Nat.le_of_ble_eq_true rfl) dX9_doBoard_96
  have hJ30 : ∀ (M : fw_M) (H : Heap) (locs : List Loc) (ls : Array Slot), F_X9_doBoard_30 a1 a2 M = some o → fr_H X s M H locs → lv_has ls 4 [(0, .ref (fw_ad X 378)), (1, .int a1), (2, .int a2)] → W p l e ({ frames := 3, cells := 0, slots := 0, locals := 69 } : Room) s m ([.ref (fw_ad X 378), .int a1, .int a2] : List Value).toArray below meth c H locs 0 0 (vx_MQ below (fw_Qi X (.inl o.1, o.2)) (fw_Qx X (.inl o.1, o.2)) ([.ref (fw_ad X 378), .int a1, .int a2] : List Value).toArray s 0 0 (fw_A X)) (F0 m 30 ls []) := by
    intro M H locs ls hF B hl
    unfold F_X9_doBoard_30 at hF
    refine lv_aload_n hx hb dX9_doBoard_30 rfl (lv_at hl 0 rfl) ?_
    refine gf_X9_39 C B dX9_doBoard_31 ?_
    refine lv_if_le (tgt := 39) hx hb dX9_doBoard_34 (by decide) (fun c8 => ?_) (fun c8 => ?_)
    · have hF := it_t hF c8
      refine lv_aload_n hx hb dX9_doBoard_39 rfl (lv_at hl 0 rfl) ?_
      refine lv_iload_n hx hb dX9_doBoard_40 rfl (lv_at hl 1 rfl) ?_
      refine lv_aload_n hx hb dX9_doBoard_41 rfl (lv_at hl 0 rfl) ?_
      refine lv_iload_n hx hb dX9_doBoard_42 rfl (lv_at hl 2 rfl) ?_
      refine lv_iconst (v := 0) hx hb dX9_doBoard_43 (by decide) ?_
      obtain ⟨r10, hf9, hF⟩ := bx_e hF
      refine fr_cVi (As := [.int a2, .int 0]) (rest := [.int a1, .ref (fw_ad X 378)]) C B (cm_X9_ofTram hf9) ob_9 rfl yw_X9_ofTram wm_X9_111 rfl hl.1 rfl (Nat.le_of_ble_eq_true rfl) ⟨Nat.le_of_ble_eq_true rfl, Nat.le_of_ble_eq_true rfl⟩ ⟨Nat.le_of_ble_eq_true rfl, Nat.le_of_ble_eq_true rfl⟩ dX9_doBoard_44 (fr_nx rfl) (fun r9 M9 H locs ho9 B => ?_)
      obtain ⟨rfl, rfl⟩ := oi_e ho9
      obtain ⟨r13, hf12, hF⟩ := bx_e hF
      refine fr_cVi (As := [.int a1, .int r10]) (rest := []) C B (cm_X9_isFree hf12) ob_9 rfl yw_X9_isFree wm_X9_140 rfl hl.1 rfl (Nat.le_of_ble_eq_true rfl) ⟨Nat.le_of_ble_eq_true rfl, Nat.le_of_ble_eq_true rfl⟩ ⟨Nat.le_of_ble_eq_true rfl, Nat.le_of_ble_eq_true rfl⟩ dX9_doBoard_47 (fr_nx rfl) (fun r9 M9 H locs ho9 B => ?_)
      obtain ⟨rfl, rfl⟩ := oi_e ho9
      refine lv_istore_n (lv' := [(3, .int r13), (0, .ref (fw_ad X 378)), (1, .int a1), (2, .int a2)]) hx hb dX9_doBoard_50 rfl hl (by decide) rfl (fun ls hl => ?_)
      refine lv_aload_n hx hb dX9_doBoard_51 rfl (lv_at hl 1 rfl) ?_
      refine lv_iload_n hx hb dX9_doBoard_52 rfl (lv_at hl 2 rfl) ?_
      refine lv_iconst (v := 3) hx hb dX9_doBoard_53 (by decide) ?_
      refine lv_aload_n hx hb dX9_doBoard_54 rfl (lv_at hl 1 rfl) ?_
      refine lv_iload_n hx hb dX9_doBoard_55 rfl (lv_at hl 2 rfl) ?_
      refine lv_iconst (v := 3) hx hb dX9_doBoard_56 (by decide) ?_
      obtain ⟨r16, hf15, hF⟩ := bx_e hF
      refine fr_cVi (As := [.int a1, .int 3]) (rest := [.int 3, .int a1, .ref (fw_ad X 378)]) C B (cm_X9_ofPassenger hf15) ob_9 rfl yw_X9_ofPassenger wm_X9_117 rfl hl.1 rfl (Nat.le_of_ble_eq_true rfl) ⟨Nat.le_of_ble_eq_true rfl, Nat.le_of_ble_eq_true rfl⟩ ⟨Nat.le_of_ble_eq_true rfl, Nat.le_of_ble_eq_true rfl⟩ dX9_doBoard_57 (fr_nx rfl) (fun r9 M9 H locs ho9 B => ?_)
      obtain ⟨rfl, rfl⟩ := oi_e ho9
      refine lv_iload_n hx hb dX9_doBoard_60 rfl (lv_at hl 0 rfl) ?_
      refine lv_if_eq (tgt := 68) hx hb dX9_doBoard_61 (by decide) (fun c18 => ?_) (fun c18 => ?_)
      · have hF := it_t hF c18
        refine lv_iconst (v := 1) hx hb dX9_doBoard_68 (by decide) ?_
        refine lv_isub hx hb dX9_doBoard_69 ?_
        obtain ⟨M21, hf19, hF⟩ := bx_e hF
        refine fr_cVv (As := [.int a1, .int 3, .int (r16 - 1)]) (rest := []) C B (cm_X9_sets hf19) ob_9 rfl yw_X9_sets wm_X9_126 rfl hl.1 rfl (Nat.le_of_ble_eq_true rfl) ⟨Nat.le_of_ble_eq_true rfl, Nat.le_of_ble_eq_true rfl⟩ ⟨Nat.le_of_ble_eq_true rfl, Nat.le_of_ble_eq_true rfl⟩ dX9_doBoard_70 (fr_nx rfl) (fun M9 H locs ho9 B => ?_)
        obtain ⟨-, rfl⟩ := oi_e ho9
        exact hJ73 r13 M21 _ _ _ hF B (lv_sub hl [1, 2, 3, 0] rfl)
      · have hF := it_f hF c18
        refine lv_iconst (v := 0) hx hb dX9_doBoard_64 (by decide) ?_
        refine lv_goto (tgt := 69) hx hb dX9_doBoard_65 (by decide) ?_
        refine lv_isub hx hb dX9_doBoard_69 ?_
        obtain ⟨M24, hf22, hF⟩ := bx_e hF
        refine fr_cVv (As := [.int a1, .int 3, .int (r16 - 0)]) (rest := []) C B (cm_X9_sets hf22) ob_9 rfl yw_X9_sets wm_X9_126 rfl hl.1 rfl (Nat.le_of_ble_eq_true rfl) ⟨Nat.le_of_ble_eq_true rfl, Nat.le_of_ble_eq_true rfl⟩ ⟨Nat.le_of_ble_eq_true rfl, Nat.le_of_ble_eq_true rfl⟩ dX9_doBoard_70 (fr_nx rfl) (fun M9 H locs ho9 B => ?_)
        obtain ⟨-, rfl⟩ := oi_e ho9
        exact hJ73 r13 M24 _ _ _ hF B (lv_sub hl [1, 2, 3, 0] rfl)
    · have hF := it_f hF c8
      refine lv_iconst (v := 0) hx hb dX9_doBoard_37 (by decide) ?_
      exact fr_iret C B hr rfl hlk (by rw [← Option.some.inj hF]) (Nat.le_of_ble_eq_true rfl) (Nat.le_of_ble_eq_true rfl) dX9_doBoard_38
  unfold F_X9_doBoard at hF
  refine lv_aload_n hx hb dX9_doBoard_0 rfl (lv_at hl 0 rfl) ?_
  refine lv_aload_n hx hb dX9_doBoard_1 rfl (lv_at hl 0 rfl) ?_
  refine lv_iload_n hx hb dX9_doBoard_2 rfl (lv_at hl 1 rfl) ?_
  obtain ⟨r26, hf25, hF⟩ := bx_e hF
  refine fr_cVi (As := [.int a1]) (rest := [.ref (fw_ad X 378)]) C B (cm_X9_isPassenger hf25) ob_9 rfl yw_X9_isPassenger wm_X9_133 rfl hl.1 rfl (Nat.le_of_ble_eq_true rfl) ⟨Nat.le_of_ble_eq_true rfl, Nat.le_of_ble_eq_true rfl⟩ ⟨Nat.le_of_ble_eq_true rfl, Nat.le_of_ble_eq_true rfl⟩ dX9_doBoard_3 (fr_nx rfl) (fun r9 M9 H locs ho9 B => ?_)
  obtain ⟨rfl, rfl⟩ := oi_e ho9
  refine lv_if_eq (tgt := 17) hx hb dX9_doBoard_6 (by decide) (fun c28 => ?_) (fun c28 => ?_)
  · have hF := it_t hF c28
    refine lv_iconst (v := 1) hx hb dX9_doBoard_17 (by decide) ?_
    refine lv_goto (tgt := 27) hx hb dX9_doBoard_18 (by decide) ?_
    refine pf_X9_39 C B dX9_doBoard_27 (fun H locs B => ?_)
    obtain ⟨M29, eM29, hF⟩ := lt_e hF
    rw [← eM29] at B
    exact hJ30 M29 _ _ _ hF B (lv_sub hl [0, 1, 2] rfl)
  · have hF := it_f hF c28
    refine lv_aload_n hx hb dX9_doBoard_9 rfl (lv_at hl 0 rfl) ?_
    refine lv_iload_n hx hb dX9_doBoard_10 rfl (lv_at hl 2 rfl) ?_
    obtain ⟨r31, hf30, hF⟩ := bx_e hF
    refine fr_cVi (As := [.int a2]) (rest := [.ref (fw_ad X 378)]) C B (cm_X9_isTram hf30) ob_9 rfl yw_X9_isTram wm_X9_108 rfl hl.1 rfl (Nat.le_of_ble_eq_true rfl) ⟨Nat.le_of_ble_eq_true rfl, Nat.le_of_ble_eq_true rfl⟩ ⟨Nat.le_of_ble_eq_true rfl, Nat.le_of_ble_eq_true rfl⟩ dX9_doBoard_11 (fr_nx rfl) (fun r9 M9 H locs ho9 B => ?_)
    obtain ⟨rfl, rfl⟩ := oi_e ho9
    refine lv_if_ne (tgt := 21) hx hb dX9_doBoard_14 (by decide) (fun c33 => ?_) (fun c33 => ?_)
    · have hF := it_t hF c33
      refine lv_aload_n hx hb dX9_doBoard_21 rfl (lv_at hl 0 rfl) ?_
      refine lv_iload_n hx hb dX9_doBoard_22 rfl (lv_at hl 1 rfl) ?_
      refine lv_iload_n hx hb dX9_doBoard_23 rfl (lv_at hl 2 rfl) ?_
      obtain ⟨r35, hf34, hF⟩ := bx_e hF
      refine fr_cVi (As := [.int a1, .int a2]) (rest := [.ref (fw_ad X 378)]) C B (cm_X9_hinders hf34) ob_9 rfl yw_X9_hinders wm_X9_144 rfl hl.1 rfl (Nat.le_of_ble_eq_true rfl) ⟨Nat.le_of_ble_eq_true rfl, Nat.le_of_ble_eq_true rfl⟩ ⟨Nat.le_of_ble_eq_true rfl, Nat.le_of_ble_eq_true rfl⟩ dX9_doBoard_24 (fr_nx rfl) (fun r9 M9 H locs ho9 B => ?_)
      obtain ⟨rfl, rfl⟩ := oi_e ho9
      refine pf_X9_39 C B dX9_doBoard_27 (fun H locs B => ?_)
      obtain ⟨M37, eM37, hF⟩ := lt_e hF
      rw [← eM37] at B
      exact hJ30 M37 _ _ _ hF B (lv_sub hl [0, 1, 2] rfl)
    · have hF := it_f hF (not_not_intro c33)
      refine lv_iconst (v := 1) hx hb dX9_doBoard_17 (by decide) ?_
      refine lv_goto (tgt := 27) hx hb dX9_doBoard_18 (by decide) ?_
      refine pf_X9_39 C B dX9_doBoard_27 (fun H locs B => ?_)
      obtain ⟨M38, eM38, hF⟩ := lt_e hF
      rw [← eM38] at B
      exact hJ30 M38 _ _ _ hF B (lv_sub hl [0, 1, 2] rfl)
def F_X9_board (M : fw_M) (a1 : Int32) (a2 : Int32) : Option (Int32 × fw_M) :=
  bd_x (F_X9_keep M) fun M3 =>
  bd_p (F_X9_doBoard M3 a1 a2) fun r5 M6 =>
  bd_p (F_X9_ends M6 0) fun r8 M9 =>
  if (r5 = 0 ∨ r5 = 1) then
  some (r5, M9)
  else none
set_option maxHeartbeats 4000000 in
set_option maxRecDepth 100000 in
theorem cm_X9_board {l : Launch} {X : fw_X} {M : fw_M} {a1 : Int32} {a2 : Int32}  {o : Int32 × fw_M} (hF : F_X9_board M a1 a2 = some o) : ct_i l X yX9_board cX9_board 5 (some .boolean) ({ frames := 4, cells := 0, slots := 0, locals := 92 } : Room) M [.ref (fw_ad X 378), .int a1, .int a2] (.inl o.1, o.2) := by
  refine fw_open rfl (Nat.le_of_ble_eq_true rfl) (fun p e s m below meth c ls C hr hlk hnm hex hl B => ?_)
  have C : fr_C X p c cX9_board 5 RX9 s m ([.ref (fw_ad X 378), .int a1, .int a2] : List Value).toArray := C
  have hx := C.1.1
  have hb := C.1.2.1
  have hl : lv_has ls 5 [(0, .ref (fw_ad X 378)), (1, .int a1), (2, .int a2)] := hl
  unfold F_X9_board at hF
  refine lv_aload_n hx hb dX9_board_0 rfl (lv_at hl 0 rfl) ?_
  obtain ⟨M3, hf1, hF⟩ := bx_e hF
  refine fr_cVv (As := []) (rest := []) C B (cm_X9_keep hf1) ob_9 rfl yw_X9_keep wm_X9_66 rfl hl.1 rfl (Nat.le_of_ble_eq_true rfl) ⟨Nat.le_of_ble_eq_true rfl, Nat.le_of_ble_eq_true rfl⟩ ⟨Nat.le_of_ble_eq_true rfl, Nat.le_of_ble_eq_true rfl⟩ dX9_board_1 (fr_nx rfl) (fun M9 H locs ho9 B => ?_)
  obtain ⟨-, rfl⟩ := oi_e ho9
  refine lv_aload_n hx hb dX9_board_4 rfl (lv_at hl 0 rfl) ?_
  refine lv_iload_n hx hb dX9_board_5 rfl (lv_at hl 1 rfl) ?_
  refine lv_iload_n hx hb dX9_board_6 rfl (lv_at hl 2 rfl) ?_
  obtain ⟨r5, M6, hf4, hF⟩ := bp_e hF
  refine fr_cVi (As := [.int a1, .int a2]) (rest := []) C B (cm_X9_doBoard hf4) ob_9 rfl yw_X9_doBoard wm_X9_147 rfl hl.1 rfl (Nat.le_of_ble_eq_true rfl) ⟨Nat.le_of_ble_eq_true rfl, Nat.le_of_ble_eq_true rfl⟩ ⟨Nat.le_of_ble_eq_true rfl, Nat.le_of_ble_eq_true rfl⟩ dX9_board_7 (fr_nx rfl) (fun r9 M9 H locs ho9 B => ?_)
  obtain ⟨rfl, rfl⟩ := oi_e ho9
  refine lv_istore_n (lv' := [(3, .int r5), (0, .ref (fw_ad X 378)), (1, .int a1), (2, .int a2)]) hx hb dX9_board_10 rfl hl (by decide) rfl (fun ls hl => ?_)
  refine lv_aload_n hx hb dX9_board_11 rfl (lv_at hl 1 rfl) ?_
  refine lv_iconst (v := 0) hx hb dX9_board_12 (by decide) ?_
  obtain ⟨r8, M9, hf7, hF⟩ := bp_e hF
  refine fr_cVi (As := [.int 0]) (rest := []) C B (cm_X9_ends hf7) ob_9 rfl yw_X9_ends wm_X9_72 rfl hl.1 rfl (Nat.le_of_ble_eq_true rfl) ⟨Nat.le_of_ble_eq_true rfl, Nat.le_of_ble_eq_true rfl⟩ ⟨Nat.le_of_ble_eq_true rfl, Nat.le_of_ble_eq_true rfl⟩ dX9_board_13 (fr_nx rfl) (fun r9 M9 H locs ho9 B => ?_)
  obtain ⟨rfl, rfl⟩ := oi_e ho9
  refine lv_istore (lv' := [(4, .int r8), (3, .int r5), (0, .ref (fw_ad X 378)), (1, .int a1), (2, .int a2)]) hx hb dX9_board_16 hl (by decide) rfl (fun ls hl => ?_)
  refine lv_iload_n hx hb dX9_board_18 rfl (lv_at hl 1 rfl) ?_
  obtain ⟨c10, hF⟩ := of_g hF
  exact fr_iret C B hr (nz_b c10) hlk (by rw [← Option.some.inj hF]) (Nat.le_of_ble_eq_true rfl) (Nat.le_of_ble_eq_true rfl) dX9_board_19
def F_X9_doAlight_78 (a1 : Int32)  : Nat → Int32 → Int32 → fw_M → Option (Int32 × fw_M)
  | 0, _, _, _ => none
  | n + 1, x3, x4, M =>
    if ix_i 4 129 then
    if (fw_ri M 379 4) ≤ x4 then
      some (x3, M)
    else
      if ix_i (117 + (2 * x4)) 129 then
      if ¬ (fw_ri M 379 (117 + (2 * x4))) = a1 then
        lt_x (fw_wi M 379 (117 + (2 * x4)) (fw_ri M 379 (117 + (2 * x4)))) fun M5 =>
        F_X9_doAlight_78 a1 n x3 (x4 + 1) M5
      else
        bd_x (F_X9_isEnd M x3) fun r7 =>
        if r7 = 0 then
          lt_x (fw_wi M 379 (117 + (2 * x4)) (fw_ri M 379 (117 + (2 * x4)))) fun M10 =>
          F_X9_doAlight_78 a1 n x3 (x4 + 1) M10
        else
          lt_x (fw_wi M 379 (117 + (2 * x4)) (-1)) fun M11 =>
          F_X9_doAlight_78 a1 n x3 (x4 + 1) M11
      else none
    else none
def F_X9_doAlight (M : fw_M) (a1 : Int32) : Option (Int32 × fw_M) :=
  bd_x (F_X9_isPassenger M a1) fun r13 =>
  if ¬ r13 = 0 then
    bd_x (F_X9_ofPassenger M a1 1) fun r17 =>
    if 0 ≤ r17 then
      bd_x (F_X9_tramStop M r17) fun r21 =>
      bd_x (F_X9_sets M a1 0 r21) fun M25 =>
      bd_x (F_X9_sets M25 a1 1 (-1)) fun M28 =>
      bd_x (F_X9_ofTram M28 r17 0) fun r30 =>
      bd_x (F_X9_sets M28 a1 4 r30) fun M34 =>
      if ix_i 5 129 then
      bd_x (F_X9_sets M34 a1 5 (fw_ri M34 379 5)) fun M38 =>
      F_X9_doAlight_78 a1 64 r21 0 M38
      else none
    else
      bd_p (F_X9_fails M 2) fun r40 M41 =>
      some (r40, M41)
  else
    bd_p (F_X9_fails M 1) fun r43 M44 =>
    some (r43, M44)
set_option maxHeartbeats 4000000 in
set_option maxRecDepth 100000 in
theorem cm_X9_doAlight {l : Launch} {X : fw_X} {M : fw_M} {a1 : Int32}  {o : Int32 × fw_M} (hF : F_X9_doAlight M a1 = some o) : ct_i l X yX9_doAlight cX9_doAlight 6 (some .int) ({ frames := 2, cells := 0, slots := 0, locals := 45 } : Room) M [.ref (fw_ad X 378), .int a1] (.inl o.1, o.2) := by
  refine fw_open rfl (Nat.le_of_ble_eq_true rfl) (fun p e s m below meth c ls C hr hlk hnm hex hl B => ?_)
  have C : fr_C X p c cX9_doAlight 6 RX9 s m ([.ref (fw_ad X 378), .int a1] : List Value).toArray := C
  have hx := C.1.1
  have hb := C.1.2.1
  have hl : lv_has ls 6 [(0, .ref (fw_ad X 378)), (1, .int a1)] := hl
  have hJ78 : ∀ (n : Nat), ∀ (x3 : Int32) (x4 : Int32) (M : fw_M) (H : Heap) (locs : List Loc) (ls : Array Slot), F_X9_doAlight_78 a1 n x3 x4 M = some o → fr_H X s M H locs → lv_has ls 6 [(0, .ref (fw_ad X 378)), (1, .int a1), (3, .int x3), (4, .int x4)] → W p l e ({ frames := 2, cells := 0, slots := 0, locals := 45 } : Room) s m ([.ref (fw_ad X 378), .int a1] : List Value).toArray below meth c H locs 0 0 (vx_MQ below (fw_Qi X (.inl o.1, o.2)) (fw_Qx X (.inl o.1, o.2)) ([.ref (fw_ad X 378), .int a1] : List Value).toArray s 0 0 (fw_A X)) (F0 m 78 ls []) := by
    intro n
    induction n with
    | zero =>
      intro x3 x4 M H locs ls hF B hl
      exact absurd hF (by simp [F_X9_doAlight_78])
    | succ n ih =>
      intro x3 x4 M H locs ls hF B hl
      rw [F_X9_doAlight_78] at hF
      refine lv_iload hx hb dX9_doAlight_78 (lv_at hl 3 rfl) ?_
      refine lv_aload_n hx hb dX9_doAlight_80 rfl (lv_at hl 0 rfl) ?_
      refine gf_X9_9 C B dX9_doAlight_81 ?_
      refine lv_iconst (v := 4) hx hb dX9_doAlight_84 (by decide) ?_
      obtain ⟨c1, hF⟩ := of_g hF
      refine fr_ia C B ar_9_379 c1 dX9_doAlight_85 ?_
      refine lv_icmp_ge (tgt := 141) hx hb dX9_doAlight_86 (by decide) (fun c2 => ?_) (fun c2 => ?_)
      · have hF := it_t hF c2
        refine lv_iload_n hx hb dX9_doAlight_141 rfl (lv_at hl 2 rfl) ?_
        exact fr_iret C B hr rfl hlk (by rw [← Option.some.inj hF]) (Nat.le_of_ble_eq_true rfl) (Nat.le_of_ble_eq_true rfl) dX9_doAlight_142
      · have hF := it_f hF c2
        refine lv_bipush (v := 117) hx hb dX9_doAlight_89 (by decide) ?_
        refine lv_iconst (v := 2) hx hb dX9_doAlight_91 (by decide) ?_
        refine lv_iload hx hb dX9_doAlight_92 (lv_at hl 3 rfl) ?_
        refine lv_imul hx hb dX9_doAlight_94 ?_
        refine lv_iadd hx hb dX9_doAlight_95 ?_
        refine lv_istore (lv' := [(5, .int (117 + (2 * x4))), (0, .ref (fw_ad X 378)), (1, .int a1), (3, .int x3), (4, .int x4)]) hx hb dX9_doAlight_96 hl (by decide) rfl (fun ls hl => ?_)
        refine lv_aload_n hx hb dX9_doAlight_98 rfl (lv_at hl 1 rfl) ?_
        refine gf_X9_9 C B dX9_doAlight_99 ?_
        refine lv_iload hx hb dX9_doAlight_102 (lv_at hl 0 rfl) ?_
        refine lv_aload_n hx hb dX9_doAlight_104 rfl (lv_at hl 1 rfl) ?_
        refine gf_X9_9 C B dX9_doAlight_105 ?_
        refine lv_iload hx hb dX9_doAlight_108 (lv_at hl 0 rfl) ?_
        obtain ⟨c3, hF⟩ := of_g hF
        refine fr_ia C B ar_9_379 c3 dX9_doAlight_110 ?_
        refine lv_iload_n hx hb dX9_doAlight_111 rfl (lv_at hl 2 rfl) ?_
        refine lv_icmp_ne (tgt := 127) hx hb dX9_doAlight_112 (by decide) (fun c4 => ?_) (fun c4 => ?_)
        · have hF := it_t hF c4
          refine lv_aload_n hx hb dX9_doAlight_127 rfl (lv_at hl 1 rfl) ?_
          refine gf_X9_9 C B dX9_doAlight_128 ?_
          refine lv_iload hx hb dX9_doAlight_131 (lv_at hl 0 rfl) ?_
          refine fr_ia C B ar_9_379 c3 dX9_doAlight_133 ?_
          refine fr_is C B ar_9_379 c3 dX9_doAlight_134 (fun H locs B => ?_)
          obtain ⟨M5, eM5, hF⟩ := lt_e hF
          rw [← eM5] at B
          refine lv_iinc (v := (x4 + 1)) (lv' := [(4, .int (x4 + 1)), (5, .int (117 + (2 * x4))), (0, .ref (fw_ad X 378)), (1, .int a1), (3, .int x3)]) hx hb dX9_doAlight_135 hl (k := 4) rfl rfl (by decide) rfl (fun ls hl => ?_)
          refine lv_goto (tgt := 78) hx hb dX9_doAlight_138 (by decide) ?_
          exact ih x3 (x4 + 1) M5 _ _ _ hF B (lv_sub hl [2, 3, 4, 0] rfl)
        · have hF := it_f hF (not_not_intro c4)
          refine lv_aload_n hx hb dX9_doAlight_115 rfl (lv_at hl 1 rfl) ?_
          refine lv_iload_n hx hb dX9_doAlight_116 rfl (lv_at hl 3 rfl) ?_
          obtain ⟨r7, hf6, hF⟩ := bx_e hF
          refine fr_cVi (As := [.int x3]) (rest := [.int (117 + (2 * x4)), .ref (fw_ad X 379)]) C B (cm_X9_isEnd hf6) ob_9 rfl yw_X9_isEnd wm_X9_95 rfl hl.1 rfl (Nat.le_of_ble_eq_true rfl) ⟨Nat.le_of_ble_eq_true rfl, Nat.le_of_ble_eq_true rfl⟩ ⟨Nat.le_of_ble_eq_true rfl, Nat.le_of_ble_eq_true rfl⟩ dX9_doAlight_117 (fr_nx rfl) (fun r9 M9 H locs ho9 B => ?_)
          obtain ⟨rfl, rfl⟩ := oi_e ho9
          refine lv_if_eq (tgt := 127) hx hb dX9_doAlight_120 (by decide) (fun c9 => ?_) (fun c9 => ?_)
          · have hF := it_t hF c9
            refine lv_aload_n hx hb dX9_doAlight_127 rfl (lv_at hl 1 rfl) ?_
            refine gf_X9_9 C B dX9_doAlight_128 ?_
            refine lv_iload hx hb dX9_doAlight_131 (lv_at hl 0 rfl) ?_
            refine fr_ia C B ar_9_379 c3 dX9_doAlight_133 ?_
            refine fr_is C B ar_9_379 c3 dX9_doAlight_134 (fun H locs B => ?_)
            obtain ⟨M10, eM10, hF⟩ := lt_e hF
            rw [← eM10] at B
            refine lv_iinc (v := (x4 + 1)) (lv' := [(4, .int (x4 + 1)), (5, .int (117 + (2 * x4))), (0, .ref (fw_ad X 378)), (1, .int a1), (3, .int x3)]) hx hb dX9_doAlight_135 hl (k := 4) rfl rfl (by decide) rfl (fun ls hl => ?_)
            refine lv_goto (tgt := 78) hx hb dX9_doAlight_138 (by decide) ?_
            exact ih x3 (x4 + 1) M10 _ _ _ hF B (lv_sub hl [2, 3, 4, 0] rfl)
          · have hF := it_f hF c9
            refine lv_iconst (v := (-1)) hx hb dX9_doAlight_123 (by decide) ?_
            refine lv_goto (tgt := 134) hx hb dX9_doAlight_124 (by decide) ?_
            refine fr_is C B ar_9_379 c3 dX9_doAlight_134 (fun H locs B => ?_)
            obtain ⟨M11, eM11, hF⟩ := lt_e hF
            rw [← eM11] at B
            refine lv_iinc (v := (x4 + 1)) (lv' := [(4, .int (x4 + 1)), (5, .int (117 + (2 * x4))), (0, .ref (fw_ad X 378)), (1, .int a1), (3, .int x3)]) hx hb dX9_doAlight_135 hl (k := 4) rfl rfl (by decide) rfl (fun ls hl => ?_)
            refine lv_goto (tgt := 78) hx hb dX9_doAlight_138 (by decide) ?_
            exact ih x3 (x4 + 1) M11 _ _ _ hF B (lv_sub hl [2, 3, 4, 0] rfl)
  unfold F_X9_doAlight at hF
  refine lv_aload_n hx hb dX9_doAlight_0 rfl (lv_at hl 0 rfl) ?_
  refine lv_iload_n hx hb dX9_doAlight_1 rfl (lv_at hl 1 rfl) ?_
  obtain ⟨r13, hf12, hF⟩ := bx_e hF
  refine fr_cVi (As := [.int a1]) (rest := []) C B (cm_X9_isPassenger hf12) ob_9 rfl yw_X9_isPassenger wm_X9_133 rfl hl.1 rfl (Nat.le_of_ble_eq_true rfl) ⟨Nat.le_of_ble_eq_true rfl, Nat.le_of_ble_eq_true rfl⟩ ⟨Nat.le_of_ble_eq_true rfl, Nat.le_of_ble_eq_true rfl⟩ dX9_doAlight_2 (fr_nx rfl) (fun r9 M9 H locs ho9 B => ?_)
  obtain ⟨rfl, rfl⟩ := oi_e ho9
  refine lv_if_ne (tgt := 14) hx hb dX9_doAlight_5 (by decide) (fun c15 => ?_) (fun c15 => ?_)
  · have hF := it_t hF c15
    refine lv_aload_n hx hb dX9_doAlight_14 rfl (lv_at hl 0 rfl) ?_
    refine lv_iload_n hx hb dX9_doAlight_15 rfl (lv_at hl 1 rfl) ?_
    refine lv_iconst (v := 1) hx hb dX9_doAlight_16 (by decide) ?_
    obtain ⟨r17, hf16, hF⟩ := bx_e hF
    refine fr_cVi (As := [.int a1, .int 1]) (rest := []) C B (cm_X9_ofPassenger hf16) ob_9 rfl yw_X9_ofPassenger wm_X9_117 rfl hl.1 rfl (Nat.le_of_ble_eq_true rfl) ⟨Nat.le_of_ble_eq_true rfl, Nat.le_of_ble_eq_true rfl⟩ ⟨Nat.le_of_ble_eq_true rfl, Nat.le_of_ble_eq_true rfl⟩ dX9_doAlight_17 (fr_nx rfl) (fun r9 M9 H locs ho9 B => ?_)
    obtain ⟨rfl, rfl⟩ := oi_e ho9
    refine lv_istore_n (lv' := [(2, .int r17), (0, .ref (fw_ad X 378)), (1, .int a1)]) hx hb dX9_doAlight_20 rfl hl (by decide) rfl (fun ls hl => ?_)
    refine lv_iload_n hx hb dX9_doAlight_21 rfl (lv_at hl 0 rfl) ?_
    refine lv_if_ge (tgt := 31) hx hb dX9_doAlight_22 (by decide) (fun c19 => ?_) (fun c19 => ?_)
    · have hF := it_t hF c19
      refine lv_aload_n hx hb dX9_doAlight_31 rfl (lv_at hl 1 rfl) ?_
      refine lv_iload_n hx hb dX9_doAlight_32 rfl (lv_at hl 0 rfl) ?_
      obtain ⟨r21, hf20, hF⟩ := bx_e hF
      refine fr_cVi (As := [.int r17]) (rest := []) C B (cm_X9_tramStop hf20) ob_9 rfl yw_X9_tramStop wm_X9_114 rfl hl.1 rfl (Nat.le_of_ble_eq_true rfl) ⟨Nat.le_of_ble_eq_true rfl, Nat.le_of_ble_eq_true rfl⟩ ⟨Nat.le_of_ble_eq_true rfl, Nat.le_of_ble_eq_true rfl⟩ dX9_doAlight_33 (fr_nx rfl) (fun r9 M9 H locs ho9 B => ?_)
      obtain ⟨rfl, rfl⟩ := oi_e ho9
      refine lv_istore_n (lv' := [(3, .int r21), (2, .int r17), (0, .ref (fw_ad X 378)), (1, .int a1)]) hx hb dX9_doAlight_36 rfl hl (by decide) rfl (fun ls hl => ?_)
      refine lv_aload_n hx hb dX9_doAlight_37 rfl (lv_at hl 2 rfl) ?_
      refine lv_iload_n hx hb dX9_doAlight_38 rfl (lv_at hl 3 rfl) ?_
      refine lv_iconst (v := 0) hx hb dX9_doAlight_39 (by decide) ?_
      refine lv_iload_n hx hb dX9_doAlight_40 rfl (lv_at hl 0 rfl) ?_
      obtain ⟨M25, hf23, hF⟩ := bx_e hF
      refine fr_cVv (As := [.int a1, .int 0, .int r21]) (rest := []) C B (cm_X9_sets hf23) ob_9 rfl yw_X9_sets wm_X9_126 rfl hl.1 rfl (Nat.le_of_ble_eq_true rfl) ⟨Nat.le_of_ble_eq_true rfl, Nat.le_of_ble_eq_true rfl⟩ ⟨Nat.le_of_ble_eq_true rfl, Nat.le_of_ble_eq_true rfl⟩ dX9_doAlight_41 (fr_nx rfl) (fun M9 H locs ho9 B => ?_)
      obtain ⟨-, rfl⟩ := oi_e ho9
      refine lv_aload_n hx hb dX9_doAlight_44 rfl (lv_at hl 2 rfl) ?_
      refine lv_iload_n hx hb dX9_doAlight_45 rfl (lv_at hl 3 rfl) ?_
      refine lv_iconst (v := 1) hx hb dX9_doAlight_46 (by decide) ?_
      refine lv_iconst (v := (-1)) hx hb dX9_doAlight_47 (by decide) ?_
      obtain ⟨M28, hf26, hF⟩ := bx_e hF
      refine fr_cVv (As := [.int a1, .int 1, .int (-1)]) (rest := []) C B (cm_X9_sets hf26) ob_9 rfl yw_X9_sets wm_X9_126 rfl hl.1 rfl (Nat.le_of_ble_eq_true rfl) ⟨Nat.le_of_ble_eq_true rfl, Nat.le_of_ble_eq_true rfl⟩ ⟨Nat.le_of_ble_eq_true rfl, Nat.le_of_ble_eq_true rfl⟩ dX9_doAlight_48 (fr_nx rfl) (fun M9 H locs ho9 B => ?_)
      obtain ⟨-, rfl⟩ := oi_e ho9
      refine lv_aload_n hx hb dX9_doAlight_51 rfl (lv_at hl 2 rfl) ?_
      refine lv_iload_n hx hb dX9_doAlight_52 rfl (lv_at hl 3 rfl) ?_
      refine lv_iconst (v := 4) hx hb dX9_doAlight_53 (by decide) ?_
      refine lv_aload_n hx hb dX9_doAlight_54 rfl (lv_at hl 2 rfl) ?_
      refine lv_iload_n hx hb dX9_doAlight_55 rfl (lv_at hl 1 rfl) ?_
      refine lv_iconst (v := 0) hx hb dX9_doAlight_56 (by decide) ?_
      obtain ⟨r30, hf29, hF⟩ := bx_e hF
      refine fr_cVi (As := [.int r17, .int 0]) (rest := [.int 4, .int a1, .ref (fw_ad X 378)]) C B (cm_X9_ofTram hf29) ob_9 rfl yw_X9_ofTram wm_X9_111 rfl hl.1 rfl (Nat.le_of_ble_eq_true rfl) ⟨Nat.le_of_ble_eq_true rfl, Nat.le_of_ble_eq_true rfl⟩ ⟨Nat.le_of_ble_eq_true rfl, Nat.le_of_ble_eq_true rfl⟩ dX9_doAlight_57 (fr_nx rfl) (fun r9 M9 H locs ho9 B => ?_)
      obtain ⟨rfl, rfl⟩ := oi_e ho9
      obtain ⟨M34, hf32, hF⟩ := bx_e hF
      refine fr_cVv (As := [.int a1, .int 4, .int r30]) (rest := []) C B (cm_X9_sets hf32) ob_9 rfl yw_X9_sets wm_X9_126 rfl hl.1 rfl (Nat.le_of_ble_eq_true rfl) ⟨Nat.le_of_ble_eq_true rfl, Nat.le_of_ble_eq_true rfl⟩ ⟨Nat.le_of_ble_eq_true rfl, Nat.le_of_ble_eq_true rfl⟩ dX9_doAlight_60 (fr_nx rfl) (fun M9 H locs ho9 B => ?_)
      obtain ⟨-, rfl⟩ := oi_e ho9
      refine lv_aload_n hx hb dX9_doAlight_63 rfl (lv_at hl 2 rfl) ?_
      refine lv_iload_n hx hb dX9_doAlight_64 rfl (lv_at hl 3 rfl) ?_
      refine lv_iconst (v := 5) hx hb dX9_doAlight_65 (by decide) ?_
      refine lv_aload_n hx hb dX9_doAlight_66 rfl (lv_at hl 2 rfl) ?_
      refine gf_X9_9 C B dX9_doAlight_67 ?_
      refine lv_iconst (v := 5) hx hb dX9_doAlight_70 (by decide) ?_
      obtain ⟨c35, hF⟩ := of_g hF
      refine fr_ia C B ar_9_379 c35 dX9_doAlight_71 ?_
      obtain ⟨M38, hf36, hF⟩ := bx_e hF
      refine fr_cVv (As := [.int a1, .int 5, .int (fw_ri M34 379 5)]) (rest := []) C B (cm_X9_sets hf36) ob_9 rfl yw_X9_sets wm_X9_126 rfl hl.1 rfl (Nat.le_of_ble_eq_true rfl) ⟨Nat.le_of_ble_eq_true rfl, Nat.le_of_ble_eq_true rfl⟩ ⟨Nat.le_of_ble_eq_true rfl, Nat.le_of_ble_eq_true rfl⟩ dX9_doAlight_72 (fr_nx rfl) (fun M9 H locs ho9 B => ?_)
      obtain ⟨-, rfl⟩ := oi_e ho9
      refine lv_iconst (v := 0) hx hb dX9_doAlight_75 (by decide) ?_
      refine lv_istore (lv' := [(4, .int 0), (3, .int r21), (2, .int r17), (0, .ref (fw_ad X 378)), (1, .int a1)]) hx hb dX9_doAlight_76 hl (by decide) rfl (fun ls hl => ?_)
      exact hJ78 64 r21 0 M38 _ _ _ hF B (lv_sub hl [3, 4, 1, 0] rfl)
    · have hF := it_f hF c19
      refine lv_aload_n hx hb dX9_doAlight_25 rfl (lv_at hl 1 rfl) ?_
      refine lv_iconst (v := 2) hx hb dX9_doAlight_26 (by decide) ?_
      obtain ⟨r40, M41, hf39, hF⟩ := bp_e hF
      refine fr_cVi (As := [.int 2]) (rest := []) C B (cm_X9_fails hf39) ob_9 rfl yw_X9_fails wm_X9_63 rfl hl.1 rfl (Nat.le_of_ble_eq_true rfl) ⟨Nat.le_of_ble_eq_true rfl, Nat.le_of_ble_eq_true rfl⟩ ⟨Nat.le_of_ble_eq_true rfl, Nat.le_of_ble_eq_true rfl⟩ dX9_doAlight_27 (fr_nx rfl) (fun r9 M9 H locs ho9 B => ?_)
      obtain ⟨rfl, rfl⟩ := oi_e ho9
      exact fr_iret C B hr rfl hlk (by rw [← Option.some.inj hF]) (Nat.le_of_ble_eq_true rfl) (Nat.le_of_ble_eq_true rfl) dX9_doAlight_30
  · have hF := it_f hF (not_not_intro c15)
    refine lv_aload_n hx hb dX9_doAlight_8 rfl (lv_at hl 0 rfl) ?_
    refine lv_iconst (v := 1) hx hb dX9_doAlight_9 (by decide) ?_
    obtain ⟨r43, M44, hf42, hF⟩ := bp_e hF
    refine fr_cVi (As := [.int 1]) (rest := []) C B (cm_X9_fails hf42) ob_9 rfl yw_X9_fails wm_X9_63 rfl hl.1 rfl (Nat.le_of_ble_eq_true rfl) ⟨Nat.le_of_ble_eq_true rfl, Nat.le_of_ble_eq_true rfl⟩ ⟨Nat.le_of_ble_eq_true rfl, Nat.le_of_ble_eq_true rfl⟩ dX9_doAlight_10 (fr_nx rfl) (fun r9 M9 H locs ho9 B => ?_)
    obtain ⟨rfl, rfl⟩ := oi_e ho9
    exact fr_iret C B hr rfl hlk (by rw [← Option.some.inj hF]) (Nat.le_of_ble_eq_true rfl) (Nat.le_of_ble_eq_true rfl) dX9_doAlight_13
def F_X9_alight (M : fw_M) (a1 : Int32) : Option (Int32 × fw_M) :=
  bd_x (F_X9_keep M) fun M3 =>
  bd_p (F_X9_doAlight M3 a1) fun r5 M6 =>
  bd_p (F_X9_ends M6 r5) fun r8 M9 =>
  some (r8, M9)
set_option maxHeartbeats 4000000 in
set_option maxRecDepth 100000 in
theorem cm_X9_alight {l : Launch} {X : fw_X} {M : fw_M} {a1 : Int32}  {o : Int32 × fw_M} (hF : F_X9_alight M a1 = some o) : ct_i l X yX9_alight cX9_alight 2 (some .int) ({ frames := 3, cells := 0, slots := 0, locals := 81 } : Room) M [.ref (fw_ad X 378), .int a1] (.inl o.1, o.2) := by
  refine fw_open rfl (Nat.le_of_ble_eq_true rfl) (fun p e s m below meth c ls C hr hlk hnm hex hl B => ?_)
  have C : fr_C X p c cX9_alight 2 RX9 s m ([.ref (fw_ad X 378), .int a1] : List Value).toArray := C
  have hx := C.1.1
  have hb := C.1.2.1
  have hl : lv_has ls 2 [(0, .ref (fw_ad X 378)), (1, .int a1)] := hl
  unfold F_X9_alight at hF
  refine lv_aload_n hx hb dX9_alight_0 rfl (lv_at hl 0 rfl) ?_
  obtain ⟨M3, hf1, hF⟩ := bx_e hF
  refine fr_cVv (As := []) (rest := []) C B (cm_X9_keep hf1) ob_9 rfl yw_X9_keep wm_X9_66 rfl hl.1 rfl (Nat.le_of_ble_eq_true rfl) ⟨Nat.le_of_ble_eq_true rfl, Nat.le_of_ble_eq_true rfl⟩ ⟨Nat.le_of_ble_eq_true rfl, Nat.le_of_ble_eq_true rfl⟩ dX9_alight_1 (fr_nx rfl) (fun M9 H locs ho9 B => ?_)
  obtain ⟨-, rfl⟩ := oi_e ho9
  refine lv_aload_n hx hb dX9_alight_4 rfl (lv_at hl 0 rfl) ?_
  refine lv_aload_n hx hb dX9_alight_5 rfl (lv_at hl 0 rfl) ?_
  refine lv_iload_n hx hb dX9_alight_6 rfl (lv_at hl 1 rfl) ?_
  obtain ⟨r5, M6, hf4, hF⟩ := bp_e hF
  refine fr_cVi (As := [.int a1]) (rest := [.ref (fw_ad X 378)]) C B (cm_X9_doAlight hf4) ob_9 rfl yw_X9_doAlight wm_X9_150 rfl hl.1 rfl (Nat.le_of_ble_eq_true rfl) ⟨Nat.le_of_ble_eq_true rfl, Nat.le_of_ble_eq_true rfl⟩ ⟨Nat.le_of_ble_eq_true rfl, Nat.le_of_ble_eq_true rfl⟩ dX9_alight_7 (fr_nx rfl) (fun r9 M9 H locs ho9 B => ?_)
  obtain ⟨rfl, rfl⟩ := oi_e ho9
  obtain ⟨r8, M9, hf7, hF⟩ := bp_e hF
  refine fr_cVi (As := [.int r5]) (rest := []) C B (cm_X9_ends hf7) ob_9 rfl yw_X9_ends wm_X9_72 rfl hl.1 rfl (Nat.le_of_ble_eq_true rfl) ⟨Nat.le_of_ble_eq_true rfl, Nat.le_of_ble_eq_true rfl⟩ ⟨Nat.le_of_ble_eq_true rfl, Nat.le_of_ble_eq_true rfl⟩ dX9_alight_10 (fr_nx rfl) (fun r9 M9 H locs ho9 B => ?_)
  obtain ⟨rfl, rfl⟩ := oi_e ho9
  exact fr_iret C B hr rfl hlk (by rw [← Option.some.inj hF]) (Nat.le_of_ble_eq_true rfl) (Nat.le_of_ble_eq_true rfl) dX9_alight_13
def F_X9_passengerCount (M : fw_M) : Option (Int32 × fw_M) :=
  lt_x (fw_up M 378 6 0) fun M1 =>
  if ix_i 3 129 then
  some ((fw_ri M1 379 3), M1)
  else none
set_option maxHeartbeats 4000000 in
set_option maxRecDepth 100000 in
theorem cm_X9_passengerCount {l : Launch} {X : fw_X} {M : fw_M}  {o : Int32 × fw_M} (hF : F_X9_passengerCount M = some o) : ct_i l X yX9_passengerCount cX9_passengerCount 1 (some .int) ({ frames := 0, cells := 0, slots := 0, locals := 0 } : Room) M [.ref (fw_ad X 378)] (.inl o.1, o.2) := by
  refine fw_open rfl (Nat.le_of_ble_eq_true rfl) (fun p e s m below meth c ls C hr hlk hnm hex hl B => ?_)
  have C : fr_C X p c cX9_passengerCount 1 RX9 s m ([.ref (fw_ad X 378)] : List Value).toArray := C
  have hx := C.1.1
  have hb := C.1.2.1
  have hl : lv_has ls 1 [(0, .ref (fw_ad X 378))] := hl
  unfold F_X9_passengerCount at hF
  refine lv_aload_n hx hb dX9_passengerCount_0 rfl (lv_at hl 0 rfl) ?_
  refine lv_iconst (v := 0) hx hb dX9_passengerCount_1 (by decide) ?_
  refine pf_X9_39 C B dX9_passengerCount_2 (fun H locs B => ?_)
  obtain ⟨M1, eM1, hF⟩ := lt_e hF
  rw [← eM1] at B
  refine lv_aload_n hx hb dX9_passengerCount_5 rfl (lv_at hl 0 rfl) ?_
  refine gf_X9_9 C B dX9_passengerCount_6 ?_
  refine lv_iconst (v := 3) hx hb dX9_passengerCount_9 (by decide) ?_
  obtain ⟨c2, hF⟩ := of_g hF
  refine fr_ia C B ar_9_379 c2 dX9_passengerCount_10 ?_
  exact fr_iret C B hr rfl hlk (by rw [← Option.some.inj hF]) (Nat.le_of_ble_eq_true rfl) (Nat.le_of_ble_eq_true rfl) dX9_passengerCount_11
def F_X9_stopOfPassenger (M : fw_M) (a1 : Int32) : Option (Int32 × fw_M) :=
  bd_x (F_X9_isPassenger M a1) fun r2 =>
  bd_p (F_X9_isThere M r2) fun r5 M6 =>
  if r5 = 0 then
    some (0, M6)
  else
    bd_x (F_X9_ofPassenger M6 a1 0) fun r9 =>
    some (r9, M6)
set_option maxHeartbeats 4000000 in
set_option maxRecDepth 100000 in
theorem cm_X9_stopOfPassenger {l : Launch} {X : fw_X} {M : fw_M} {a1 : Int32}  {o : Int32 × fw_M} (hF : F_X9_stopOfPassenger M a1 = some o) : ct_i l X yX9_stopOfPassenger cX9_stopOfPassenger 2 (some .int) ({ frames := 2, cells := 0, slots := 0, locals := 43 } : Room) M [.ref (fw_ad X 378), .int a1] (.inl o.1, o.2) := by
  refine fw_open rfl (Nat.le_of_ble_eq_true rfl) (fun p e s m below meth c ls C hr hlk hnm hex hl B => ?_)
  have C : fr_C X p c cX9_stopOfPassenger 2 RX9 s m ([.ref (fw_ad X 378), .int a1] : List Value).toArray := C
  have hx := C.1.1
  have hb := C.1.2.1
  have hl : lv_has ls 2 [(0, .ref (fw_ad X 378)), (1, .int a1)] := hl
  unfold F_X9_stopOfPassenger at hF
  refine lv_aload_n hx hb dX9_stopOfPassenger_0 rfl (lv_at hl 0 rfl) ?_
  refine lv_aload_n hx hb dX9_stopOfPassenger_1 rfl (lv_at hl 0 rfl) ?_
  refine lv_iload_n hx hb dX9_stopOfPassenger_2 rfl (lv_at hl 1 rfl) ?_
  obtain ⟨r2, hf1, hF⟩ := bx_e hF
  refine fr_cVi (As := [.int a1]) (rest := [.ref (fw_ad X 378)]) C B (cm_X9_isPassenger hf1) ob_9 rfl yw_X9_isPassenger wm_X9_133 rfl hl.1 rfl (Nat.le_of_ble_eq_true rfl) ⟨Nat.le_of_ble_eq_true rfl, Nat.le_of_ble_eq_true rfl⟩ ⟨Nat.le_of_ble_eq_true rfl, Nat.le_of_ble_eq_true rfl⟩ dX9_stopOfPassenger_3 (fr_nx rfl) (fun r9 M9 H locs ho9 B => ?_)
  obtain ⟨rfl, rfl⟩ := oi_e ho9
  obtain ⟨r5, M6, hf4, hF⟩ := bp_e hF
  refine fr_cVi (As := [.int r2]) (rest := []) C B (cm_X9_isThere hf4) ob_9 rfl yw_X9_isThere wm_X9_91 rfl hl.1 rfl (Nat.le_of_ble_eq_true rfl) ⟨Nat.le_of_ble_eq_true rfl, Nat.le_of_ble_eq_true rfl⟩ ⟨Nat.le_of_ble_eq_true rfl, Nat.le_of_ble_eq_true rfl⟩ dX9_stopOfPassenger_6 (fr_nx rfl) (fun r9 M9 H locs ho9 B => ?_)
  obtain ⟨rfl, rfl⟩ := oi_e ho9
  refine lv_if_eq (tgt := 21) hx hb dX9_stopOfPassenger_9 (by decide) (fun c7 => ?_) (fun c7 => ?_)
  · have hF := it_t hF c7
    refine lv_iconst (v := 0) hx hb dX9_stopOfPassenger_21 (by decide) ?_
    exact fr_iret C B hr rfl hlk (by rw [← Option.some.inj hF]) (Nat.le_of_ble_eq_true rfl) (Nat.le_of_ble_eq_true rfl) dX9_stopOfPassenger_22
  · have hF := it_f hF c7
    refine lv_aload_n hx hb dX9_stopOfPassenger_12 rfl (lv_at hl 0 rfl) ?_
    refine lv_iload_n hx hb dX9_stopOfPassenger_13 rfl (lv_at hl 1 rfl) ?_
    refine lv_iconst (v := 0) hx hb dX9_stopOfPassenger_14 (by decide) ?_
    obtain ⟨r9, hf8, hF⟩ := bx_e hF
    refine fr_cVi (As := [.int a1, .int 0]) (rest := []) C B (cm_X9_ofPassenger hf8) ob_9 rfl yw_X9_ofPassenger wm_X9_117 rfl hl.1 rfl (Nat.le_of_ble_eq_true rfl) ⟨Nat.le_of_ble_eq_true rfl, Nat.le_of_ble_eq_true rfl⟩ ⟨Nat.le_of_ble_eq_true rfl, Nat.le_of_ble_eq_true rfl⟩ dX9_stopOfPassenger_15 (fr_nx rfl) (fun r9 M9 H locs ho9 B => ?_)
    obtain ⟨rfl, rfl⟩ := oi_e ho9
    refine lv_goto (tgt := 22) hx hb dX9_stopOfPassenger_18 (by decide) ?_
    exact fr_iret C B hr rfl hlk (by rw [← Option.some.inj hF]) (Nat.le_of_ble_eq_true rfl) (Nat.le_of_ble_eq_true rfl) dX9_stopOfPassenger_22
def F_X9_tramOfPassenger (M : fw_M) (a1 : Int32) : Option (Int32 × fw_M) :=
  bd_x (F_X9_isPassenger M a1) fun r2 =>
  bd_p (F_X9_isThere M r2) fun r5 M6 =>
  if r5 = 0 then
    some (0, M6)
  else
    bd_x (F_X9_ofPassenger M6 a1 1) fun r9 =>
    some (r9, M6)
set_option maxHeartbeats 4000000 in
set_option maxRecDepth 100000 in
theorem cm_X9_tramOfPassenger {l : Launch} {X : fw_X} {M : fw_M} {a1 : Int32}  {o : Int32 × fw_M} (hF : F_X9_tramOfPassenger M a1 = some o) : ct_i l X yX9_tramOfPassenger cX9_tramOfPassenger 2 (some .int) ({ frames := 2, cells := 0, slots := 0, locals := 43 } : Room) M [.ref (fw_ad X 378), .int a1] (.inl o.1, o.2) := by
  refine fw_open rfl (Nat.le_of_ble_eq_true rfl) (fun p e s m below meth c ls C hr hlk hnm hex hl B => ?_)
  have C : fr_C X p c cX9_tramOfPassenger 2 RX9 s m ([.ref (fw_ad X 378), .int a1] : List Value).toArray := C
  have hx := C.1.1
  have hb := C.1.2.1
  have hl : lv_has ls 2 [(0, .ref (fw_ad X 378)), (1, .int a1)] := hl
  unfold F_X9_tramOfPassenger at hF
  refine lv_aload_n hx hb dX9_tramOfPassenger_0 rfl (lv_at hl 0 rfl) ?_
  refine lv_aload_n hx hb dX9_tramOfPassenger_1 rfl (lv_at hl 0 rfl) ?_
  refine lv_iload_n hx hb dX9_tramOfPassenger_2 rfl (lv_at hl 1 rfl) ?_
  obtain ⟨r2, hf1, hF⟩ := bx_e hF
  refine fr_cVi (As := [.int a1]) (rest := [.ref (fw_ad X 378)]) C B (cm_X9_isPassenger hf1) ob_9 rfl yw_X9_isPassenger wm_X9_133 rfl hl.1 rfl (Nat.le_of_ble_eq_true rfl) ⟨Nat.le_of_ble_eq_true rfl, Nat.le_of_ble_eq_true rfl⟩ ⟨Nat.le_of_ble_eq_true rfl, Nat.le_of_ble_eq_true rfl⟩ dX9_tramOfPassenger_3 (fr_nx rfl) (fun r9 M9 H locs ho9 B => ?_)
  obtain ⟨rfl, rfl⟩ := oi_e ho9
  obtain ⟨r5, M6, hf4, hF⟩ := bp_e hF
  refine fr_cVi (As := [.int r2]) (rest := []) C B (cm_X9_isThere hf4) ob_9 rfl yw_X9_isThere wm_X9_91 rfl hl.1 rfl (Nat.le_of_ble_eq_true rfl) ⟨Nat.le_of_ble_eq_true rfl, Nat.le_of_ble_eq_true rfl⟩ ⟨Nat.le_of_ble_eq_true rfl, Nat.le_of_ble_eq_true rfl⟩ dX9_tramOfPassenger_6 (fr_nx rfl) (fun r9 M9 H locs ho9 B => ?_)
  obtain ⟨rfl, rfl⟩ := oi_e ho9
  refine lv_if_eq (tgt := 21) hx hb dX9_tramOfPassenger_9 (by decide) (fun c7 => ?_) (fun c7 => ?_)
  · have hF := it_t hF c7
    refine lv_iconst (v := 0) hx hb dX9_tramOfPassenger_21 (by decide) ?_
    exact fr_iret C B hr rfl hlk (by rw [← Option.some.inj hF]) (Nat.le_of_ble_eq_true rfl) (Nat.le_of_ble_eq_true rfl) dX9_tramOfPassenger_22
  · have hF := it_f hF c7
    refine lv_aload_n hx hb dX9_tramOfPassenger_12 rfl (lv_at hl 0 rfl) ?_
    refine lv_iload_n hx hb dX9_tramOfPassenger_13 rfl (lv_at hl 1 rfl) ?_
    refine lv_iconst (v := 1) hx hb dX9_tramOfPassenger_14 (by decide) ?_
    obtain ⟨r9, hf8, hF⟩ := bx_e hF
    refine fr_cVi (As := [.int a1, .int 1]) (rest := []) C B (cm_X9_ofPassenger hf8) ob_9 rfl yw_X9_ofPassenger wm_X9_117 rfl hl.1 rfl (Nat.le_of_ble_eq_true rfl) ⟨Nat.le_of_ble_eq_true rfl, Nat.le_of_ble_eq_true rfl⟩ ⟨Nat.le_of_ble_eq_true rfl, Nat.le_of_ble_eq_true rfl⟩ dX9_tramOfPassenger_15 (fr_nx rfl) (fun r9 M9 H locs ho9 B => ?_)
    obtain ⟨rfl, rfl⟩ := oi_e ho9
    refine lv_goto (tgt := 22) hx hb dX9_tramOfPassenger_18 (by decide) ?_
    exact fr_iret C B hr rfl hlk (by rw [← Option.some.inj hF]) (Nat.le_of_ble_eq_true rfl) (Nat.le_of_ble_eq_true rfl) dX9_tramOfPassenger_22
def F_X9_ridesOf (M : fw_M) (a1 : Int32) : Option (Int32 × fw_M) :=
  bd_x (F_X9_isPassenger M a1) fun r2 =>
  bd_p (F_X9_isThere M r2) fun r5 M6 =>
  if r5 = 0 then
    some (0, M6)
  else
    bd_x (F_X9_ofPassenger M6 a1 3) fun r9 =>
    some (r9, M6)
set_option maxHeartbeats 4000000 in
set_option maxRecDepth 100000 in
theorem cm_X9_ridesOf {l : Launch} {X : fw_X} {M : fw_M} {a1 : Int32}  {o : Int32 × fw_M} (hF : F_X9_ridesOf M a1 = some o) : ct_i l X yX9_ridesOf cX9_ridesOf 2 (some .int) ({ frames := 2, cells := 0, slots := 0, locals := 43 } : Room) M [.ref (fw_ad X 378), .int a1] (.inl o.1, o.2) := by
  refine fw_open rfl (Nat.le_of_ble_eq_true rfl) (fun p e s m below meth c ls C hr hlk hnm hex hl B => ?_)
  have C : fr_C X p c cX9_ridesOf 2 RX9 s m ([.ref (fw_ad X 378), .int a1] : List Value).toArray := C
  have hx := C.1.1
  have hb := C.1.2.1
  have hl : lv_has ls 2 [(0, .ref (fw_ad X 378)), (1, .int a1)] := hl
  unfold F_X9_ridesOf at hF
  refine lv_aload_n hx hb dX9_ridesOf_0 rfl (lv_at hl 0 rfl) ?_
  refine lv_aload_n hx hb dX9_ridesOf_1 rfl (lv_at hl 0 rfl) ?_
  refine lv_iload_n hx hb dX9_ridesOf_2 rfl (lv_at hl 1 rfl) ?_
  obtain ⟨r2, hf1, hF⟩ := bx_e hF
  refine fr_cVi (As := [.int a1]) (rest := [.ref (fw_ad X 378)]) C B (cm_X9_isPassenger hf1) ob_9 rfl yw_X9_isPassenger wm_X9_133 rfl hl.1 rfl (Nat.le_of_ble_eq_true rfl) ⟨Nat.le_of_ble_eq_true rfl, Nat.le_of_ble_eq_true rfl⟩ ⟨Nat.le_of_ble_eq_true rfl, Nat.le_of_ble_eq_true rfl⟩ dX9_ridesOf_3 (fr_nx rfl) (fun r9 M9 H locs ho9 B => ?_)
  obtain ⟨rfl, rfl⟩ := oi_e ho9
  obtain ⟨r5, M6, hf4, hF⟩ := bp_e hF
  refine fr_cVi (As := [.int r2]) (rest := []) C B (cm_X9_isThere hf4) ob_9 rfl yw_X9_isThere wm_X9_91 rfl hl.1 rfl (Nat.le_of_ble_eq_true rfl) ⟨Nat.le_of_ble_eq_true rfl, Nat.le_of_ble_eq_true rfl⟩ ⟨Nat.le_of_ble_eq_true rfl, Nat.le_of_ble_eq_true rfl⟩ dX9_ridesOf_6 (fr_nx rfl) (fun r9 M9 H locs ho9 B => ?_)
  obtain ⟨rfl, rfl⟩ := oi_e ho9
  refine lv_if_eq (tgt := 21) hx hb dX9_ridesOf_9 (by decide) (fun c7 => ?_) (fun c7 => ?_)
  · have hF := it_t hF c7
    refine lv_iconst (v := 0) hx hb dX9_ridesOf_21 (by decide) ?_
    exact fr_iret C B hr rfl hlk (by rw [← Option.some.inj hF]) (Nat.le_of_ble_eq_true rfl) (Nat.le_of_ble_eq_true rfl) dX9_ridesOf_22
  · have hF := it_f hF c7
    refine lv_aload_n hx hb dX9_ridesOf_12 rfl (lv_at hl 0 rfl) ?_
    refine lv_iload_n hx hb dX9_ridesOf_13 rfl (lv_at hl 1 rfl) ?_
    refine lv_iconst (v := 3) hx hb dX9_ridesOf_14 (by decide) ?_
    obtain ⟨r9, hf8, hF⟩ := bx_e hF
    refine fr_cVi (As := [.int a1, .int 3]) (rest := []) C B (cm_X9_ofPassenger hf8) ob_9 rfl yw_X9_ofPassenger wm_X9_117 rfl hl.1 rfl (Nat.le_of_ble_eq_true rfl) ⟨Nat.le_of_ble_eq_true rfl, Nat.le_of_ble_eq_true rfl⟩ ⟨Nat.le_of_ble_eq_true rfl, Nat.le_of_ble_eq_true rfl⟩ dX9_ridesOf_15 (fr_nx rfl) (fun r9 M9 H locs ho9 B => ?_)
    obtain ⟨rfl, rfl⟩ := oi_e ho9
    refine lv_goto (tgt := 22) hx hb dX9_ridesOf_18 (by decide) ?_
    exact fr_iret C B hr rfl hlk (by rw [← Option.some.inj hF]) (Nat.le_of_ble_eq_true rfl) (Nat.le_of_ble_eq_true rfl) dX9_ridesOf_22
def F_X9_isValidIn_30 (a1 : Int32) (a2 : Int32)  (M : fw_M) : Option (Int32 × fw_M) :=
  if ¬ (M 378 6) = 0 then
    some (0, M)
  else
    bd_x (F_X9_ofPassenger M a1 2) fun r3 =>
    if ¬ ((r3 >>> (a2 &&& 31)) &&& 1) = 1 then
      some (0, M)
    else
      some (1, M)
def F_X9_isValidIn (M : fw_M) (a1 : Int32) (a2 : Int32) : Option (Int32 × fw_M) :=
  bd_x (F_X9_isPassenger M a1) fun r7 =>
  if ¬ r7 = 0 then
    bd_x (F_X9_in M a2 0 3) fun r11 =>
    if ¬ r11 = 0 then
      lt_x (fw_up M 378 6 0) fun M14 =>
      F_X9_isValidIn_30 a1 a2 M14
    else
      lt_x (fw_up M 378 6 2) fun M15 =>
      F_X9_isValidIn_30 a1 a2 M15
  else
    lt_x (fw_up M 378 6 1) fun M16 =>
    F_X9_isValidIn_30 a1 a2 M16
set_option maxHeartbeats 4000000 in
set_option maxRecDepth 100000 in
theorem cm_X9_isValidIn {l : Launch} {X : fw_X} {M : fw_M} {a1 : Int32} {a2 : Int32}  {o : Int32 × fw_M} (hF : F_X9_isValidIn M a1 a2 = some o) : ct_i l X yX9_isValidIn cX9_isValidIn 3 (some .boolean) ({ frames := 2, cells := 0, slots := 0, locals := 43 } : Room) M [.ref (fw_ad X 378), .int a1, .int a2] (.inl o.1, o.2) := by
  refine fw_open rfl (Nat.le_of_ble_eq_true rfl) (fun p e s m below meth c ls C hr hlk hnm hex hl B => ?_)
  have C : fr_C X p c cX9_isValidIn 3 RX9 s m ([.ref (fw_ad X 378), .int a1, .int a2] : List Value).toArray := C
  have hx := C.1.1
  have hb := C.1.2.1
  have hl : lv_has ls 3 [(0, .ref (fw_ad X 378)), (1, .int a1), (2, .int a2)] := hl
  have hJ30 : ∀ (M : fw_M) (H : Heap) (locs : List Loc) (ls : Array Slot), F_X9_isValidIn_30 a1 a2 M = some o → fr_H X s M H locs → lv_has ls 3 [(0, .ref (fw_ad X 378)), (1, .int a1), (2, .int a2)] → W p l e ({ frames := 2, cells := 0, slots := 0, locals := 43 } : Room) s m ([.ref (fw_ad X 378), .int a1, .int a2] : List Value).toArray below meth c H locs 0 0 (vx_MQ below (fw_Qi X (.inl o.1, o.2)) (fw_Qx X (.inl o.1, o.2)) ([.ref (fw_ad X 378), .int a1, .int a2] : List Value).toArray s 0 0 (fw_A X)) (F0 m 30 ls []) := by
    intro M H locs ls hF B hl
    unfold F_X9_isValidIn_30 at hF
    refine lv_aload_n hx hb dX9_isValidIn_30 rfl (lv_at hl 0 rfl) ?_
    refine gf_X9_39 C B dX9_isValidIn_31 ?_
    refine lv_if_ne (tgt := 55) hx hb dX9_isValidIn_34 (by decide) (fun c1 => ?_) (fun c1 => ?_)
    · have hF := it_t hF c1
      refine lv_iconst (v := 0) hx hb dX9_isValidIn_55 (by decide) ?_
      exact fr_iret C B hr rfl hlk (by rw [← Option.some.inj hF]) (Nat.le_of_ble_eq_true rfl) (Nat.le_of_ble_eq_true rfl) dX9_isValidIn_56
    · have hF := it_f hF (not_not_intro c1)
      refine lv_aload_n hx hb dX9_isValidIn_37 rfl (lv_at hl 0 rfl) ?_
      refine lv_iload_n hx hb dX9_isValidIn_38 rfl (lv_at hl 1 rfl) ?_
      refine lv_iconst (v := 2) hx hb dX9_isValidIn_39 (by decide) ?_
      obtain ⟨r3, hf2, hF⟩ := bx_e hF
      refine fr_cVi (As := [.int a1, .int 2]) (rest := []) C B (cm_X9_ofPassenger hf2) ob_9 rfl yw_X9_ofPassenger wm_X9_117 rfl hl.1 rfl (Nat.le_of_ble_eq_true rfl) ⟨Nat.le_of_ble_eq_true rfl, Nat.le_of_ble_eq_true rfl⟩ ⟨Nat.le_of_ble_eq_true rfl, Nat.le_of_ble_eq_true rfl⟩ dX9_isValidIn_40 (fr_nx rfl) (fun r9 M9 H locs ho9 B => ?_)
      obtain ⟨rfl, rfl⟩ := oi_e ho9
      refine lv_iload_n hx hb dX9_isValidIn_43 rfl (lv_at hl 2 rfl) ?_
      refine lv_ishr hx hb dX9_isValidIn_44 ?_
      refine lv_iconst (v := 1) hx hb dX9_isValidIn_45 (by decide) ?_
      refine lv_iand hx hb dX9_isValidIn_46 ?_
      refine lv_iconst (v := 1) hx hb dX9_isValidIn_47 (by decide) ?_
      refine lv_icmp_ne (tgt := 55) hx hb dX9_isValidIn_48 (by decide) (fun c5 => ?_) (fun c5 => ?_)
      · have hF := it_t hF c5
        refine lv_iconst (v := 0) hx hb dX9_isValidIn_55 (by decide) ?_
        exact fr_iret C B hr rfl hlk (by rw [← Option.some.inj hF]) (Nat.le_of_ble_eq_true rfl) (Nat.le_of_ble_eq_true rfl) dX9_isValidIn_56
      · have hF := it_f hF (not_not_intro c5)
        refine lv_iconst (v := 1) hx hb dX9_isValidIn_51 (by decide) ?_
        refine lv_goto (tgt := 56) hx hb dX9_isValidIn_52 (by decide) ?_
        exact fr_iret C B hr rfl hlk (by rw [← Option.some.inj hF]) (Nat.le_of_ble_eq_true rfl) (Nat.le_of_ble_eq_true rfl) dX9_isValidIn_56
  unfold F_X9_isValidIn at hF
  refine lv_aload_n hx hb dX9_isValidIn_0 rfl (lv_at hl 0 rfl) ?_
  refine lv_aload_n hx hb dX9_isValidIn_1 rfl (lv_at hl 0 rfl) ?_
  refine lv_iload_n hx hb dX9_isValidIn_2 rfl (lv_at hl 1 rfl) ?_
  obtain ⟨r7, hf6, hF⟩ := bx_e hF
  refine fr_cVi (As := [.int a1]) (rest := [.ref (fw_ad X 378)]) C B (cm_X9_isPassenger hf6) ob_9 rfl yw_X9_isPassenger wm_X9_133 rfl hl.1 rfl (Nat.le_of_ble_eq_true rfl) ⟨Nat.le_of_ble_eq_true rfl, Nat.le_of_ble_eq_true rfl⟩ ⟨Nat.le_of_ble_eq_true rfl, Nat.le_of_ble_eq_true rfl⟩ dX9_isValidIn_3 (fr_nx rfl) (fun r9 M9 H locs ho9 B => ?_)
  obtain ⟨rfl, rfl⟩ := oi_e ho9
  refine lv_if_ne (tgt := 13) hx hb dX9_isValidIn_6 (by decide) (fun c9 => ?_) (fun c9 => ?_)
  · have hF := it_t hF c9
    refine lv_iload_n hx hb dX9_isValidIn_13 rfl (lv_at hl 2 rfl) ?_
    refine lv_iconst (v := 0) hx hb dX9_isValidIn_14 (by decide) ?_
    refine lv_iconst (v := 3) hx hb dX9_isValidIn_15 (by decide) ?_
    obtain ⟨r11, hf10, hF⟩ := bx_e hF
    refine fr_cSi (As := [.int a2, .int 0, .int 3]) (rest := [.ref (fw_ad X 378)]) C B (cm_X9_in hf10) yw_X9_in wm_X9_51 rfl hl.1 rfl (Nat.le_of_ble_eq_true rfl) ⟨Nat.le_of_ble_eq_true rfl, Nat.le_of_ble_eq_true rfl⟩ ⟨Nat.le_of_ble_eq_true rfl, Nat.le_of_ble_eq_true rfl⟩ dX9_isValidIn_16 (fr_nx rfl) (fun r9 M9 H locs ho9 B => ?_)
    obtain ⟨rfl, rfl⟩ := oi_e ho9
    refine lv_if_ne (tgt := 26) hx hb dX9_isValidIn_19 (by decide) (fun c13 => ?_) (fun c13 => ?_)
    · have hF := it_t hF c13
      refine lv_iconst (v := 0) hx hb dX9_isValidIn_26 (by decide) ?_
      refine pf_X9_39 C B dX9_isValidIn_27 (fun H locs B => ?_)
      obtain ⟨M14, eM14, hF⟩ := lt_e hF
      rw [← eM14] at B
      exact hJ30 M14 _ _ _ hF B (lv_sub hl [0, 1, 2] rfl)
    · have hF := it_f hF (not_not_intro c13)
      refine lv_iconst (v := 2) hx hb dX9_isValidIn_22 (by decide) ?_
      refine lv_goto (tgt := 27) hx hb dX9_isValidIn_23 (by decide) ?_
      refine pf_X9_39 C B dX9_isValidIn_27 (fun H locs B => ?_)
      obtain ⟨M15, eM15, hF⟩ := lt_e hF
      rw [← eM15] at B
      exact hJ30 M15 _ _ _ hF B (lv_sub hl [0, 1, 2] rfl)
  · have hF := it_f hF (not_not_intro c9)
    refine lv_iconst (v := 1) hx hb dX9_isValidIn_9 (by decide) ?_
    refine lv_goto (tgt := 27) hx hb dX9_isValidIn_10 (by decide) ?_
    refine pf_X9_39 C B dX9_isValidIn_27 (fun H locs B => ?_)
    obtain ⟨M16, eM16, hF⟩ := lt_e hF
    rw [← eM16] at B
    exact hJ30 M16 _ _ _ hF B (lv_sub hl [0, 1, 2] rfl)
def F_X9_canBoard (M : fw_M) (a1 : Int32) (a2 : Int32) : Option (Int32 × fw_M) :=
  bd_x (F_X9_isPassenger M a1) fun r2 =>
  if r2 = 0 then
    bd_p (F_X9_isThere M 0) fun r6 M7 =>
    if r6 = 0 then
      some (0, M7)
    else
      bd_x (F_X9_hinders M7 a1 a2) fun r10 =>
      if ¬ r10 = 0 then
        some (0, M7)
      else
        some (1, M7)
  else
    bd_x (F_X9_isTram M a2) fun r14 =>
    if r14 = 0 then
      bd_p (F_X9_isThere M 0) fun r18 M19 =>
      if r18 = 0 then
        some (0, M19)
      else
        bd_x (F_X9_hinders M19 a1 a2) fun r22 =>
        if ¬ r22 = 0 then
          some (0, M19)
        else
          some (1, M19)
    else
      bd_p (F_X9_isThere M 1) fun r26 M27 =>
      if r26 = 0 then
        some (0, M27)
      else
        bd_x (F_X9_hinders M27 a1 a2) fun r30 =>
        if ¬ r30 = 0 then
          some (0, M27)
        else
          some (1, M27)
set_option maxHeartbeats 4000000 in
set_option maxRecDepth 100000 in
theorem cm_X9_canBoard {l : Launch} {X : fw_X} {M : fw_M} {a1 : Int32} {a2 : Int32}  {o : Int32 × fw_M} (hF : F_X9_canBoard M a1 a2 = some o) : ct_i l X yX9_canBoard cX9_canBoard 3 (some .boolean) ({ frames := 3, cells := 0, slots := 0, locals := 69 } : Room) M [.ref (fw_ad X 378), .int a1, .int a2] (.inl o.1, o.2) := by
  refine fw_open rfl (Nat.le_of_ble_eq_true rfl) (fun p e s m below meth c ls C hr hlk hnm hex hl B => ?_)
  have C : fr_C X p c cX9_canBoard 3 RX9 s m ([.ref (fw_ad X 378), .int a1, .int a2] : List Value).toArray := C
  have hx := C.1.1
  have hb := C.1.2.1
  have hl : lv_has ls 3 [(0, .ref (fw_ad X 378)), (1, .int a1), (2, .int a2)] := hl
  unfold F_X9_canBoard at hF
  refine lv_aload_n hx hb dX9_canBoard_0 rfl (lv_at hl 0 rfl) ?_
  refine lv_aload_n hx hb dX9_canBoard_1 rfl (lv_at hl 0 rfl) ?_
  refine lv_iload_n hx hb dX9_canBoard_2 rfl (lv_at hl 1 rfl) ?_
  obtain ⟨r2, hf1, hF⟩ := bx_e hF
  refine fr_cVi (As := [.int a1]) (rest := [.ref (fw_ad X 378)]) C B (cm_X9_isPassenger hf1) ob_9 rfl yw_X9_isPassenger wm_X9_133 rfl hl.1 rfl (Nat.le_of_ble_eq_true rfl) ⟨Nat.le_of_ble_eq_true rfl, Nat.le_of_ble_eq_true rfl⟩ ⟨Nat.le_of_ble_eq_true rfl, Nat.le_of_ble_eq_true rfl⟩ dX9_canBoard_3 (fr_nx rfl) (fun r9 M9 H locs ho9 B => ?_)
  obtain ⟨rfl, rfl⟩ := oi_e ho9
  refine lv_if_eq (tgt := 21) hx hb dX9_canBoard_6 (by decide) (fun c4 => ?_) (fun c4 => ?_)
  · have hF := it_t hF c4
    refine lv_iconst (v := 0) hx hb dX9_canBoard_21 (by decide) ?_
    obtain ⟨r6, M7, hf5, hF⟩ := bp_e hF
    refine fr_cVi (As := [.int 0]) (rest := []) C B (cm_X9_isThere hf5) ob_9 rfl yw_X9_isThere wm_X9_91 rfl hl.1 rfl (Nat.le_of_ble_eq_true rfl) ⟨Nat.le_of_ble_eq_true rfl, Nat.le_of_ble_eq_true rfl⟩ ⟨Nat.le_of_ble_eq_true rfl, Nat.le_of_ble_eq_true rfl⟩ dX9_canBoard_22 (fr_nx rfl) (fun r9 M9 H locs ho9 B => ?_)
    obtain ⟨rfl, rfl⟩ := oi_e ho9
    refine lv_if_eq (tgt := 41) hx hb dX9_canBoard_25 (by decide) (fun c8 => ?_) (fun c8 => ?_)
    · have hF := it_t hF c8
      refine lv_iconst (v := 0) hx hb dX9_canBoard_41 (by decide) ?_
      exact fr_iret C B hr rfl hlk (by rw [← Option.some.inj hF]) (Nat.le_of_ble_eq_true rfl) (Nat.le_of_ble_eq_true rfl) dX9_canBoard_42
    · have hF := it_f hF c8
      refine lv_aload_n hx hb dX9_canBoard_28 rfl (lv_at hl 0 rfl) ?_
      refine lv_iload_n hx hb dX9_canBoard_29 rfl (lv_at hl 1 rfl) ?_
      refine lv_iload_n hx hb dX9_canBoard_30 rfl (lv_at hl 2 rfl) ?_
      obtain ⟨r10, hf9, hF⟩ := bx_e hF
      refine fr_cVi (As := [.int a1, .int a2]) (rest := []) C B (cm_X9_hinders hf9) ob_9 rfl yw_X9_hinders wm_X9_144 rfl hl.1 rfl (Nat.le_of_ble_eq_true rfl) ⟨Nat.le_of_ble_eq_true rfl, Nat.le_of_ble_eq_true rfl⟩ ⟨Nat.le_of_ble_eq_true rfl, Nat.le_of_ble_eq_true rfl⟩ dX9_canBoard_31 (fr_nx rfl) (fun r9 M9 H locs ho9 B => ?_)
      obtain ⟨rfl, rfl⟩ := oi_e ho9
      refine lv_if_ne (tgt := 41) hx hb dX9_canBoard_34 (by decide) (fun c12 => ?_) (fun c12 => ?_)
      · have hF := it_t hF c12
        refine lv_iconst (v := 0) hx hb dX9_canBoard_41 (by decide) ?_
        exact fr_iret C B hr rfl hlk (by rw [← Option.some.inj hF]) (Nat.le_of_ble_eq_true rfl) (Nat.le_of_ble_eq_true rfl) dX9_canBoard_42
      · have hF := it_f hF (not_not_intro c12)
        refine lv_iconst (v := 1) hx hb dX9_canBoard_37 (by decide) ?_
        refine lv_goto (tgt := 42) hx hb dX9_canBoard_38 (by decide) ?_
        exact fr_iret C B hr rfl hlk (by rw [← Option.some.inj hF]) (Nat.le_of_ble_eq_true rfl) (Nat.le_of_ble_eq_true rfl) dX9_canBoard_42
  · have hF := it_f hF c4
    refine lv_aload_n hx hb dX9_canBoard_9 rfl (lv_at hl 0 rfl) ?_
    refine lv_iload_n hx hb dX9_canBoard_10 rfl (lv_at hl 2 rfl) ?_
    obtain ⟨r14, hf13, hF⟩ := bx_e hF
    refine fr_cVi (As := [.int a2]) (rest := [.ref (fw_ad X 378)]) C B (cm_X9_isTram hf13) ob_9 rfl yw_X9_isTram wm_X9_108 rfl hl.1 rfl (Nat.le_of_ble_eq_true rfl) ⟨Nat.le_of_ble_eq_true rfl, Nat.le_of_ble_eq_true rfl⟩ ⟨Nat.le_of_ble_eq_true rfl, Nat.le_of_ble_eq_true rfl⟩ dX9_canBoard_11 (fr_nx rfl) (fun r9 M9 H locs ho9 B => ?_)
    obtain ⟨rfl, rfl⟩ := oi_e ho9
    refine lv_if_eq (tgt := 21) hx hb dX9_canBoard_14 (by decide) (fun c16 => ?_) (fun c16 => ?_)
    · have hF := it_t hF c16
      refine lv_iconst (v := 0) hx hb dX9_canBoard_21 (by decide) ?_
      obtain ⟨r18, M19, hf17, hF⟩ := bp_e hF
      refine fr_cVi (As := [.int 0]) (rest := []) C B (cm_X9_isThere hf17) ob_9 rfl yw_X9_isThere wm_X9_91 rfl hl.1 rfl (Nat.le_of_ble_eq_true rfl) ⟨Nat.le_of_ble_eq_true rfl, Nat.le_of_ble_eq_true rfl⟩ ⟨Nat.le_of_ble_eq_true rfl, Nat.le_of_ble_eq_true rfl⟩ dX9_canBoard_22 (fr_nx rfl) (fun r9 M9 H locs ho9 B => ?_)
      obtain ⟨rfl, rfl⟩ := oi_e ho9
      refine lv_if_eq (tgt := 41) hx hb dX9_canBoard_25 (by decide) (fun c20 => ?_) (fun c20 => ?_)
      · have hF := it_t hF c20
        refine lv_iconst (v := 0) hx hb dX9_canBoard_41 (by decide) ?_
        exact fr_iret C B hr rfl hlk (by rw [← Option.some.inj hF]) (Nat.le_of_ble_eq_true rfl) (Nat.le_of_ble_eq_true rfl) dX9_canBoard_42
      · have hF := it_f hF c20
        refine lv_aload_n hx hb dX9_canBoard_28 rfl (lv_at hl 0 rfl) ?_
        refine lv_iload_n hx hb dX9_canBoard_29 rfl (lv_at hl 1 rfl) ?_
        refine lv_iload_n hx hb dX9_canBoard_30 rfl (lv_at hl 2 rfl) ?_
        obtain ⟨r22, hf21, hF⟩ := bx_e hF
        refine fr_cVi (As := [.int a1, .int a2]) (rest := []) C B (cm_X9_hinders hf21) ob_9 rfl yw_X9_hinders wm_X9_144 rfl hl.1 rfl (Nat.le_of_ble_eq_true rfl) ⟨Nat.le_of_ble_eq_true rfl, Nat.le_of_ble_eq_true rfl⟩ ⟨Nat.le_of_ble_eq_true rfl, Nat.le_of_ble_eq_true rfl⟩ dX9_canBoard_31 (fr_nx rfl) (fun r9 M9 H locs ho9 B => ?_)
        obtain ⟨rfl, rfl⟩ := oi_e ho9
        refine lv_if_ne (tgt := 41) hx hb dX9_canBoard_34 (by decide) (fun c24 => ?_) (fun c24 => ?_)
        · have hF := it_t hF c24
          refine lv_iconst (v := 0) hx hb dX9_canBoard_41 (by decide) ?_
          exact fr_iret C B hr rfl hlk (by rw [← Option.some.inj hF]) (Nat.le_of_ble_eq_true rfl) (Nat.le_of_ble_eq_true rfl) dX9_canBoard_42
        · have hF := it_f hF (not_not_intro c24)
          refine lv_iconst (v := 1) hx hb dX9_canBoard_37 (by decide) ?_
          refine lv_goto (tgt := 42) hx hb dX9_canBoard_38 (by decide) ?_
          exact fr_iret C B hr rfl hlk (by rw [← Option.some.inj hF]) (Nat.le_of_ble_eq_true rfl) (Nat.le_of_ble_eq_true rfl) dX9_canBoard_42
    · have hF := it_f hF c16
      refine lv_iconst (v := 1) hx hb dX9_canBoard_17 (by decide) ?_
      refine lv_goto (tgt := 22) hx hb dX9_canBoard_18 (by decide) ?_
      obtain ⟨r26, M27, hf25, hF⟩ := bp_e hF
      refine fr_cVi (As := [.int 1]) (rest := []) C B (cm_X9_isThere hf25) ob_9 rfl yw_X9_isThere wm_X9_91 rfl hl.1 rfl (Nat.le_of_ble_eq_true rfl) ⟨Nat.le_of_ble_eq_true rfl, Nat.le_of_ble_eq_true rfl⟩ ⟨Nat.le_of_ble_eq_true rfl, Nat.le_of_ble_eq_true rfl⟩ dX9_canBoard_22 (fr_nx rfl) (fun r9 M9 H locs ho9 B => ?_)
      obtain ⟨rfl, rfl⟩ := oi_e ho9
      refine lv_if_eq (tgt := 41) hx hb dX9_canBoard_25 (by decide) (fun c28 => ?_) (fun c28 => ?_)
      · have hF := it_t hF c28
        refine lv_iconst (v := 0) hx hb dX9_canBoard_41 (by decide) ?_
        exact fr_iret C B hr rfl hlk (by rw [← Option.some.inj hF]) (Nat.le_of_ble_eq_true rfl) (Nat.le_of_ble_eq_true rfl) dX9_canBoard_42
      · have hF := it_f hF c28
        refine lv_aload_n hx hb dX9_canBoard_28 rfl (lv_at hl 0 rfl) ?_
        refine lv_iload_n hx hb dX9_canBoard_29 rfl (lv_at hl 1 rfl) ?_
        refine lv_iload_n hx hb dX9_canBoard_30 rfl (lv_at hl 2 rfl) ?_
        obtain ⟨r30, hf29, hF⟩ := bx_e hF
        refine fr_cVi (As := [.int a1, .int a2]) (rest := []) C B (cm_X9_hinders hf29) ob_9 rfl yw_X9_hinders wm_X9_144 rfl hl.1 rfl (Nat.le_of_ble_eq_true rfl) ⟨Nat.le_of_ble_eq_true rfl, Nat.le_of_ble_eq_true rfl⟩ ⟨Nat.le_of_ble_eq_true rfl, Nat.le_of_ble_eq_true rfl⟩ dX9_canBoard_31 (fr_nx rfl) (fun r9 M9 H locs ho9 B => ?_)
        obtain ⟨rfl, rfl⟩ := oi_e ho9
        refine lv_if_ne (tgt := 41) hx hb dX9_canBoard_34 (by decide) (fun c32 => ?_) (fun c32 => ?_)
        · have hF := it_t hF c32
          refine lv_iconst (v := 0) hx hb dX9_canBoard_41 (by decide) ?_
          exact fr_iret C B hr rfl hlk (by rw [← Option.some.inj hF]) (Nat.le_of_ble_eq_true rfl) (Nat.le_of_ble_eq_true rfl) dX9_canBoard_42
        · have hF := it_f hF (not_not_intro c32)
          refine lv_iconst (v := 1) hx hb dX9_canBoard_37 (by decide) ?_
          refine lv_goto (tgt := 42) hx hb dX9_canBoard_38 (by decide) ?_
          exact fr_iret C B hr rfl hlk (by rw [← Option.some.inj hF]) (Nat.le_of_ble_eq_true rfl) (Nat.le_of_ble_eq_true rfl) dX9_canBoard_42
def F_X9_isTransfer (M : fw_M) (a1 : Int32) (a2 : Int32) : Option (Int32 × fw_M) :=
  bd_x (F_X9_isPassenger M a1) fun r2 =>
  if r2 = 0 then
    bd_p (F_X9_isThere M 0) fun r6 M7 =>
    if r6 = 0 then
      some (0, M7)
    else
      bd_x (F_X9_isFree M7 a1 a2) fun r10 =>
      if r10 = 0 then
        some (0, M7)
      else
        some (1, M7)
  else
    bd_x (F_X9_isLine M a2) fun r14 =>
    if r14 = 0 then
      bd_p (F_X9_isThere M 0) fun r18 M19 =>
      if r18 = 0 then
        some (0, M19)
      else
        bd_x (F_X9_isFree M19 a1 a2) fun r22 =>
        if r22 = 0 then
          some (0, M19)
        else
          some (1, M19)
    else
      bd_p (F_X9_isThere M 1) fun r26 M27 =>
      if r26 = 0 then
        some (0, M27)
      else
        bd_x (F_X9_isFree M27 a1 a2) fun r30 =>
        if r30 = 0 then
          some (0, M27)
        else
          some (1, M27)
set_option maxHeartbeats 4000000 in
set_option maxRecDepth 100000 in
theorem cm_X9_isTransfer {l : Launch} {X : fw_X} {M : fw_M} {a1 : Int32} {a2 : Int32}  {o : Int32 × fw_M} (hF : F_X9_isTransfer M a1 a2 = some o) : ct_i l X yX9_isTransfer cX9_isTransfer 3 (some .boolean) ({ frames := 2, cells := 0, slots := 0, locals := 45 } : Room) M [.ref (fw_ad X 378), .int a1, .int a2] (.inl o.1, o.2) := by
  refine fw_open rfl (Nat.le_of_ble_eq_true rfl) (fun p e s m below meth c ls C hr hlk hnm hex hl B => ?_)
  have C : fr_C X p c cX9_isTransfer 3 RX9 s m ([.ref (fw_ad X 378), .int a1, .int a2] : List Value).toArray := C
  have hx := C.1.1
  have hb := C.1.2.1
  have hl : lv_has ls 3 [(0, .ref (fw_ad X 378)), (1, .int a1), (2, .int a2)] := hl
  unfold F_X9_isTransfer at hF
  refine lv_aload_n hx hb dX9_isTransfer_0 rfl (lv_at hl 0 rfl) ?_
  refine lv_aload_n hx hb dX9_isTransfer_1 rfl (lv_at hl 0 rfl) ?_
  refine lv_iload_n hx hb dX9_isTransfer_2 rfl (lv_at hl 1 rfl) ?_
  obtain ⟨r2, hf1, hF⟩ := bx_e hF
  refine fr_cVi (As := [.int a1]) (rest := [.ref (fw_ad X 378)]) C B (cm_X9_isPassenger hf1) ob_9 rfl yw_X9_isPassenger wm_X9_133 rfl hl.1 rfl (Nat.le_of_ble_eq_true rfl) ⟨Nat.le_of_ble_eq_true rfl, Nat.le_of_ble_eq_true rfl⟩ ⟨Nat.le_of_ble_eq_true rfl, Nat.le_of_ble_eq_true rfl⟩ dX9_isTransfer_3 (fr_nx rfl) (fun r9 M9 H locs ho9 B => ?_)
  obtain ⟨rfl, rfl⟩ := oi_e ho9
  refine lv_if_eq (tgt := 21) hx hb dX9_isTransfer_6 (by decide) (fun c4 => ?_) (fun c4 => ?_)
  · have hF := it_t hF c4
    refine lv_iconst (v := 0) hx hb dX9_isTransfer_21 (by decide) ?_
    obtain ⟨r6, M7, hf5, hF⟩ := bp_e hF
    refine fr_cVi (As := [.int 0]) (rest := []) C B (cm_X9_isThere hf5) ob_9 rfl yw_X9_isThere wm_X9_91 rfl hl.1 rfl (Nat.le_of_ble_eq_true rfl) ⟨Nat.le_of_ble_eq_true rfl, Nat.le_of_ble_eq_true rfl⟩ ⟨Nat.le_of_ble_eq_true rfl, Nat.le_of_ble_eq_true rfl⟩ dX9_isTransfer_22 (fr_nx rfl) (fun r9 M9 H locs ho9 B => ?_)
    obtain ⟨rfl, rfl⟩ := oi_e ho9
    refine lv_if_eq (tgt := 41) hx hb dX9_isTransfer_25 (by decide) (fun c8 => ?_) (fun c8 => ?_)
    · have hF := it_t hF c8
      refine lv_iconst (v := 0) hx hb dX9_isTransfer_41 (by decide) ?_
      exact fr_iret C B hr rfl hlk (by rw [← Option.some.inj hF]) (Nat.le_of_ble_eq_true rfl) (Nat.le_of_ble_eq_true rfl) dX9_isTransfer_42
    · have hF := it_f hF c8
      refine lv_aload_n hx hb dX9_isTransfer_28 rfl (lv_at hl 0 rfl) ?_
      refine lv_iload_n hx hb dX9_isTransfer_29 rfl (lv_at hl 1 rfl) ?_
      refine lv_iload_n hx hb dX9_isTransfer_30 rfl (lv_at hl 2 rfl) ?_
      obtain ⟨r10, hf9, hF⟩ := bx_e hF
      refine fr_cVi (As := [.int a1, .int a2]) (rest := []) C B (cm_X9_isFree hf9) ob_9 rfl yw_X9_isFree wm_X9_140 rfl hl.1 rfl (Nat.le_of_ble_eq_true rfl) ⟨Nat.le_of_ble_eq_true rfl, Nat.le_of_ble_eq_true rfl⟩ ⟨Nat.le_of_ble_eq_true rfl, Nat.le_of_ble_eq_true rfl⟩ dX9_isTransfer_31 (fr_nx rfl) (fun r9 M9 H locs ho9 B => ?_)
      obtain ⟨rfl, rfl⟩ := oi_e ho9
      refine lv_if_eq (tgt := 41) hx hb dX9_isTransfer_34 (by decide) (fun c12 => ?_) (fun c12 => ?_)
      · have hF := it_t hF c12
        refine lv_iconst (v := 0) hx hb dX9_isTransfer_41 (by decide) ?_
        exact fr_iret C B hr rfl hlk (by rw [← Option.some.inj hF]) (Nat.le_of_ble_eq_true rfl) (Nat.le_of_ble_eq_true rfl) dX9_isTransfer_42
      · have hF := it_f hF c12
        refine lv_iconst (v := 1) hx hb dX9_isTransfer_37 (by decide) ?_
        refine lv_goto (tgt := 42) hx hb dX9_isTransfer_38 (by decide) ?_
        exact fr_iret C B hr rfl hlk (by rw [← Option.some.inj hF]) (Nat.le_of_ble_eq_true rfl) (Nat.le_of_ble_eq_true rfl) dX9_isTransfer_42
  · have hF := it_f hF c4
    refine lv_aload_n hx hb dX9_isTransfer_9 rfl (lv_at hl 0 rfl) ?_
    refine lv_iload_n hx hb dX9_isTransfer_10 rfl (lv_at hl 2 rfl) ?_
    obtain ⟨r14, hf13, hF⟩ := bx_e hF
    refine fr_cVi (As := [.int a2]) (rest := [.ref (fw_ad X 378)]) C B (cm_X9_isLine hf13) ob_9 rfl yw_X9_isLine wm_X9_82 rfl hl.1 rfl (Nat.le_of_ble_eq_true rfl) ⟨Nat.le_of_ble_eq_true rfl, Nat.le_of_ble_eq_true rfl⟩ ⟨Nat.le_of_ble_eq_true rfl, Nat.le_of_ble_eq_true rfl⟩ dX9_isTransfer_11 (fr_nx rfl) (fun r9 M9 H locs ho9 B => ?_)
    obtain ⟨rfl, rfl⟩ := oi_e ho9
    refine lv_if_eq (tgt := 21) hx hb dX9_isTransfer_14 (by decide) (fun c16 => ?_) (fun c16 => ?_)
    · have hF := it_t hF c16
      refine lv_iconst (v := 0) hx hb dX9_isTransfer_21 (by decide) ?_
      obtain ⟨r18, M19, hf17, hF⟩ := bp_e hF
      refine fr_cVi (As := [.int 0]) (rest := []) C B (cm_X9_isThere hf17) ob_9 rfl yw_X9_isThere wm_X9_91 rfl hl.1 rfl (Nat.le_of_ble_eq_true rfl) ⟨Nat.le_of_ble_eq_true rfl, Nat.le_of_ble_eq_true rfl⟩ ⟨Nat.le_of_ble_eq_true rfl, Nat.le_of_ble_eq_true rfl⟩ dX9_isTransfer_22 (fr_nx rfl) (fun r9 M9 H locs ho9 B => ?_)
      obtain ⟨rfl, rfl⟩ := oi_e ho9
      refine lv_if_eq (tgt := 41) hx hb dX9_isTransfer_25 (by decide) (fun c20 => ?_) (fun c20 => ?_)
      · have hF := it_t hF c20
        refine lv_iconst (v := 0) hx hb dX9_isTransfer_41 (by decide) ?_
        exact fr_iret C B hr rfl hlk (by rw [← Option.some.inj hF]) (Nat.le_of_ble_eq_true rfl) (Nat.le_of_ble_eq_true rfl) dX9_isTransfer_42
      · have hF := it_f hF c20
        refine lv_aload_n hx hb dX9_isTransfer_28 rfl (lv_at hl 0 rfl) ?_
        refine lv_iload_n hx hb dX9_isTransfer_29 rfl (lv_at hl 1 rfl) ?_
        refine lv_iload_n hx hb dX9_isTransfer_30 rfl (lv_at hl 2 rfl) ?_
        obtain ⟨r22, hf21, hF⟩ := bx_e hF
        refine fr_cVi (As := [.int a1, .int a2]) (rest := []) C B (cm_X9_isFree hf21) ob_9 rfl yw_X9_isFree wm_X9_140 rfl hl.1 rfl (Nat.le_of_ble_eq_true rfl) ⟨Nat.le_of_ble_eq_true rfl, Nat.le_of_ble_eq_true rfl⟩ ⟨Nat.le_of_ble_eq_true rfl, Nat.le_of_ble_eq_true rfl⟩ dX9_isTransfer_31 (fr_nx rfl) (fun r9 M9 H locs ho9 B => ?_)
        obtain ⟨rfl, rfl⟩ := oi_e ho9
        refine lv_if_eq (tgt := 41) hx hb dX9_isTransfer_34 (by decide) (fun c24 => ?_) (fun c24 => ?_)
        · have hF := it_t hF c24
          refine lv_iconst (v := 0) hx hb dX9_isTransfer_41 (by decide) ?_
          exact fr_iret C B hr rfl hlk (by rw [← Option.some.inj hF]) (Nat.le_of_ble_eq_true rfl) (Nat.le_of_ble_eq_true rfl) dX9_isTransfer_42
        · have hF := it_f hF c24
          refine lv_iconst (v := 1) hx hb dX9_isTransfer_37 (by decide) ?_
          refine lv_goto (tgt := 42) hx hb dX9_isTransfer_38 (by decide) ?_
          exact fr_iret C B hr rfl hlk (by rw [← Option.some.inj hF]) (Nat.le_of_ble_eq_true rfl) (Nat.le_of_ble_eq_true rfl) dX9_isTransfer_42
    · have hF := it_f hF c16
      refine lv_iconst (v := 1) hx hb dX9_isTransfer_17 (by decide) ?_
      refine lv_goto (tgt := 22) hx hb dX9_isTransfer_18 (by decide) ?_
      obtain ⟨r26, M27, hf25, hF⟩ := bp_e hF
      refine fr_cVi (As := [.int 1]) (rest := []) C B (cm_X9_isThere hf25) ob_9 rfl yw_X9_isThere wm_X9_91 rfl hl.1 rfl (Nat.le_of_ble_eq_true rfl) ⟨Nat.le_of_ble_eq_true rfl, Nat.le_of_ble_eq_true rfl⟩ ⟨Nat.le_of_ble_eq_true rfl, Nat.le_of_ble_eq_true rfl⟩ dX9_isTransfer_22 (fr_nx rfl) (fun r9 M9 H locs ho9 B => ?_)
      obtain ⟨rfl, rfl⟩ := oi_e ho9
      refine lv_if_eq (tgt := 41) hx hb dX9_isTransfer_25 (by decide) (fun c28 => ?_) (fun c28 => ?_)
      · have hF := it_t hF c28
        refine lv_iconst (v := 0) hx hb dX9_isTransfer_41 (by decide) ?_
        exact fr_iret C B hr rfl hlk (by rw [← Option.some.inj hF]) (Nat.le_of_ble_eq_true rfl) (Nat.le_of_ble_eq_true rfl) dX9_isTransfer_42
      · have hF := it_f hF c28
        refine lv_aload_n hx hb dX9_isTransfer_28 rfl (lv_at hl 0 rfl) ?_
        refine lv_iload_n hx hb dX9_isTransfer_29 rfl (lv_at hl 1 rfl) ?_
        refine lv_iload_n hx hb dX9_isTransfer_30 rfl (lv_at hl 2 rfl) ?_
        obtain ⟨r30, hf29, hF⟩ := bx_e hF
        refine fr_cVi (As := [.int a1, .int a2]) (rest := []) C B (cm_X9_isFree hf29) ob_9 rfl yw_X9_isFree wm_X9_140 rfl hl.1 rfl (Nat.le_of_ble_eq_true rfl) ⟨Nat.le_of_ble_eq_true rfl, Nat.le_of_ble_eq_true rfl⟩ ⟨Nat.le_of_ble_eq_true rfl, Nat.le_of_ble_eq_true rfl⟩ dX9_isTransfer_31 (fr_nx rfl) (fun r9 M9 H locs ho9 B => ?_)
        obtain ⟨rfl, rfl⟩ := oi_e ho9
        refine lv_if_eq (tgt := 41) hx hb dX9_isTransfer_34 (by decide) (fun c32 => ?_) (fun c32 => ?_)
        · have hF := it_t hF c32
          refine lv_iconst (v := 0) hx hb dX9_isTransfer_41 (by decide) ?_
          exact fr_iret C B hr rfl hlk (by rw [← Option.some.inj hF]) (Nat.le_of_ble_eq_true rfl) (Nat.le_of_ble_eq_true rfl) dX9_isTransfer_42
        · have hF := it_f hF c32
          refine lv_iconst (v := 1) hx hb dX9_isTransfer_37 (by decide) ?_
          refine lv_goto (tgt := 42) hx hb dX9_isTransfer_38 (by decide) ?_
          exact fr_iret C B hr rfl hlk (by rw [← Option.some.inj hF]) (Nat.le_of_ble_eq_true rfl) (Nat.le_of_ble_eq_true rfl) dX9_isTransfer_42
def F_X9_carrier (M : fw_M) (a1 : Int32) : Option (Int32) :=
  if ix_i (117 + (2 * a1)) 129 then
  some (fw_ri M 379 (117 + (2 * a1)))
  else none
set_option maxHeartbeats 4000000 in
set_option maxRecDepth 100000 in
theorem cm_X9_carrier {l : Launch} {X : fw_X} {M : fw_M} {a1 : Int32}  {o : Int32} (hF : F_X9_carrier M a1 = some o) : ct_i l X yX9_carrier cX9_carrier 2 (some .int) ({ frames := 0, cells := 0, slots := 0, locals := 0 } : Room) M [.ref (fw_ad X 378), .int a1] (.inl o, M) := by
  refine fw_open rfl (Nat.le_of_ble_eq_true rfl) (fun p e s m below meth c ls C hr hlk hnm hex hl B => ?_)
  have C : fr_C X p c cX9_carrier 2 RX9 s m ([.ref (fw_ad X 378), .int a1] : List Value).toArray := C
  have hx := C.1.1
  have hb := C.1.2.1
  have hl : lv_has ls 2 [(0, .ref (fw_ad X 378)), (1, .int a1)] := hl
  unfold F_X9_carrier at hF
  refine lv_aload_n hx hb dX9_carrier_0 rfl (lv_at hl 0 rfl) ?_
  refine gf_X9_9 C B dX9_carrier_1 ?_
  refine lv_bipush (v := 117) hx hb dX9_carrier_4 (by decide) ?_
  refine lv_iconst (v := 2) hx hb dX9_carrier_6 (by decide) ?_
  refine lv_iload_n hx hb dX9_carrier_7 rfl (lv_at hl 1 rfl) ?_
  refine lv_imul hx hb dX9_carrier_8 ?_
  refine lv_iadd hx hb dX9_carrier_9 ?_
  obtain ⟨c1, hF⟩ := of_g hF
  refine fr_ia C B ar_9_379 c1 dX9_carrier_10 ?_
  exact fr_iret C B hr rfl hlk (by rw [← Option.some.inj hF]) (Nat.le_of_ble_eq_true rfl) (Nat.le_of_ble_eq_true rfl) dX9_carrier_11
def F_X9_knowers (M : fw_M) (a1 : Int32) : Option (Int32) :=
  if ix_i ((117 + (2 * a1)) + 1) 129 then
  some (fw_ri M 379 ((117 + (2 * a1)) + 1))
  else none
set_option maxHeartbeats 4000000 in
set_option maxRecDepth 100000 in
theorem cm_X9_knowers {l : Launch} {X : fw_X} {M : fw_M} {a1 : Int32}  {o : Int32} (hF : F_X9_knowers M a1 = some o) : ct_i l X yX9_knowers cX9_knowers 2 (some .int) ({ frames := 0, cells := 0, slots := 0, locals := 0 } : Room) M [.ref (fw_ad X 378), .int a1] (.inl o, M) := by
  refine fw_open rfl (Nat.le_of_ble_eq_true rfl) (fun p e s m below meth c ls C hr hlk hnm hex hl B => ?_)
  have C : fr_C X p c cX9_knowers 2 RX9 s m ([.ref (fw_ad X 378), .int a1] : List Value).toArray := C
  have hx := C.1.1
  have hb := C.1.2.1
  have hl : lv_has ls 2 [(0, .ref (fw_ad X 378)), (1, .int a1)] := hl
  unfold F_X9_knowers at hF
  refine lv_aload_n hx hb dX9_knowers_0 rfl (lv_at hl 0 rfl) ?_
  refine gf_X9_9 C B dX9_knowers_1 ?_
  refine lv_bipush (v := 117) hx hb dX9_knowers_4 (by decide) ?_
  refine lv_iconst (v := 2) hx hb dX9_knowers_6 (by decide) ?_
  refine lv_iload_n hx hb dX9_knowers_7 rfl (lv_at hl 1 rfl) ?_
  refine lv_imul hx hb dX9_knowers_8 ?_
  refine lv_iadd hx hb dX9_knowers_9 ?_
  refine lv_iconst (v := 1) hx hb dX9_knowers_10 (by decide) ?_
  refine lv_iadd hx hb dX9_knowers_11 ?_
  obtain ⟨c1, hF⟩ := of_g hF
  refine fr_ia C B ar_9_379 c1 dX9_knowers_12 ?_
  exact fr_iret C B hr rfl hlk (by rw [← Option.some.inj hF]) (Nat.le_of_ble_eq_true rfl) (Nat.le_of_ble_eq_true rfl) dX9_knowers_13
def F_X9_doAddSecret (M : fw_M) (a1 : Int32) : Option (Int32 × fw_M) :=
  if ix_i 4 129 then
  bd_x (F_X9_isPassenger M a1) fun r3 =>
  if ¬ r3 = 0 then
    if ¬ (fw_ri M 379 4) = 6 then
      if ix_i (117 + (2 * (fw_ri M 379 4))) 129 then
      lt_x (fw_wi M 379 (117 + (2 * (fw_ri M 379 4))) a1) fun M8 =>
      if ix_i ((117 + (2 * (fw_ri M 379 4))) + 1) 129 then
      lt_x (fw_wi M8 379 ((117 + (2 * (fw_ri M 379 4))) + 1) (1 <<< (a1 &&& 31))) fun M10 =>
      lt_x (fw_wi M10 379 4 ((fw_ri M10 379 4) + 1)) fun M11 =>
      some ((fw_ri M 379 4), M11)
      else none
      else none
    else
      bd_p (F_X9_fails M 2) fun r13 M14 =>
      some (r13, M14)
  else
    bd_p (F_X9_fails M 1) fun r16 M17 =>
    some (r16, M17)
  else none
set_option maxHeartbeats 4000000 in
set_option maxRecDepth 100000 in
theorem cm_X9_doAddSecret {l : Launch} {X : fw_X} {M : fw_M} {a1 : Int32}  {o : Int32 × fw_M} (hF : F_X9_doAddSecret M a1 = some o) : ct_i l X yX9_doAddSecret cX9_doAddSecret 3 (some .int) ({ frames := 2, cells := 0, slots := 0, locals := 43 } : Room) M [.ref (fw_ad X 378), .int a1] (.inl o.1, o.2) := by
  refine fw_open rfl (Nat.le_of_ble_eq_true rfl) (fun p e s m below meth c ls C hr hlk hnm hex hl B => ?_)
  have C : fr_C X p c cX9_doAddSecret 3 RX9 s m ([.ref (fw_ad X 378), .int a1] : List Value).toArray := C
  have hx := C.1.1
  have hb := C.1.2.1
  have hl : lv_has ls 3 [(0, .ref (fw_ad X 378)), (1, .int a1)] := hl
  unfold F_X9_doAddSecret at hF
  refine lv_aload_n hx hb dX9_doAddSecret_0 rfl (lv_at hl 0 rfl) ?_
  refine gf_X9_9 C B dX9_doAddSecret_1 ?_
  refine lv_iconst (v := 4) hx hb dX9_doAddSecret_4 (by decide) ?_
  obtain ⟨c1, hF⟩ := of_g hF
  refine fr_ia C B ar_9_379 c1 dX9_doAddSecret_5 ?_
  refine lv_istore_n (lv' := [(2, .int (fw_ri M 379 4)), (0, .ref (fw_ad X 378)), (1, .int a1)]) hx hb dX9_doAddSecret_6 rfl hl (by decide) rfl (fun ls hl => ?_)
  refine lv_aload_n hx hb dX9_doAddSecret_7 rfl (lv_at hl 1 rfl) ?_
  refine lv_iload_n hx hb dX9_doAddSecret_8 rfl (lv_at hl 2 rfl) ?_
  obtain ⟨r3, hf2, hF⟩ := bx_e hF
  refine fr_cVi (As := [.int a1]) (rest := []) C B (cm_X9_isPassenger hf2) ob_9 rfl yw_X9_isPassenger wm_X9_133 rfl hl.1 rfl (Nat.le_of_ble_eq_true rfl) ⟨Nat.le_of_ble_eq_true rfl, Nat.le_of_ble_eq_true rfl⟩ ⟨Nat.le_of_ble_eq_true rfl, Nat.le_of_ble_eq_true rfl⟩ dX9_doAddSecret_9 (fr_nx rfl) (fun r9 M9 H locs ho9 B => ?_)
  obtain ⟨rfl, rfl⟩ := oi_e ho9
  refine lv_if_ne (tgt := 21) hx hb dX9_doAddSecret_12 (by decide) (fun c5 => ?_) (fun c5 => ?_)
  · have hF := it_t hF c5
    refine lv_iload_n hx hb dX9_doAddSecret_21 rfl (lv_at hl 0 rfl) ?_
    refine lv_bipush (v := 6) hx hb dX9_doAddSecret_22 (by decide) ?_
    refine lv_icmp_ne (tgt := 33) hx hb dX9_doAddSecret_24 (by decide) (fun c6 => ?_) (fun c6 => ?_)
    · have hF := it_t hF c6
      refine lv_aload_n hx hb dX9_doAddSecret_33 rfl (lv_at hl 1 rfl) ?_
      refine gf_X9_9 C B dX9_doAddSecret_34 ?_
      refine lv_bipush (v := 117) hx hb dX9_doAddSecret_37 (by decide) ?_
      refine lv_iconst (v := 2) hx hb dX9_doAddSecret_39 (by decide) ?_
      refine lv_iload_n hx hb dX9_doAddSecret_40 rfl (lv_at hl 0 rfl) ?_
      refine lv_imul hx hb dX9_doAddSecret_41 ?_
      refine lv_iadd hx hb dX9_doAddSecret_42 ?_
      refine lv_iload_n hx hb dX9_doAddSecret_43 rfl (lv_at hl 2 rfl) ?_
      obtain ⟨c7, hF⟩ := of_g hF
      refine fr_is C B ar_9_379 c7 dX9_doAddSecret_44 (fun H locs B => ?_)
      obtain ⟨M8, eM8, hF⟩ := lt_e hF
      rw [← eM8] at B
      refine lv_aload_n hx hb dX9_doAddSecret_45 rfl (lv_at hl 1 rfl) ?_
      refine gf_X9_9 C B dX9_doAddSecret_46 ?_
      refine lv_bipush (v := 117) hx hb dX9_doAddSecret_49 (by decide) ?_
      refine lv_iconst (v := 2) hx hb dX9_doAddSecret_51 (by decide) ?_
      refine lv_iload_n hx hb dX9_doAddSecret_52 rfl (lv_at hl 0 rfl) ?_
      refine lv_imul hx hb dX9_doAddSecret_53 ?_
      refine lv_iadd hx hb dX9_doAddSecret_54 ?_
      refine lv_iconst (v := 1) hx hb dX9_doAddSecret_55 (by decide) ?_
      refine lv_iadd hx hb dX9_doAddSecret_56 ?_
      refine lv_iconst (v := 1) hx hb dX9_doAddSecret_57 (by decide) ?_
      refine lv_iload_n hx hb dX9_doAddSecret_58 rfl (lv_at hl 2 rfl) ?_
      refine lv_ishl hx hb dX9_doAddSecret_59 ?_
      obtain ⟨c9, hF⟩ := of_g hF
      refine fr_is C B ar_9_379 c9 dX9_doAddSecret_60 (fun H locs B => ?_)
      obtain ⟨M10, eM10, hF⟩ := lt_e hF
      rw [← eM10] at B
      refine lv_aload_n hx hb dX9_doAddSecret_61 rfl (lv_at hl 1 rfl) ?_
      refine gf_X9_9 C B dX9_doAddSecret_62 ?_
      refine lv_iconst (v := 4) hx hb dX9_doAddSecret_65 (by decide) ?_
      refine lv_dup2_11 hx hb dX9_doAddSecret_66 rfl rfl ?_
      refine fr_ia C B ar_9_379 c1 dX9_doAddSecret_67 ?_
      refine lv_iconst (v := 1) hx hb dX9_doAddSecret_68 (by decide) ?_
      refine lv_iadd hx hb dX9_doAddSecret_69 ?_
      refine fr_is C B ar_9_379 c1 dX9_doAddSecret_70 (fun H locs B => ?_)
      obtain ⟨M11, eM11, hF⟩ := lt_e hF
      rw [← eM11] at B
      refine lv_iload_n hx hb dX9_doAddSecret_71 rfl (lv_at hl 0 rfl) ?_
      exact fr_iret C B hr rfl hlk (by rw [← Option.some.inj hF]) (Nat.le_of_ble_eq_true rfl) (Nat.le_of_ble_eq_true rfl) dX9_doAddSecret_72
    · have hF := it_f hF (not_not_intro c6)
      refine lv_aload_n hx hb dX9_doAddSecret_27 rfl (lv_at hl 1 rfl) ?_
      refine lv_iconst (v := 2) hx hb dX9_doAddSecret_28 (by decide) ?_
      obtain ⟨r13, M14, hf12, hF⟩ := bp_e hF
      refine fr_cVi (As := [.int 2]) (rest := []) C B (cm_X9_fails hf12) ob_9 rfl yw_X9_fails wm_X9_63 rfl hl.1 rfl (Nat.le_of_ble_eq_true rfl) ⟨Nat.le_of_ble_eq_true rfl, Nat.le_of_ble_eq_true rfl⟩ ⟨Nat.le_of_ble_eq_true rfl, Nat.le_of_ble_eq_true rfl⟩ dX9_doAddSecret_29 (fr_nx rfl) (fun r9 M9 H locs ho9 B => ?_)
      obtain ⟨rfl, rfl⟩ := oi_e ho9
      exact fr_iret C B hr rfl hlk (by rw [← Option.some.inj hF]) (Nat.le_of_ble_eq_true rfl) (Nat.le_of_ble_eq_true rfl) dX9_doAddSecret_32
  · have hF := it_f hF (not_not_intro c5)
    refine lv_aload_n hx hb dX9_doAddSecret_15 rfl (lv_at hl 1 rfl) ?_
    refine lv_iconst (v := 1) hx hb dX9_doAddSecret_16 (by decide) ?_
    obtain ⟨r16, M17, hf15, hF⟩ := bp_e hF
    refine fr_cVi (As := [.int 1]) (rest := []) C B (cm_X9_fails hf15) ob_9 rfl yw_X9_fails wm_X9_63 rfl hl.1 rfl (Nat.le_of_ble_eq_true rfl) ⟨Nat.le_of_ble_eq_true rfl, Nat.le_of_ble_eq_true rfl⟩ ⟨Nat.le_of_ble_eq_true rfl, Nat.le_of_ble_eq_true rfl⟩ dX9_doAddSecret_17 (fr_nx rfl) (fun r9 M9 H locs ho9 B => ?_)
    obtain ⟨rfl, rfl⟩ := oi_e ho9
    exact fr_iret C B hr rfl hlk (by rw [← Option.some.inj hF]) (Nat.le_of_ble_eq_true rfl) (Nat.le_of_ble_eq_true rfl) dX9_doAddSecret_20
def F_X9_addSecret (M : fw_M) (a1 : Int32) : Option (Int32 × fw_M) :=
  bd_x (F_X9_keep M) fun M3 =>
  bd_p (F_X9_doAddSecret M3 a1) fun r5 M6 =>
  bd_p (F_X9_ends M6 r5) fun r8 M9 =>
  some (r8, M9)
set_option maxHeartbeats 4000000 in
set_option maxRecDepth 100000 in
theorem cm_X9_addSecret {l : Launch} {X : fw_X} {M : fw_M} {a1 : Int32}  {o : Int32 × fw_M} (hF : F_X9_addSecret M a1 = some o) : ct_i l X yX9_addSecret cX9_addSecret 2 (some .int) ({ frames := 3, cells := 0, slots := 0, locals := 81 } : Room) M [.ref (fw_ad X 378), .int a1] (.inl o.1, o.2) := by
  refine fw_open rfl (Nat.le_of_ble_eq_true rfl) (fun p e s m below meth c ls C hr hlk hnm hex hl B => ?_)
  have C : fr_C X p c cX9_addSecret 2 RX9 s m ([.ref (fw_ad X 378), .int a1] : List Value).toArray := C
  have hx := C.1.1
  have hb := C.1.2.1
  have hl : lv_has ls 2 [(0, .ref (fw_ad X 378)), (1, .int a1)] := hl
  unfold F_X9_addSecret at hF
  refine lv_aload_n hx hb dX9_addSecret_0 rfl (lv_at hl 0 rfl) ?_
  obtain ⟨M3, hf1, hF⟩ := bx_e hF
  refine fr_cVv (As := []) (rest := []) C B (cm_X9_keep hf1) ob_9 rfl yw_X9_keep wm_X9_66 rfl hl.1 rfl (Nat.le_of_ble_eq_true rfl) ⟨Nat.le_of_ble_eq_true rfl, Nat.le_of_ble_eq_true rfl⟩ ⟨Nat.le_of_ble_eq_true rfl, Nat.le_of_ble_eq_true rfl⟩ dX9_addSecret_1 (fr_nx rfl) (fun M9 H locs ho9 B => ?_)
  obtain ⟨-, rfl⟩ := oi_e ho9
  refine lv_aload_n hx hb dX9_addSecret_4 rfl (lv_at hl 0 rfl) ?_
  refine lv_aload_n hx hb dX9_addSecret_5 rfl (lv_at hl 0 rfl) ?_
  refine lv_iload_n hx hb dX9_addSecret_6 rfl (lv_at hl 1 rfl) ?_
  obtain ⟨r5, M6, hf4, hF⟩ := bp_e hF
  refine fr_cVi (As := [.int a1]) (rest := [.ref (fw_ad X 378)]) C B (cm_X9_doAddSecret hf4) ob_9 rfl yw_X9_doAddSecret wm_X9_153 rfl hl.1 rfl (Nat.le_of_ble_eq_true rfl) ⟨Nat.le_of_ble_eq_true rfl, Nat.le_of_ble_eq_true rfl⟩ ⟨Nat.le_of_ble_eq_true rfl, Nat.le_of_ble_eq_true rfl⟩ dX9_addSecret_7 (fr_nx rfl) (fun r9 M9 H locs ho9 B => ?_)
  obtain ⟨rfl, rfl⟩ := oi_e ho9
  obtain ⟨r8, M9, hf7, hF⟩ := bp_e hF
  refine fr_cVi (As := [.int r5]) (rest := []) C B (cm_X9_ends hf7) ob_9 rfl yw_X9_ends wm_X9_72 rfl hl.1 rfl (Nat.le_of_ble_eq_true rfl) ⟨Nat.le_of_ble_eq_true rfl, Nat.le_of_ble_eq_true rfl⟩ ⟨Nat.le_of_ble_eq_true rfl, Nat.le_of_ble_eq_true rfl⟩ dX9_addSecret_10 (fr_nx rfl) (fun r9 M9 H locs ho9 B => ?_)
  obtain ⟨rfl, rfl⟩ := oi_e ho9
  exact fr_iret C B hr rfl hlk (by rw [← Option.some.inj hF]) (Nat.le_of_ble_eq_true rfl) (Nat.le_of_ble_eq_true rfl) dX9_addSecret_13
def F_X9_bits_4 (M : fw_M) (a1 : Int32)  : Nat → Int32 → Int32 → Option (Int32)
  | 0, _, _ => none
  | n + 1, x1, x2 =>
    if 10 ≤ x2 then
      some x1
    else
      F_X9_bits_4 M a1 n (x1 + ((a1 >>> (x2 &&& 31)) &&& 1)) (x2 + 1)
def F_X9_bits (M : fw_M) (a1 : Int32) : Option (Int32) :=
  F_X9_bits_4 M a1 64 0 0
set_option maxHeartbeats 4000000 in
set_option maxRecDepth 100000 in
theorem cm_X9_bits {l : Launch} {X : fw_X} {M : fw_M} {a1 : Int32}  {o : Int32} (hF : F_X9_bits M a1 = some o) : ct_i l X yX9_bits cX9_bits 3 (some .int) ({ frames := 0, cells := 0, slots := 0, locals := 0 } : Room) M [.int a1] (.inl o, M) := by
  refine fw_open rfl (Nat.le_of_ble_eq_true rfl) (fun p e s m below meth c ls C hr hlk hnm hex hl B => ?_)
  have C : fr_C X p c cX9_bits 3 RX9 s m ([.int a1] : List Value).toArray := C
  have hx := C.1.1
  have hb := C.1.2.1
  have hl : lv_has ls 3 [(0, .int a1)] := hl
  have hJ4 : ∀ (n : Nat), ∀ (x1 : Int32) (x2 : Int32) (H : Heap) (locs : List Loc) (ls : Array Slot), F_X9_bits_4 M a1 n x1 x2 = some o → fr_H X s M H locs → lv_has ls 3 [(0, .int a1), (1, .int x1), (2, .int x2)] → W p l e ({ frames := 0, cells := 0, slots := 0, locals := 0 } : Room) s m ([.int a1] : List Value).toArray below meth c H locs 0 0 (vx_MQ below (fw_Qi X (.inl o, M)) (fw_Qx X (.inl o, M)) ([.int a1] : List Value).toArray s 0 0 (fw_A X)) (F0 m 4 ls []) := by
    intro n
    induction n with
    | zero =>
      intro x1 x2 H locs ls hF B hl
      exact absurd hF (by simp [F_X9_bits_4])
    | succ n ih =>
      intro x1 x2 H locs ls hF B hl
      rw [F_X9_bits_4] at hF
      refine lv_iload_n hx hb dX9_bits_4 rfl (lv_at hl 2 rfl) ?_
      refine lv_bipush (v := 10) hx hb dX9_bits_5 (by decide) ?_
      refine lv_icmp_ge (tgt := 24) hx hb dX9_bits_7 (by decide) (fun c1 => ?_) (fun c1 => ?_)
      · have hF := it_t hF c1
        refine lv_iload_n hx hb dX9_bits_24 rfl (lv_at hl 1 rfl) ?_
        exact fr_iret C B hr rfl hlk (by rw [← Option.some.inj hF]) (Nat.le_of_ble_eq_true rfl) (Nat.le_of_ble_eq_true rfl) dX9_bits_25
      · have hF := it_f hF c1
        refine lv_iload_n hx hb dX9_bits_10 rfl (lv_at hl 1 rfl) ?_
        refine lv_iload_n hx hb dX9_bits_11 rfl (lv_at hl 0 rfl) ?_
        refine lv_iload_n hx hb dX9_bits_12 rfl (lv_at hl 2 rfl) ?_
        refine lv_ishr hx hb dX9_bits_13 ?_
        refine lv_iconst (v := 1) hx hb dX9_bits_14 (by decide) ?_
        refine lv_iand hx hb dX9_bits_15 ?_
        refine lv_iadd hx hb dX9_bits_16 ?_
        refine lv_istore_n (lv' := [(1, .int (x1 + ((a1 >>> (x2 &&& 31)) &&& 1))), (0, .int a1), (2, .int x2)]) hx hb dX9_bits_17 rfl hl (by decide) rfl (fun ls hl => ?_)
        refine lv_iinc (v := (x2 + 1)) (lv' := [(2, .int (x2 + 1)), (1, .int (x1 + ((a1 >>> (x2 &&& 31)) &&& 1))), (0, .int a1)]) hx hb dX9_bits_18 hl (k := 2) rfl rfl (by decide) rfl (fun ls hl => ?_)
        refine lv_goto (tgt := 4) hx hb dX9_bits_21 (by decide) ?_
        exact ih (x1 + ((a1 >>> (x2 &&& 31)) &&& 1)) (x2 + 1) _ _ _ hF B (lv_sub hl [2, 1, 0] rfl)
  unfold F_X9_bits at hF
  refine lv_iconst (v := 0) hx hb dX9_bits_0 (by decide) ?_
  refine lv_istore_n (lv' := [(1, .int 0), (0, .int a1)]) hx hb dX9_bits_1 rfl hl (by decide) rfl (fun ls hl => ?_)
  refine lv_iconst (v := 0) hx hb dX9_bits_2 (by decide) ?_
  refine lv_istore_n (lv' := [(2, .int 0), (1, .int 0), (0, .int a1)]) hx hb dX9_bits_3 rfl hl (by decide) rfl (fun ls hl => ?_)
  exact hJ4 64 0 0 _ _ _ hF B (lv_sub hl [2, 1, 0] rfl)
def F_X9_doWhisper_83 (a1 : Int32) (a2 : Int32)  : Nat → Int32 → Int32 → Int32 → fw_M → Option (Int32 × fw_M)
  | 0, _, _, _, _ => none
  | n + 1, x4, x5, x6, M =>
    if ix_i 3 129 then
    if (fw_ri M 379 3) ≤ x6 then
      if ix_i (117 + (2 * a1)) 129 then
      lt_x (fw_wi M 379 (117 + (2 * a1)) a2) fun M4 =>
      if ix_i ((117 + (2 * a1)) + 1) 129 then
      lt_x (fw_wi M4 379 ((117 + (2 * a1)) + 1) x5) fun M6 =>
      bd_x (F_X9_bits M6 x5) fun r8 =>
      some (r8, M6)
      else none
      else none
    else
      bd_x (F_X9_ofPassenger M x6 1) fun r11 =>
      if ¬ r11 = x4 then
        F_X9_doWhisper_83 a1 a2 n x4 (x5 ||| 0) (x6 + 1) M
      else
        F_X9_doWhisper_83 a1 a2 n x4 (x5 ||| (1 <<< (x6 &&& 31))) (x6 + 1) M
    else none
def F_X9_doWhisper (M : fw_M) (a1 : Int32) (a2 : Int32) : Option (Int32 × fw_M) :=
  bd_x (F_X9_isSecret M a1) fun r15 =>
  if r15 = 0 then
    bd_p (F_X9_fails M 1) fun r19 M20 =>
    some (r19, M20)
  else
    bd_x (F_X9_isPassenger M a2) fun r22 =>
    if ¬ r22 = 0 then
      bd_x (F_X9_carrier M a1) fun r26 =>
      if 0 ≤ r26 then
        bd_x (F_X9_ofPassenger M r26 1) fun r30 =>
        if a2 = r26 then
          bd_p (F_X9_fails M 3) fun r34 M35 =>
          some (r34, M35)
        else
          if r30 < 0 then
            bd_p (F_X9_fails M 3) fun r38 M39 =>
            some (r38, M39)
          else
            bd_x (F_X9_ofPassenger M a2 1) fun r41 =>
            if r41 = r30 then
              bd_x (F_X9_knowers M a1) fun r45 =>
              F_X9_doWhisper_83 a1 a2 64 r30 r45 0 M
            else
              bd_p (F_X9_fails M 3) fun r48 M49 =>
              some (r48, M49)
      else
        bd_p (F_X9_fails M 2) fun r51 M52 =>
        some (r51, M52)
    else
      bd_p (F_X9_fails M 1) fun r54 M55 =>
      some (r54, M55)
set_option maxHeartbeats 4000000 in
set_option maxRecDepth 100000 in
theorem cm_X9_doWhisper {l : Launch} {X : fw_X} {M : fw_M} {a1 : Int32} {a2 : Int32}  {o : Int32 × fw_M} (hF : F_X9_doWhisper M a1 a2 = some o) : ct_i l X yX9_doWhisper cX9_doWhisper 7 (some .int) ({ frames := 2, cells := 0, slots := 0, locals := 43 } : Room) M [.ref (fw_ad X 378), .int a1, .int a2] (.inl o.1, o.2) := by
  refine fw_open rfl (Nat.le_of_ble_eq_true rfl) (fun p e s m below meth c ls C hr hlk hnm hex hl B => ?_)
  have C : fr_C X p c cX9_doWhisper 7 RX9 s m ([.ref (fw_ad X 378), .int a1, .int a2] : List Value).toArray := C
  have hx := C.1.1
  have hb := C.1.2.1
  have hl : lv_has ls 7 [(0, .ref (fw_ad X 378)), (1, .int a1), (2, .int a2)] := hl
  have hJ83 : ∀ (n : Nat), ∀ (x4 : Int32) (x5 : Int32) (x6 : Int32) (M : fw_M) (H : Heap) (locs : List Loc) (ls : Array Slot), F_X9_doWhisper_83 a1 a2 n x4 x5 x6 M = some o → fr_H X s M H locs → lv_has ls 7 [(0, .ref (fw_ad X 378)), (1, .int a1), (2, .int a2), (4, .int x4), (5, .int x5), (6, .int x6)] → W p l e ({ frames := 2, cells := 0, slots := 0, locals := 43 } : Room) s m ([.ref (fw_ad X 378), .int a1, .int a2] : List Value).toArray below meth c H locs 0 0 (vx_MQ below (fw_Qi X (.inl o.1, o.2)) (fw_Qx X (.inl o.1, o.2)) ([.ref (fw_ad X 378), .int a1, .int a2] : List Value).toArray s 0 0 (fw_A X)) (F0 m 83 ls []) := by
    intro n
    induction n with
    | zero =>
      intro x4 x5 x6 M H locs ls hF B hl
      exact absurd hF (by simp [F_X9_doWhisper_83])
    | succ n ih =>
      intro x4 x5 x6 M H locs ls hF B hl
      rw [F_X9_doWhisper_83] at hF
      refine lv_iload hx hb dX9_doWhisper_83 (lv_at hl 5 rfl) ?_
      refine lv_aload_n hx hb dX9_doWhisper_85 rfl (lv_at hl 0 rfl) ?_
      refine gf_X9_9 C B dX9_doWhisper_86 ?_
      refine lv_iconst (v := 3) hx hb dX9_doWhisper_89 (by decide) ?_
      obtain ⟨c1, hF⟩ := of_g hF
      refine fr_ia C B ar_9_379 c1 dX9_doWhisper_90 ?_
      refine lv_icmp_ge (tgt := 125) hx hb dX9_doWhisper_91 (by decide) (fun c2 => ?_) (fun c2 => ?_)
      · have hF := it_t hF c2
        refine lv_aload_n hx hb dX9_doWhisper_125 rfl (lv_at hl 0 rfl) ?_
        refine gf_X9_9 C B dX9_doWhisper_126 ?_
        refine lv_bipush (v := 117) hx hb dX9_doWhisper_129 (by decide) ?_
        refine lv_iconst (v := 2) hx hb dX9_doWhisper_131 (by decide) ?_
        refine lv_iload_n hx hb dX9_doWhisper_132 rfl (lv_at hl 1 rfl) ?_
        refine lv_imul hx hb dX9_doWhisper_133 ?_
        refine lv_iadd hx hb dX9_doWhisper_134 ?_
        refine lv_iload_n hx hb dX9_doWhisper_135 rfl (lv_at hl 2 rfl) ?_
        obtain ⟨c3, hF⟩ := of_g hF
        refine fr_is C B ar_9_379 c3 dX9_doWhisper_136 (fun H locs B => ?_)
        obtain ⟨M4, eM4, hF⟩ := lt_e hF
        rw [← eM4] at B
        refine lv_aload_n hx hb dX9_doWhisper_137 rfl (lv_at hl 0 rfl) ?_
        refine gf_X9_9 C B dX9_doWhisper_138 ?_
        refine lv_bipush (v := 117) hx hb dX9_doWhisper_141 (by decide) ?_
        refine lv_iconst (v := 2) hx hb dX9_doWhisper_143 (by decide) ?_
        refine lv_iload_n hx hb dX9_doWhisper_144 rfl (lv_at hl 1 rfl) ?_
        refine lv_imul hx hb dX9_doWhisper_145 ?_
        refine lv_iadd hx hb dX9_doWhisper_146 ?_
        refine lv_iconst (v := 1) hx hb dX9_doWhisper_147 (by decide) ?_
        refine lv_iadd hx hb dX9_doWhisper_148 ?_
        refine lv_iload hx hb dX9_doWhisper_149 (lv_at hl 4 rfl) ?_
        obtain ⟨c5, hF⟩ := of_g hF
        refine fr_is C B ar_9_379 c5 dX9_doWhisper_151 (fun H locs B => ?_)
        obtain ⟨M6, eM6, hF⟩ := lt_e hF
        rw [← eM6] at B
        refine lv_iload hx hb dX9_doWhisper_152 (lv_at hl 4 rfl) ?_
        obtain ⟨r8, hf7, hF⟩ := bx_e hF
        refine fr_cSi (As := [.int x5]) (rest := []) C B (cm_X9_bits hf7) yw_X9_bits wm_X9_165 rfl hl.1 rfl (Nat.le_of_ble_eq_true rfl) ⟨Nat.le_of_ble_eq_true rfl, Nat.le_of_ble_eq_true rfl⟩ ⟨Nat.le_of_ble_eq_true rfl, Nat.le_of_ble_eq_true rfl⟩ dX9_doWhisper_154 (fr_nx rfl) (fun r9 M9 H locs ho9 B => ?_)
        obtain ⟨rfl, rfl⟩ := oi_e ho9
        exact fr_iret C B hr rfl hlk (by rw [← Option.some.inj hF]) (Nat.le_of_ble_eq_true rfl) (Nat.le_of_ble_eq_true rfl) dX9_doWhisper_157
      · have hF := it_f hF c2
        refine lv_iload hx hb dX9_doWhisper_94 (lv_at hl 4 rfl) ?_
        refine lv_aload_n hx hb dX9_doWhisper_96 rfl (lv_at hl 0 rfl) ?_
        refine lv_iload hx hb dX9_doWhisper_97 (lv_at hl 5 rfl) ?_
        refine lv_iconst (v := 1) hx hb dX9_doWhisper_99 (by decide) ?_
        obtain ⟨r11, hf10, hF⟩ := bx_e hF
        refine fr_cVi (As := [.int x6, .int 1]) (rest := [.int x5]) C B (cm_X9_ofPassenger hf10) ob_9 rfl yw_X9_ofPassenger wm_X9_117 rfl hl.1 rfl (Nat.le_of_ble_eq_true rfl) ⟨Nat.le_of_ble_eq_true rfl, Nat.le_of_ble_eq_true rfl⟩ ⟨Nat.le_of_ble_eq_true rfl, Nat.le_of_ble_eq_true rfl⟩ dX9_doWhisper_100 (fr_nx rfl) (fun r9 M9 H locs ho9 B => ?_)
        obtain ⟨rfl, rfl⟩ := oi_e ho9
        refine lv_iload hx hb dX9_doWhisper_103 (lv_at hl 3 rfl) ?_
        refine lv_icmp_ne (tgt := 115) hx hb dX9_doWhisper_105 (by decide) (fun c13 => ?_) (fun c13 => ?_)
        · have hF := it_t hF c13
          refine lv_iconst (v := 0) hx hb dX9_doWhisper_115 (by decide) ?_
          refine lv_ior hx hb dX9_doWhisper_116 ?_
          refine lv_istore (lv' := [(5, .int (x5 ||| 0)), (0, .ref (fw_ad X 378)), (1, .int a1), (2, .int a2), (4, .int x4), (6, .int x6)]) hx hb dX9_doWhisper_117 hl (by decide) rfl (fun ls hl => ?_)
          refine lv_iinc (v := (x6 + 1)) (lv' := [(6, .int (x6 + 1)), (5, .int (x5 ||| 0)), (0, .ref (fw_ad X 378)), (1, .int a1), (2, .int a2), (4, .int x4)]) hx hb dX9_doWhisper_119 hl (k := 5) rfl rfl (by decide) rfl (fun ls hl => ?_)
          refine lv_goto (tgt := 83) hx hb dX9_doWhisper_122 (by decide) ?_
          exact ih x4 (x5 ||| 0) (x6 + 1) M _ _ _ hF B (lv_sub hl [2, 3, 4, 5, 1, 0] rfl)
        · have hF := it_f hF (not_not_intro c13)
          refine lv_iconst (v := 1) hx hb dX9_doWhisper_108 (by decide) ?_
          refine lv_iload hx hb dX9_doWhisper_109 (lv_at hl 5 rfl) ?_
          refine lv_ishl hx hb dX9_doWhisper_111 ?_
          refine lv_goto (tgt := 116) hx hb dX9_doWhisper_112 (by decide) ?_
          refine lv_ior hx hb dX9_doWhisper_116 ?_
          refine lv_istore (lv' := [(5, .int (x5 ||| (1 <<< (x6 &&& 31)))), (0, .ref (fw_ad X 378)), (1, .int a1), (2, .int a2), (4, .int x4), (6, .int x6)]) hx hb dX9_doWhisper_117 hl (by decide) rfl (fun ls hl => ?_)
          refine lv_iinc (v := (x6 + 1)) (lv' := [(6, .int (x6 + 1)), (5, .int (x5 ||| (1 <<< (x6 &&& 31)))), (0, .ref (fw_ad X 378)), (1, .int a1), (2, .int a2), (4, .int x4)]) hx hb dX9_doWhisper_119 hl (k := 5) rfl rfl (by decide) rfl (fun ls hl => ?_)
          refine lv_goto (tgt := 83) hx hb dX9_doWhisper_122 (by decide) ?_
          exact ih x4 (x5 ||| (1 <<< (x6 &&& 31))) (x6 + 1) M _ _ _ hF B (lv_sub hl [2, 3, 4, 5, 1, 0] rfl)
  unfold F_X9_doWhisper at hF
  refine lv_aload_n hx hb dX9_doWhisper_0 rfl (lv_at hl 0 rfl) ?_
  refine lv_iload_n hx hb dX9_doWhisper_1 rfl (lv_at hl 1 rfl) ?_
  obtain ⟨r15, hf14, hF⟩ := bx_e hF
  refine fr_cVi (As := [.int a1]) (rest := []) C B (cm_X9_isSecret hf14) ob_9 rfl yw_X9_isSecret wm_X9_156 rfl hl.1 rfl (Nat.le_of_ble_eq_true rfl) ⟨Nat.le_of_ble_eq_true rfl, Nat.le_of_ble_eq_true rfl⟩ ⟨Nat.le_of_ble_eq_true rfl, Nat.le_of_ble_eq_true rfl⟩ dX9_doWhisper_2 (fr_nx rfl) (fun r9 M9 H locs ho9 B => ?_)
  obtain ⟨rfl, rfl⟩ := oi_e ho9
  refine lv_if_eq (tgt := 16) hx hb dX9_doWhisper_5 (by decide) (fun c17 => ?_) (fun c17 => ?_)
  · have hF := it_t hF c17
    refine lv_aload_n hx hb dX9_doWhisper_16 rfl (lv_at hl 0 rfl) ?_
    refine lv_iconst (v := 1) hx hb dX9_doWhisper_17 (by decide) ?_
    obtain ⟨r19, M20, hf18, hF⟩ := bp_e hF
    refine fr_cVi (As := [.int 1]) (rest := []) C B (cm_X9_fails hf18) ob_9 rfl yw_X9_fails wm_X9_63 rfl hl.1 rfl (Nat.le_of_ble_eq_true rfl) ⟨Nat.le_of_ble_eq_true rfl, Nat.le_of_ble_eq_true rfl⟩ ⟨Nat.le_of_ble_eq_true rfl, Nat.le_of_ble_eq_true rfl⟩ dX9_doWhisper_18 (fr_nx rfl) (fun r9 M9 H locs ho9 B => ?_)
    obtain ⟨rfl, rfl⟩ := oi_e ho9
    exact fr_iret C B hr rfl hlk (by rw [← Option.some.inj hF]) (Nat.le_of_ble_eq_true rfl) (Nat.le_of_ble_eq_true rfl) dX9_doWhisper_21
  · have hF := it_f hF c17
    refine lv_aload_n hx hb dX9_doWhisper_8 rfl (lv_at hl 0 rfl) ?_
    refine lv_iload_n hx hb dX9_doWhisper_9 rfl (lv_at hl 2 rfl) ?_
    obtain ⟨r22, hf21, hF⟩ := bx_e hF
    refine fr_cVi (As := [.int a2]) (rest := []) C B (cm_X9_isPassenger hf21) ob_9 rfl yw_X9_isPassenger wm_X9_133 rfl hl.1 rfl (Nat.le_of_ble_eq_true rfl) ⟨Nat.le_of_ble_eq_true rfl, Nat.le_of_ble_eq_true rfl⟩ ⟨Nat.le_of_ble_eq_true rfl, Nat.le_of_ble_eq_true rfl⟩ dX9_doWhisper_10 (fr_nx rfl) (fun r9 M9 H locs ho9 B => ?_)
    obtain ⟨rfl, rfl⟩ := oi_e ho9
    refine lv_if_ne (tgt := 22) hx hb dX9_doWhisper_13 (by decide) (fun c24 => ?_) (fun c24 => ?_)
    · have hF := it_t hF c24
      refine lv_aload_n hx hb dX9_doWhisper_22 rfl (lv_at hl 0 rfl) ?_
      refine lv_iload_n hx hb dX9_doWhisper_23 rfl (lv_at hl 1 rfl) ?_
      obtain ⟨r26, hf25, hF⟩ := bx_e hF
      refine fr_cVi (As := [.int a1]) (rest := []) C B (cm_X9_carrier hf25) ob_9 rfl yw_X9_carrier wm_X9_159 rfl hl.1 rfl (Nat.le_of_ble_eq_true rfl) ⟨Nat.le_of_ble_eq_true rfl, Nat.le_of_ble_eq_true rfl⟩ ⟨Nat.le_of_ble_eq_true rfl, Nat.le_of_ble_eq_true rfl⟩ dX9_doWhisper_24 (fr_nx rfl) (fun r9 M9 H locs ho9 B => ?_)
      obtain ⟨rfl, rfl⟩ := oi_e ho9
      refine lv_istore_n (lv' := [(3, .int r26), (0, .ref (fw_ad X 378)), (1, .int a1), (2, .int a2)]) hx hb dX9_doWhisper_27 rfl hl (by decide) rfl (fun ls hl => ?_)
      refine lv_iload_n hx hb dX9_doWhisper_28 rfl (lv_at hl 0 rfl) ?_
      refine lv_if_ge (tgt := 38) hx hb dX9_doWhisper_29 (by decide) (fun c28 => ?_) (fun c28 => ?_)
      · have hF := it_t hF c28
        refine lv_aload_n hx hb dX9_doWhisper_38 rfl (lv_at hl 1 rfl) ?_
        refine lv_iload_n hx hb dX9_doWhisper_39 rfl (lv_at hl 0 rfl) ?_
        refine lv_iconst (v := 1) hx hb dX9_doWhisper_40 (by decide) ?_
        obtain ⟨r30, hf29, hF⟩ := bx_e hF
        refine fr_cVi (As := [.int r26, .int 1]) (rest := []) C B (cm_X9_ofPassenger hf29) ob_9 rfl yw_X9_ofPassenger wm_X9_117 rfl hl.1 rfl (Nat.le_of_ble_eq_true rfl) ⟨Nat.le_of_ble_eq_true rfl, Nat.le_of_ble_eq_true rfl⟩ ⟨Nat.le_of_ble_eq_true rfl, Nat.le_of_ble_eq_true rfl⟩ dX9_doWhisper_41 (fr_nx rfl) (fun r9 M9 H locs ho9 B => ?_)
        obtain ⟨rfl, rfl⟩ := oi_e ho9
        refine lv_istore (lv' := [(4, .int r30), (3, .int r26), (0, .ref (fw_ad X 378)), (1, .int a1), (2, .int a2)]) hx hb dX9_doWhisper_44 hl (by decide) rfl (fun ls hl => ?_)
        refine lv_iload_n hx hb dX9_doWhisper_46 rfl (lv_at hl 4 rfl) ?_
        refine lv_iload_n hx hb dX9_doWhisper_47 rfl (lv_at hl 1 rfl) ?_
        refine lv_icmp_eq (tgt := 67) hx hb dX9_doWhisper_48 (by decide) (fun c32 => ?_) (fun c32 => ?_)
        · have hF := it_t hF c32
          refine lv_aload_n hx hb dX9_doWhisper_67 rfl (lv_at hl 2 rfl) ?_
          refine lv_iconst (v := 3) hx hb dX9_doWhisper_68 (by decide) ?_
          obtain ⟨r34, M35, hf33, hF⟩ := bp_e hF
          refine fr_cVi (As := [.int 3]) (rest := []) C B (cm_X9_fails hf33) ob_9 rfl yw_X9_fails wm_X9_63 rfl hl.1 rfl (Nat.le_of_ble_eq_true rfl) ⟨Nat.le_of_ble_eq_true rfl, Nat.le_of_ble_eq_true rfl⟩ ⟨Nat.le_of_ble_eq_true rfl, Nat.le_of_ble_eq_true rfl⟩ dX9_doWhisper_69 (fr_nx rfl) (fun r9 M9 H locs ho9 B => ?_)
          obtain ⟨rfl, rfl⟩ := oi_e ho9
          exact fr_iret C B hr rfl hlk (by rw [← Option.some.inj hF]) (Nat.le_of_ble_eq_true rfl) (Nat.le_of_ble_eq_true rfl) dX9_doWhisper_72
        · have hF := it_f hF c32
          refine lv_iload hx hb dX9_doWhisper_51 (lv_at hl 0 rfl) ?_
          refine lv_if_lt (tgt := 67) hx hb dX9_doWhisper_53 (by decide) (fun c36 => ?_) (fun c36 => ?_)
          · have hF := it_t hF c36
            refine lv_aload_n hx hb dX9_doWhisper_67 rfl (lv_at hl 2 rfl) ?_
            refine lv_iconst (v := 3) hx hb dX9_doWhisper_68 (by decide) ?_
            obtain ⟨r38, M39, hf37, hF⟩ := bp_e hF
            refine fr_cVi (As := [.int 3]) (rest := []) C B (cm_X9_fails hf37) ob_9 rfl yw_X9_fails wm_X9_63 rfl hl.1 rfl (Nat.le_of_ble_eq_true rfl) ⟨Nat.le_of_ble_eq_true rfl, Nat.le_of_ble_eq_true rfl⟩ ⟨Nat.le_of_ble_eq_true rfl, Nat.le_of_ble_eq_true rfl⟩ dX9_doWhisper_69 (fr_nx rfl) (fun r9 M9 H locs ho9 B => ?_)
            obtain ⟨rfl, rfl⟩ := oi_e ho9
            exact fr_iret C B hr rfl hlk (by rw [← Option.some.inj hF]) (Nat.le_of_ble_eq_true rfl) (Nat.le_of_ble_eq_true rfl) dX9_doWhisper_72
          · have hF := it_f hF c36
            refine lv_aload_n hx hb dX9_doWhisper_56 rfl (lv_at hl 2 rfl) ?_
            refine lv_iload_n hx hb dX9_doWhisper_57 rfl (lv_at hl 4 rfl) ?_
            refine lv_iconst (v := 1) hx hb dX9_doWhisper_58 (by decide) ?_
            obtain ⟨r41, hf40, hF⟩ := bx_e hF
            refine fr_cVi (As := [.int a2, .int 1]) (rest := []) C B (cm_X9_ofPassenger hf40) ob_9 rfl yw_X9_ofPassenger wm_X9_117 rfl hl.1 rfl (Nat.le_of_ble_eq_true rfl) ⟨Nat.le_of_ble_eq_true rfl, Nat.le_of_ble_eq_true rfl⟩ ⟨Nat.le_of_ble_eq_true rfl, Nat.le_of_ble_eq_true rfl⟩ dX9_doWhisper_59 (fr_nx rfl) (fun r9 M9 H locs ho9 B => ?_)
            obtain ⟨rfl, rfl⟩ := oi_e ho9
            refine lv_iload hx hb dX9_doWhisper_62 (lv_at hl 0 rfl) ?_
            refine lv_icmp_eq (tgt := 73) hx hb dX9_doWhisper_64 (by decide) (fun c43 => ?_) (fun c43 => ?_)
            · have hF := it_t hF c43
              refine lv_aload_n hx hb dX9_doWhisper_73 rfl (lv_at hl 2 rfl) ?_
              refine lv_iload_n hx hb dX9_doWhisper_74 rfl (lv_at hl 3 rfl) ?_
              obtain ⟨r45, hf44, hF⟩ := bx_e hF
              refine fr_cVi (As := [.int a1]) (rest := []) C B (cm_X9_knowers hf44) ob_9 rfl yw_X9_knowers wm_X9_162 rfl hl.1 rfl (Nat.le_of_ble_eq_true rfl) ⟨Nat.le_of_ble_eq_true rfl, Nat.le_of_ble_eq_true rfl⟩ ⟨Nat.le_of_ble_eq_true rfl, Nat.le_of_ble_eq_true rfl⟩ dX9_doWhisper_75 (fr_nx rfl) (fun r9 M9 H locs ho9 B => ?_)
              obtain ⟨rfl, rfl⟩ := oi_e ho9
              refine lv_istore (lv' := [(5, .int r45), (4, .int r30), (3, .int r26), (0, .ref (fw_ad X 378)), (1, .int a1), (2, .int a2)]) hx hb dX9_doWhisper_78 hl (by decide) rfl (fun ls hl => ?_)
              refine lv_iconst (v := 0) hx hb dX9_doWhisper_80 (by decide) ?_
              refine lv_istore (lv' := [(6, .int 0), (5, .int r45), (4, .int r30), (3, .int r26), (0, .ref (fw_ad X 378)), (1, .int a1), (2, .int a2)]) hx hb dX9_doWhisper_81 hl (by decide) rfl (fun ls hl => ?_)
              exact hJ83 64 r30 r45 0 M _ _ _ hF B (lv_sub hl [4, 5, 6, 2, 1, 0] rfl)
            · have hF := it_f hF c43
              refine lv_aload_n hx hb dX9_doWhisper_67 rfl (lv_at hl 2 rfl) ?_
              refine lv_iconst (v := 3) hx hb dX9_doWhisper_68 (by decide) ?_
              obtain ⟨r48, M49, hf47, hF⟩ := bp_e hF
              refine fr_cVi (As := [.int 3]) (rest := []) C B (cm_X9_fails hf47) ob_9 rfl yw_X9_fails wm_X9_63 rfl hl.1 rfl (Nat.le_of_ble_eq_true rfl) ⟨Nat.le_of_ble_eq_true rfl, Nat.le_of_ble_eq_true rfl⟩ ⟨Nat.le_of_ble_eq_true rfl, Nat.le_of_ble_eq_true rfl⟩ dX9_doWhisper_69 (fr_nx rfl) (fun r9 M9 H locs ho9 B => ?_)
              obtain ⟨rfl, rfl⟩ := oi_e ho9
              exact fr_iret C B hr rfl hlk (by rw [← Option.some.inj hF]) (Nat.le_of_ble_eq_true rfl) (Nat.le_of_ble_eq_true rfl) dX9_doWhisper_72
      · have hF := it_f hF c28
        refine lv_aload_n hx hb dX9_doWhisper_32 rfl (lv_at hl 1 rfl) ?_
        refine lv_iconst (v := 2) hx hb dX9_doWhisper_33 (by decide) ?_
        obtain ⟨r51, M52, hf50, hF⟩ := bp_e hF
        refine fr_cVi (As := [.int 2]) (rest := []) C B (cm_X9_fails hf50) ob_9 rfl yw_X9_fails wm_X9_63 rfl hl.1 rfl (Nat.le_of_ble_eq_true rfl) ⟨Nat.le_of_ble_eq_true rfl, Nat.le_of_ble_eq_true rfl⟩ ⟨Nat.le_of_ble_eq_true rfl, Nat.le_of_ble_eq_true rfl⟩ dX9_doWhisper_34 (fr_nx rfl) (fun r9 M9 H locs ho9 B => ?_)
        obtain ⟨rfl, rfl⟩ := oi_e ho9
        exact fr_iret C B hr rfl hlk (by rw [← Option.some.inj hF]) (Nat.le_of_ble_eq_true rfl) (Nat.le_of_ble_eq_true rfl) dX9_doWhisper_37
    · have hF := it_f hF (not_not_intro c24)
      refine lv_aload_n hx hb dX9_doWhisper_16 rfl (lv_at hl 0 rfl) ?_
      refine lv_iconst (v := 1) hx hb dX9_doWhisper_17 (by decide) ?_
      obtain ⟨r54, M55, hf53, hF⟩ := bp_e hF
      refine fr_cVi (As := [.int 1]) (rest := []) C B (cm_X9_fails hf53) ob_9 rfl yw_X9_fails wm_X9_63 rfl hl.1 rfl (Nat.le_of_ble_eq_true rfl) ⟨Nat.le_of_ble_eq_true rfl, Nat.le_of_ble_eq_true rfl⟩ ⟨Nat.le_of_ble_eq_true rfl, Nat.le_of_ble_eq_true rfl⟩ dX9_doWhisper_18 (fr_nx rfl) (fun r9 M9 H locs ho9 B => ?_)
      obtain ⟨rfl, rfl⟩ := oi_e ho9
      exact fr_iret C B hr rfl hlk (by rw [← Option.some.inj hF]) (Nat.le_of_ble_eq_true rfl) (Nat.le_of_ble_eq_true rfl) dX9_doWhisper_21
def F_X9_whisper (M : fw_M) (a1 : Int32) (a2 : Int32) : Option (Int32 × fw_M) :=
  bd_x (F_X9_keep M) fun M3 =>
  bd_p (F_X9_doWhisper M3 a1 a2) fun r5 M6 =>
  bd_p (F_X9_ends M6 r5) fun r8 M9 =>
  some (r8, M9)
set_option maxHeartbeats 4000000 in
set_option maxRecDepth 100000 in
theorem cm_X9_whisper {l : Launch} {X : fw_X} {M : fw_M} {a1 : Int32} {a2 : Int32}  {o : Int32 × fw_M} (hF : F_X9_whisper M a1 a2 = some o) : ct_i l X yX9_whisper cX9_whisper 3 (some .int) ({ frames := 3, cells := 0, slots := 0, locals := 81 } : Room) M [.ref (fw_ad X 378), .int a1, .int a2] (.inl o.1, o.2) := by
  refine fw_open rfl (Nat.le_of_ble_eq_true rfl) (fun p e s m below meth c ls C hr hlk hnm hex hl B => ?_)
  have C : fr_C X p c cX9_whisper 3 RX9 s m ([.ref (fw_ad X 378), .int a1, .int a2] : List Value).toArray := C
  have hx := C.1.1
  have hb := C.1.2.1
  have hl : lv_has ls 3 [(0, .ref (fw_ad X 378)), (1, .int a1), (2, .int a2)] := hl
  unfold F_X9_whisper at hF
  refine lv_aload_n hx hb dX9_whisper_0 rfl (lv_at hl 0 rfl) ?_
  obtain ⟨M3, hf1, hF⟩ := bx_e hF
  refine fr_cVv (As := []) (rest := []) C B (cm_X9_keep hf1) ob_9 rfl yw_X9_keep wm_X9_66 rfl hl.1 rfl (Nat.le_of_ble_eq_true rfl) ⟨Nat.le_of_ble_eq_true rfl, Nat.le_of_ble_eq_true rfl⟩ ⟨Nat.le_of_ble_eq_true rfl, Nat.le_of_ble_eq_true rfl⟩ dX9_whisper_1 (fr_nx rfl) (fun M9 H locs ho9 B => ?_)
  obtain ⟨-, rfl⟩ := oi_e ho9
  refine lv_aload_n hx hb dX9_whisper_4 rfl (lv_at hl 0 rfl) ?_
  refine lv_aload_n hx hb dX9_whisper_5 rfl (lv_at hl 0 rfl) ?_
  refine lv_iload_n hx hb dX9_whisper_6 rfl (lv_at hl 1 rfl) ?_
  refine lv_iload_n hx hb dX9_whisper_7 rfl (lv_at hl 2 rfl) ?_
  obtain ⟨r5, M6, hf4, hF⟩ := bp_e hF
  refine fr_cVi (As := [.int a1, .int a2]) (rest := [.ref (fw_ad X 378)]) C B (cm_X9_doWhisper hf4) ob_9 rfl yw_X9_doWhisper wm_X9_168 rfl hl.1 rfl (Nat.le_of_ble_eq_true rfl) ⟨Nat.le_of_ble_eq_true rfl, Nat.le_of_ble_eq_true rfl⟩ ⟨Nat.le_of_ble_eq_true rfl, Nat.le_of_ble_eq_true rfl⟩ dX9_whisper_8 (fr_nx rfl) (fun r9 M9 H locs ho9 B => ?_)
  obtain ⟨rfl, rfl⟩ := oi_e ho9
  obtain ⟨r8, M9, hf7, hF⟩ := bp_e hF
  refine fr_cVi (As := [.int r5]) (rest := []) C B (cm_X9_ends hf7) ob_9 rfl yw_X9_ends wm_X9_72 rfl hl.1 rfl (Nat.le_of_ble_eq_true rfl) ⟨Nat.le_of_ble_eq_true rfl, Nat.le_of_ble_eq_true rfl⟩ ⟨Nat.le_of_ble_eq_true rfl, Nat.le_of_ble_eq_true rfl⟩ dX9_whisper_11 (fr_nx rfl) (fun r9 M9 H locs ho9 B => ?_)
  obtain ⟨rfl, rfl⟩ := oi_e ho9
  exact fr_iret C B hr rfl hlk (by rw [← Option.some.inj hF]) (Nat.le_of_ble_eq_true rfl) (Nat.le_of_ble_eq_true rfl) dX9_whisper_14
def F_X9_secretCount (M : fw_M) : Option (Int32 × fw_M) :=
  lt_x (fw_up M 378 6 0) fun M1 =>
  if ix_i 4 129 then
  some ((fw_ri M1 379 4), M1)
  else none
set_option maxHeartbeats 4000000 in
set_option maxRecDepth 100000 in
theorem cm_X9_secretCount {l : Launch} {X : fw_X} {M : fw_M}  {o : Int32 × fw_M} (hF : F_X9_secretCount M = some o) : ct_i l X yX9_secretCount cX9_secretCount 1 (some .int) ({ frames := 0, cells := 0, slots := 0, locals := 0 } : Room) M [.ref (fw_ad X 378)] (.inl o.1, o.2) := by
  refine fw_open rfl (Nat.le_of_ble_eq_true rfl) (fun p e s m below meth c ls C hr hlk hnm hex hl B => ?_)
  have C : fr_C X p c cX9_secretCount 1 RX9 s m ([.ref (fw_ad X 378)] : List Value).toArray := C
  have hx := C.1.1
  have hb := C.1.2.1
  have hl : lv_has ls 1 [(0, .ref (fw_ad X 378))] := hl
  unfold F_X9_secretCount at hF
  refine lv_aload_n hx hb dX9_secretCount_0 rfl (lv_at hl 0 rfl) ?_
  refine lv_iconst (v := 0) hx hb dX9_secretCount_1 (by decide) ?_
  refine pf_X9_39 C B dX9_secretCount_2 (fun H locs B => ?_)
  obtain ⟨M1, eM1, hF⟩ := lt_e hF
  rw [← eM1] at B
  refine lv_aload_n hx hb dX9_secretCount_5 rfl (lv_at hl 0 rfl) ?_
  refine gf_X9_9 C B dX9_secretCount_6 ?_
  refine lv_iconst (v := 4) hx hb dX9_secretCount_9 (by decide) ?_
  obtain ⟨c2, hF⟩ := of_g hF
  refine fr_ia C B ar_9_379 c2 dX9_secretCount_10 ?_
  exact fr_iret C B hr rfl hlk (by rw [← Option.some.inj hF]) (Nat.le_of_ble_eq_true rfl) (Nat.le_of_ble_eq_true rfl) dX9_secretCount_11
def F_X9_carrierOf (M : fw_M) (a1 : Int32) : Option (Int32 × fw_M) :=
  bd_x (F_X9_isSecret M a1) fun r2 =>
  bd_p (F_X9_isThere M r2) fun r5 M6 =>
  if r5 = 0 then
    some (0, M6)
  else
    bd_x (F_X9_carrier M6 a1) fun r9 =>
    some (r9, M6)
set_option maxHeartbeats 4000000 in
set_option maxRecDepth 100000 in
theorem cm_X9_carrierOf {l : Launch} {X : fw_X} {M : fw_M} {a1 : Int32}  {o : Int32 × fw_M} (hF : F_X9_carrierOf M a1 = some o) : ct_i l X yX9_carrierOf cX9_carrierOf 2 (some .int) ({ frames := 2, cells := 0, slots := 0, locals := 43 } : Room) M [.ref (fw_ad X 378), .int a1] (.inl o.1, o.2) := by
  refine fw_open rfl (Nat.le_of_ble_eq_true rfl) (fun p e s m below meth c ls C hr hlk hnm hex hl B => ?_)
  have C : fr_C X p c cX9_carrierOf 2 RX9 s m ([.ref (fw_ad X 378), .int a1] : List Value).toArray := C
  have hx := C.1.1
  have hb := C.1.2.1
  have hl : lv_has ls 2 [(0, .ref (fw_ad X 378)), (1, .int a1)] := hl
  unfold F_X9_carrierOf at hF
  refine lv_aload_n hx hb dX9_carrierOf_0 rfl (lv_at hl 0 rfl) ?_
  refine lv_aload_n hx hb dX9_carrierOf_1 rfl (lv_at hl 0 rfl) ?_
  refine lv_iload_n hx hb dX9_carrierOf_2 rfl (lv_at hl 1 rfl) ?_
  obtain ⟨r2, hf1, hF⟩ := bx_e hF
  refine fr_cVi (As := [.int a1]) (rest := [.ref (fw_ad X 378)]) C B (cm_X9_isSecret hf1) ob_9 rfl yw_X9_isSecret wm_X9_156 rfl hl.1 rfl (Nat.le_of_ble_eq_true rfl) ⟨Nat.le_of_ble_eq_true rfl, Nat.le_of_ble_eq_true rfl⟩ ⟨Nat.le_of_ble_eq_true rfl, Nat.le_of_ble_eq_true rfl⟩ dX9_carrierOf_3 (fr_nx rfl) (fun r9 M9 H locs ho9 B => ?_)
  obtain ⟨rfl, rfl⟩ := oi_e ho9
  obtain ⟨r5, M6, hf4, hF⟩ := bp_e hF
  refine fr_cVi (As := [.int r2]) (rest := []) C B (cm_X9_isThere hf4) ob_9 rfl yw_X9_isThere wm_X9_91 rfl hl.1 rfl (Nat.le_of_ble_eq_true rfl) ⟨Nat.le_of_ble_eq_true rfl, Nat.le_of_ble_eq_true rfl⟩ ⟨Nat.le_of_ble_eq_true rfl, Nat.le_of_ble_eq_true rfl⟩ dX9_carrierOf_6 (fr_nx rfl) (fun r9 M9 H locs ho9 B => ?_)
  obtain ⟨rfl, rfl⟩ := oi_e ho9
  refine lv_if_eq (tgt := 20) hx hb dX9_carrierOf_9 (by decide) (fun c7 => ?_) (fun c7 => ?_)
  · have hF := it_t hF c7
    refine lv_iconst (v := 0) hx hb dX9_carrierOf_20 (by decide) ?_
    exact fr_iret C B hr rfl hlk (by rw [← Option.some.inj hF]) (Nat.le_of_ble_eq_true rfl) (Nat.le_of_ble_eq_true rfl) dX9_carrierOf_21
  · have hF := it_f hF c7
    refine lv_aload_n hx hb dX9_carrierOf_12 rfl (lv_at hl 0 rfl) ?_
    refine lv_iload_n hx hb dX9_carrierOf_13 rfl (lv_at hl 1 rfl) ?_
    obtain ⟨r9, hf8, hF⟩ := bx_e hF
    refine fr_cVi (As := [.int a1]) (rest := []) C B (cm_X9_carrier hf8) ob_9 rfl yw_X9_carrier wm_X9_159 rfl hl.1 rfl (Nat.le_of_ble_eq_true rfl) ⟨Nat.le_of_ble_eq_true rfl, Nat.le_of_ble_eq_true rfl⟩ ⟨Nat.le_of_ble_eq_true rfl, Nat.le_of_ble_eq_true rfl⟩ dX9_carrierOf_14 (fr_nx rfl) (fun r9 M9 H locs ho9 B => ?_)
    obtain ⟨rfl, rfl⟩ := oi_e ho9
    refine lv_goto (tgt := 21) hx hb dX9_carrierOf_17 (by decide) ?_
    exact fr_iret C B hr rfl hlk (by rw [← Option.some.inj hF]) (Nat.le_of_ble_eq_true rfl) (Nat.le_of_ble_eq_true rfl) dX9_carrierOf_21
def F_X9_isTruth (M : fw_M) (a1 : Int32) : Option (Int32 × fw_M) :=
  bd_x (F_X9_isSecret M a1) fun r2 =>
  bd_p (F_X9_isThere M r2) fun r5 M6 =>
  if r5 = 0 then
    some (0, M6)
  else
    bd_x (F_X9_carrier M6 a1) fun r9 =>
    if 0 ≤ r9 then
      some (0, M6)
    else
      some (1, M6)
set_option maxHeartbeats 4000000 in
set_option maxRecDepth 100000 in
theorem cm_X9_isTruth {l : Launch} {X : fw_X} {M : fw_M} {a1 : Int32}  {o : Int32 × fw_M} (hF : F_X9_isTruth M a1 = some o) : ct_i l X yX9_isTruth cX9_isTruth 2 (some .boolean) ({ frames := 2, cells := 0, slots := 0, locals := 43 } : Room) M [.ref (fw_ad X 378), .int a1] (.inl o.1, o.2) := by
  refine fw_open rfl (Nat.le_of_ble_eq_true rfl) (fun p e s m below meth c ls C hr hlk hnm hex hl B => ?_)
  have C : fr_C X p c cX9_isTruth 2 RX9 s m ([.ref (fw_ad X 378), .int a1] : List Value).toArray := C
  have hx := C.1.1
  have hb := C.1.2.1
  have hl : lv_has ls 2 [(0, .ref (fw_ad X 378)), (1, .int a1)] := hl
  unfold F_X9_isTruth at hF
  refine lv_aload_n hx hb dX9_isTruth_0 rfl (lv_at hl 0 rfl) ?_
  refine lv_aload_n hx hb dX9_isTruth_1 rfl (lv_at hl 0 rfl) ?_
  refine lv_iload_n hx hb dX9_isTruth_2 rfl (lv_at hl 1 rfl) ?_
  obtain ⟨r2, hf1, hF⟩ := bx_e hF
  refine fr_cVi (As := [.int a1]) (rest := [.ref (fw_ad X 378)]) C B (cm_X9_isSecret hf1) ob_9 rfl yw_X9_isSecret wm_X9_156 rfl hl.1 rfl (Nat.le_of_ble_eq_true rfl) ⟨Nat.le_of_ble_eq_true rfl, Nat.le_of_ble_eq_true rfl⟩ ⟨Nat.le_of_ble_eq_true rfl, Nat.le_of_ble_eq_true rfl⟩ dX9_isTruth_3 (fr_nx rfl) (fun r9 M9 H locs ho9 B => ?_)
  obtain ⟨rfl, rfl⟩ := oi_e ho9
  obtain ⟨r5, M6, hf4, hF⟩ := bp_e hF
  refine fr_cVi (As := [.int r2]) (rest := []) C B (cm_X9_isThere hf4) ob_9 rfl yw_X9_isThere wm_X9_91 rfl hl.1 rfl (Nat.le_of_ble_eq_true rfl) ⟨Nat.le_of_ble_eq_true rfl, Nat.le_of_ble_eq_true rfl⟩ ⟨Nat.le_of_ble_eq_true rfl, Nat.le_of_ble_eq_true rfl⟩ dX9_isTruth_6 (fr_nx rfl) (fun r9 M9 H locs ho9 B => ?_)
  obtain ⟨rfl, rfl⟩ := oi_e ho9
  refine lv_if_eq (tgt := 24) hx hb dX9_isTruth_9 (by decide) (fun c7 => ?_) (fun c7 => ?_)
  · have hF := it_t hF c7
    refine lv_iconst (v := 0) hx hb dX9_isTruth_24 (by decide) ?_
    exact fr_iret C B hr rfl hlk (by rw [← Option.some.inj hF]) (Nat.le_of_ble_eq_true rfl) (Nat.le_of_ble_eq_true rfl) dX9_isTruth_25
  · have hF := it_f hF c7
    refine lv_aload_n hx hb dX9_isTruth_12 rfl (lv_at hl 0 rfl) ?_
    refine lv_iload_n hx hb dX9_isTruth_13 rfl (lv_at hl 1 rfl) ?_
    obtain ⟨r9, hf8, hF⟩ := bx_e hF
    refine fr_cVi (As := [.int a1]) (rest := []) C B (cm_X9_carrier hf8) ob_9 rfl yw_X9_carrier wm_X9_159 rfl hl.1 rfl (Nat.le_of_ble_eq_true rfl) ⟨Nat.le_of_ble_eq_true rfl, Nat.le_of_ble_eq_true rfl⟩ ⟨Nat.le_of_ble_eq_true rfl, Nat.le_of_ble_eq_true rfl⟩ dX9_isTruth_14 (fr_nx rfl) (fun r9 M9 H locs ho9 B => ?_)
    obtain ⟨rfl, rfl⟩ := oi_e ho9
    refine lv_if_ge (tgt := 24) hx hb dX9_isTruth_17 (by decide) (fun c11 => ?_) (fun c11 => ?_)
    · have hF := it_t hF c11
      refine lv_iconst (v := 0) hx hb dX9_isTruth_24 (by decide) ?_
      exact fr_iret C B hr rfl hlk (by rw [← Option.some.inj hF]) (Nat.le_of_ble_eq_true rfl) (Nat.le_of_ble_eq_true rfl) dX9_isTruth_25
    · have hF := it_f hF c11
      refine lv_iconst (v := 1) hx hb dX9_isTruth_20 (by decide) ?_
      refine lv_goto (tgt := 25) hx hb dX9_isTruth_21 (by decide) ?_
      exact fr_iret C B hr rfl hlk (by rw [← Option.some.inj hF]) (Nat.le_of_ble_eq_true rfl) (Nat.le_of_ble_eq_true rfl) dX9_isTruth_25
def F_X9_knows (M : fw_M) (a1 : Int32) (a2 : Int32) : Option (Int32 × fw_M) :=
  bd_x (F_X9_isPassenger M a1) fun r2 =>
  if r2 = 0 then
    bd_p (F_X9_isThere M 0) fun r6 M7 =>
    if r6 = 0 then
      some (0, M7)
    else
      bd_x (F_X9_knowers M7 a2) fun r10 =>
      if ¬ ((r10 >>> (a1 &&& 31)) &&& 1) = 1 then
        some (0, M7)
      else
        some (1, M7)
  else
    bd_x (F_X9_isSecret M a2) fun r14 =>
    if r14 = 0 then
      bd_p (F_X9_isThere M 0) fun r18 M19 =>
      if r18 = 0 then
        some (0, M19)
      else
        bd_x (F_X9_knowers M19 a2) fun r22 =>
        if ¬ ((r22 >>> (a1 &&& 31)) &&& 1) = 1 then
          some (0, M19)
        else
          some (1, M19)
    else
      bd_p (F_X9_isThere M 1) fun r26 M27 =>
      if r26 = 0 then
        some (0, M27)
      else
        bd_x (F_X9_knowers M27 a2) fun r30 =>
        if ¬ ((r30 >>> (a1 &&& 31)) &&& 1) = 1 then
          some (0, M27)
        else
          some (1, M27)
set_option maxHeartbeats 4000000 in
set_option maxRecDepth 100000 in
theorem cm_X9_knows {l : Launch} {X : fw_X} {M : fw_M} {a1 : Int32} {a2 : Int32}  {o : Int32 × fw_M} (hF : F_X9_knows M a1 a2 = some o) : ct_i l X yX9_knows cX9_knows 3 (some .boolean) ({ frames := 2, cells := 0, slots := 0, locals := 43 } : Room) M [.ref (fw_ad X 378), .int a1, .int a2] (.inl o.1, o.2) := by
  refine fw_open rfl (Nat.le_of_ble_eq_true rfl) (fun p e s m below meth c ls C hr hlk hnm hex hl B => ?_)
  have C : fr_C X p c cX9_knows 3 RX9 s m ([.ref (fw_ad X 378), .int a1, .int a2] : List Value).toArray := C
  have hx := C.1.1
  have hb := C.1.2.1
  have hl : lv_has ls 3 [(0, .ref (fw_ad X 378)), (1, .int a1), (2, .int a2)] := hl
  unfold F_X9_knows at hF
  refine lv_aload_n hx hb dX9_knows_0 rfl (lv_at hl 0 rfl) ?_
  refine lv_aload_n hx hb dX9_knows_1 rfl (lv_at hl 0 rfl) ?_
  refine lv_iload_n hx hb dX9_knows_2 rfl (lv_at hl 1 rfl) ?_
  obtain ⟨r2, hf1, hF⟩ := bx_e hF
  refine fr_cVi (As := [.int a1]) (rest := [.ref (fw_ad X 378)]) C B (cm_X9_isPassenger hf1) ob_9 rfl yw_X9_isPassenger wm_X9_133 rfl hl.1 rfl (Nat.le_of_ble_eq_true rfl) ⟨Nat.le_of_ble_eq_true rfl, Nat.le_of_ble_eq_true rfl⟩ ⟨Nat.le_of_ble_eq_true rfl, Nat.le_of_ble_eq_true rfl⟩ dX9_knows_3 (fr_nx rfl) (fun r9 M9 H locs ho9 B => ?_)
  obtain ⟨rfl, rfl⟩ := oi_e ho9
  refine lv_if_eq (tgt := 21) hx hb dX9_knows_6 (by decide) (fun c4 => ?_) (fun c4 => ?_)
  · have hF := it_t hF c4
    refine lv_iconst (v := 0) hx hb dX9_knows_21 (by decide) ?_
    obtain ⟨r6, M7, hf5, hF⟩ := bp_e hF
    refine fr_cVi (As := [.int 0]) (rest := []) C B (cm_X9_isThere hf5) ob_9 rfl yw_X9_isThere wm_X9_91 rfl hl.1 rfl (Nat.le_of_ble_eq_true rfl) ⟨Nat.le_of_ble_eq_true rfl, Nat.le_of_ble_eq_true rfl⟩ ⟨Nat.le_of_ble_eq_true rfl, Nat.le_of_ble_eq_true rfl⟩ dX9_knows_22 (fr_nx rfl) (fun r9 M9 H locs ho9 B => ?_)
    obtain ⟨rfl, rfl⟩ := oi_e ho9
    refine lv_if_eq (tgt := 45) hx hb dX9_knows_25 (by decide) (fun c8 => ?_) (fun c8 => ?_)
    · have hF := it_t hF c8
      refine lv_iconst (v := 0) hx hb dX9_knows_45 (by decide) ?_
      exact fr_iret C B hr rfl hlk (by rw [← Option.some.inj hF]) (Nat.le_of_ble_eq_true rfl) (Nat.le_of_ble_eq_true rfl) dX9_knows_46
    · have hF := it_f hF c8
      refine lv_aload_n hx hb dX9_knows_28 rfl (lv_at hl 0 rfl) ?_
      refine lv_iload_n hx hb dX9_knows_29 rfl (lv_at hl 2 rfl) ?_
      obtain ⟨r10, hf9, hF⟩ := bx_e hF
      refine fr_cVi (As := [.int a2]) (rest := []) C B (cm_X9_knowers hf9) ob_9 rfl yw_X9_knowers wm_X9_162 rfl hl.1 rfl (Nat.le_of_ble_eq_true rfl) ⟨Nat.le_of_ble_eq_true rfl, Nat.le_of_ble_eq_true rfl⟩ ⟨Nat.le_of_ble_eq_true rfl, Nat.le_of_ble_eq_true rfl⟩ dX9_knows_30 (fr_nx rfl) (fun r9 M9 H locs ho9 B => ?_)
      obtain ⟨rfl, rfl⟩ := oi_e ho9
      refine lv_iload_n hx hb dX9_knows_33 rfl (lv_at hl 1 rfl) ?_
      refine lv_ishr hx hb dX9_knows_34 ?_
      refine lv_iconst (v := 1) hx hb dX9_knows_35 (by decide) ?_
      refine lv_iand hx hb dX9_knows_36 ?_
      refine lv_iconst (v := 1) hx hb dX9_knows_37 (by decide) ?_
      refine lv_icmp_ne (tgt := 45) hx hb dX9_knows_38 (by decide) (fun c12 => ?_) (fun c12 => ?_)
      · have hF := it_t hF c12
        refine lv_iconst (v := 0) hx hb dX9_knows_45 (by decide) ?_
        exact fr_iret C B hr rfl hlk (by rw [← Option.some.inj hF]) (Nat.le_of_ble_eq_true rfl) (Nat.le_of_ble_eq_true rfl) dX9_knows_46
      · have hF := it_f hF (not_not_intro c12)
        refine lv_iconst (v := 1) hx hb dX9_knows_41 (by decide) ?_
        refine lv_goto (tgt := 46) hx hb dX9_knows_42 (by decide) ?_
        exact fr_iret C B hr rfl hlk (by rw [← Option.some.inj hF]) (Nat.le_of_ble_eq_true rfl) (Nat.le_of_ble_eq_true rfl) dX9_knows_46
  · have hF := it_f hF c4
    refine lv_aload_n hx hb dX9_knows_9 rfl (lv_at hl 0 rfl) ?_
    refine lv_iload_n hx hb dX9_knows_10 rfl (lv_at hl 2 rfl) ?_
    obtain ⟨r14, hf13, hF⟩ := bx_e hF
    refine fr_cVi (As := [.int a2]) (rest := [.ref (fw_ad X 378)]) C B (cm_X9_isSecret hf13) ob_9 rfl yw_X9_isSecret wm_X9_156 rfl hl.1 rfl (Nat.le_of_ble_eq_true rfl) ⟨Nat.le_of_ble_eq_true rfl, Nat.le_of_ble_eq_true rfl⟩ ⟨Nat.le_of_ble_eq_true rfl, Nat.le_of_ble_eq_true rfl⟩ dX9_knows_11 (fr_nx rfl) (fun r9 M9 H locs ho9 B => ?_)
    obtain ⟨rfl, rfl⟩ := oi_e ho9
    refine lv_if_eq (tgt := 21) hx hb dX9_knows_14 (by decide) (fun c16 => ?_) (fun c16 => ?_)
    · have hF := it_t hF c16
      refine lv_iconst (v := 0) hx hb dX9_knows_21 (by decide) ?_
      obtain ⟨r18, M19, hf17, hF⟩ := bp_e hF
      refine fr_cVi (As := [.int 0]) (rest := []) C B (cm_X9_isThere hf17) ob_9 rfl yw_X9_isThere wm_X9_91 rfl hl.1 rfl (Nat.le_of_ble_eq_true rfl) ⟨Nat.le_of_ble_eq_true rfl, Nat.le_of_ble_eq_true rfl⟩ ⟨Nat.le_of_ble_eq_true rfl, Nat.le_of_ble_eq_true rfl⟩ dX9_knows_22 (fr_nx rfl) (fun r9 M9 H locs ho9 B => ?_)
      obtain ⟨rfl, rfl⟩ := oi_e ho9
      refine lv_if_eq (tgt := 45) hx hb dX9_knows_25 (by decide) (fun c20 => ?_) (fun c20 => ?_)
      · have hF := it_t hF c20
        refine lv_iconst (v := 0) hx hb dX9_knows_45 (by decide) ?_
        exact fr_iret C B hr rfl hlk (by rw [← Option.some.inj hF]) (Nat.le_of_ble_eq_true rfl) (Nat.le_of_ble_eq_true rfl) dX9_knows_46
      · have hF := it_f hF c20
        refine lv_aload_n hx hb dX9_knows_28 rfl (lv_at hl 0 rfl) ?_
        refine lv_iload_n hx hb dX9_knows_29 rfl (lv_at hl 2 rfl) ?_
        obtain ⟨r22, hf21, hF⟩ := bx_e hF
        refine fr_cVi (As := [.int a2]) (rest := []) C B (cm_X9_knowers hf21) ob_9 rfl yw_X9_knowers wm_X9_162 rfl hl.1 rfl (Nat.le_of_ble_eq_true rfl) ⟨Nat.le_of_ble_eq_true rfl, Nat.le_of_ble_eq_true rfl⟩ ⟨Nat.le_of_ble_eq_true rfl, Nat.le_of_ble_eq_true rfl⟩ dX9_knows_30 (fr_nx rfl) (fun r9 M9 H locs ho9 B => ?_)
        obtain ⟨rfl, rfl⟩ := oi_e ho9
        refine lv_iload_n hx hb dX9_knows_33 rfl (lv_at hl 1 rfl) ?_
        refine lv_ishr hx hb dX9_knows_34 ?_
        refine lv_iconst (v := 1) hx hb dX9_knows_35 (by decide) ?_
        refine lv_iand hx hb dX9_knows_36 ?_
        refine lv_iconst (v := 1) hx hb dX9_knows_37 (by decide) ?_
        refine lv_icmp_ne (tgt := 45) hx hb dX9_knows_38 (by decide) (fun c24 => ?_) (fun c24 => ?_)
        · have hF := it_t hF c24
          refine lv_iconst (v := 0) hx hb dX9_knows_45 (by decide) ?_
          exact fr_iret C B hr rfl hlk (by rw [← Option.some.inj hF]) (Nat.le_of_ble_eq_true rfl) (Nat.le_of_ble_eq_true rfl) dX9_knows_46
        · have hF := it_f hF (not_not_intro c24)
          refine lv_iconst (v := 1) hx hb dX9_knows_41 (by decide) ?_
          refine lv_goto (tgt := 46) hx hb dX9_knows_42 (by decide) ?_
          exact fr_iret C B hr rfl hlk (by rw [← Option.some.inj hF]) (Nat.le_of_ble_eq_true rfl) (Nat.le_of_ble_eq_true rfl) dX9_knows_46
    · have hF := it_f hF c16
      refine lv_iconst (v := 1) hx hb dX9_knows_17 (by decide) ?_
      refine lv_goto (tgt := 22) hx hb dX9_knows_18 (by decide) ?_
      obtain ⟨r26, M27, hf25, hF⟩ := bp_e hF
      refine fr_cVi (As := [.int 1]) (rest := []) C B (cm_X9_isThere hf25) ob_9 rfl yw_X9_isThere wm_X9_91 rfl hl.1 rfl (Nat.le_of_ble_eq_true rfl) ⟨Nat.le_of_ble_eq_true rfl, Nat.le_of_ble_eq_true rfl⟩ ⟨Nat.le_of_ble_eq_true rfl, Nat.le_of_ble_eq_true rfl⟩ dX9_knows_22 (fr_nx rfl) (fun r9 M9 H locs ho9 B => ?_)
      obtain ⟨rfl, rfl⟩ := oi_e ho9
      refine lv_if_eq (tgt := 45) hx hb dX9_knows_25 (by decide) (fun c28 => ?_) (fun c28 => ?_)
      · have hF := it_t hF c28
        refine lv_iconst (v := 0) hx hb dX9_knows_45 (by decide) ?_
        exact fr_iret C B hr rfl hlk (by rw [← Option.some.inj hF]) (Nat.le_of_ble_eq_true rfl) (Nat.le_of_ble_eq_true rfl) dX9_knows_46
      · have hF := it_f hF c28
        refine lv_aload_n hx hb dX9_knows_28 rfl (lv_at hl 0 rfl) ?_
        refine lv_iload_n hx hb dX9_knows_29 rfl (lv_at hl 2 rfl) ?_
        obtain ⟨r30, hf29, hF⟩ := bx_e hF
        refine fr_cVi (As := [.int a2]) (rest := []) C B (cm_X9_knowers hf29) ob_9 rfl yw_X9_knowers wm_X9_162 rfl hl.1 rfl (Nat.le_of_ble_eq_true rfl) ⟨Nat.le_of_ble_eq_true rfl, Nat.le_of_ble_eq_true rfl⟩ ⟨Nat.le_of_ble_eq_true rfl, Nat.le_of_ble_eq_true rfl⟩ dX9_knows_30 (fr_nx rfl) (fun r9 M9 H locs ho9 B => ?_)
        obtain ⟨rfl, rfl⟩ := oi_e ho9
        refine lv_iload_n hx hb dX9_knows_33 rfl (lv_at hl 1 rfl) ?_
        refine lv_ishr hx hb dX9_knows_34 ?_
        refine lv_iconst (v := 1) hx hb dX9_knows_35 (by decide) ?_
        refine lv_iand hx hb dX9_knows_36 ?_
        refine lv_iconst (v := 1) hx hb dX9_knows_37 (by decide) ?_
        refine lv_icmp_ne (tgt := 45) hx hb dX9_knows_38 (by decide) (fun c32 => ?_) (fun c32 => ?_)
        · have hF := it_t hF c32
          refine lv_iconst (v := 0) hx hb dX9_knows_45 (by decide) ?_
          exact fr_iret C B hr rfl hlk (by rw [← Option.some.inj hF]) (Nat.le_of_ble_eq_true rfl) (Nat.le_of_ble_eq_true rfl) dX9_knows_46
        · have hF := it_f hF (not_not_intro c32)
          refine lv_iconst (v := 1) hx hb dX9_knows_41 (by decide) ?_
          refine lv_goto (tgt := 46) hx hb dX9_knows_42 (by decide) ?_
          exact fr_iret C B hr rfl hlk (by rw [← Option.some.inj hF]) (Nat.le_of_ble_eq_true rfl) (Nat.le_of_ble_eq_true rfl) dX9_knows_46
