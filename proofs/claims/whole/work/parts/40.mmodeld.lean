def F_X9_knowerCount (M : fw_M) (a1 : Int32) : Option (Int32 × fw_M) :=
  bd_x (F_X9_isSecret M a1) fun r2 =>
  bd_p (F_X9_isThere M r2) fun r5 M6 =>
  if r5 = 0 then
    some (0, M6)
  else
    bd_x (F_X9_knowers M6 a1) fun r9 =>
    bd_x (F_X9_bits M6 r9) fun r12 =>
    some (r12, M6)
set_option maxHeartbeats 4000000 in
set_option maxRecDepth 100000 in
theorem cm_X9_knowerCount {l : Launch} {X : fw_X} {M : fw_M} {a1 : Int32}  {o : Int32 × fw_M} (hF : F_X9_knowerCount M a1 = some o) : ct_i l X yX9_knowerCount cX9_knowerCount 2 (some .int) ({ frames := 2, cells := 0, slots := 0, locals := 43 } : Room) M [.ref (fw_ad X 378), .int a1] (.inl o.1, o.2) := by
  refine fw_open rfl (Nat.le_of_ble_eq_true rfl) (fun p e s m below meth c ls C hr hlk hnm hex hl B => ?_)
  have C : fr_C X p c cX9_knowerCount 2 RX9 s m ([.ref (fw_ad X 378), .int a1] : List Value).toArray := C
  have hx := C.1.1
  have hb := C.1.2.1
  have hl : lv_has ls 2 [(0, .ref (fw_ad X 378)), (1, .int a1)] := hl
  unfold F_X9_knowerCount at hF
  refine lv_aload_n hx hb dX9_knowerCount_0 rfl (lv_at hl 0 rfl) ?_
  refine lv_aload_n hx hb dX9_knowerCount_1 rfl (lv_at hl 0 rfl) ?_
  refine lv_iload_n hx hb dX9_knowerCount_2 rfl (lv_at hl 1 rfl) ?_
  obtain ⟨r2, hf1, hF⟩ := bx_e hF
  refine fr_cVi (As := [.int a1]) (rest := [.ref (fw_ad X 378)]) C B (cm_X9_isSecret hf1) ob_9 rfl yw_X9_isSecret wm_X9_156 rfl hl.1 rfl (Nat.le_of_ble_eq_true rfl) ⟨Nat.le_of_ble_eq_true rfl, Nat.le_of_ble_eq_true rfl⟩ ⟨Nat.le_of_ble_eq_true rfl, Nat.le_of_ble_eq_true rfl⟩ dX9_knowerCount_3 (fr_nx rfl) (fun r9 M9 H locs ho9 B => ?_)
  obtain ⟨rfl, rfl⟩ := oi_e ho9
  obtain ⟨r5, M6, hf4, hF⟩ := bp_e hF
  refine fr_cVi (As := [.int r2]) (rest := []) C B (cm_X9_isThere hf4) ob_9 rfl yw_X9_isThere wm_X9_91 rfl hl.1 rfl (Nat.le_of_ble_eq_true rfl) ⟨Nat.le_of_ble_eq_true rfl, Nat.le_of_ble_eq_true rfl⟩ ⟨Nat.le_of_ble_eq_true rfl, Nat.le_of_ble_eq_true rfl⟩ dX9_knowerCount_6 (fr_nx rfl) (fun r9 M9 H locs ho9 B => ?_)
  obtain ⟨rfl, rfl⟩ := oi_e ho9
  refine lv_if_eq (tgt := 23) hx hb dX9_knowerCount_9 (by decide) (fun c7 => ?_) (fun c7 => ?_)
  · have hF := it_t hF c7
    refine lv_iconst (v := 0) hx hb dX9_knowerCount_23 (by decide) ?_
    exact fr_iret C B hr rfl hlk (by rw [← Option.some.inj hF]) (Nat.le_of_ble_eq_true rfl) (Nat.le_of_ble_eq_true rfl) dX9_knowerCount_24
  · have hF := it_f hF c7
    refine lv_aload_n hx hb dX9_knowerCount_12 rfl (lv_at hl 0 rfl) ?_
    refine lv_iload_n hx hb dX9_knowerCount_13 rfl (lv_at hl 1 rfl) ?_
    obtain ⟨r9, hf8, hF⟩ := bx_e hF
    refine fr_cVi (As := [.int a1]) (rest := []) C B (cm_X9_knowers hf8) ob_9 rfl yw_X9_knowers wm_X9_162 rfl hl.1 rfl (Nat.le_of_ble_eq_true rfl) ⟨Nat.le_of_ble_eq_true rfl, Nat.le_of_ble_eq_true rfl⟩ ⟨Nat.le_of_ble_eq_true rfl, Nat.le_of_ble_eq_true rfl⟩ dX9_knowerCount_14 (fr_nx rfl) (fun r9 M9 H locs ho9 B => ?_)
    obtain ⟨rfl, rfl⟩ := oi_e ho9
    obtain ⟨r12, hf11, hF⟩ := bx_e hF
    refine fr_cSi (As := [.int r9]) (rest := []) C B (cm_X9_bits hf11) yw_X9_bits wm_X9_165 rfl hl.1 rfl (Nat.le_of_ble_eq_true rfl) ⟨Nat.le_of_ble_eq_true rfl, Nat.le_of_ble_eq_true rfl⟩ ⟨Nat.le_of_ble_eq_true rfl, Nat.le_of_ble_eq_true rfl⟩ dX9_knowerCount_17 (fr_nx rfl) (fun r9 M9 H locs ho9 B => ?_)
    obtain ⟨rfl, rfl⟩ := oi_e ho9
    refine lv_goto (tgt := 24) hx hb dX9_knowerCount_20 (by decide) ?_
    exact fr_iret C B hr rfl hlk (by rw [← Option.some.inj hF]) (Nat.le_of_ble_eq_true rfl) (Nat.le_of_ble_eq_true rfl) dX9_knowerCount_24
def F_X9_knownBy_4 (M : fw_M) (a1 : Int32)  : Nat → Int32 → Int32 → Option (Int32)
  | 0, _, _ => none
  | n + 1, x2, x3 =>
    if ix_i 4 129 then
    if (fw_ri M 379 4) ≤ x3 then
      some x2
    else
      bd_x (F_X9_knowers M x3) fun r4 =>
      F_X9_knownBy_4 M a1 n (x2 + ((r4 >>> (a1 &&& 31)) &&& 1)) (x3 + 1)
    else none
def F_X9_knownBy (M : fw_M) (a1 : Int32) : Option (Int32) :=
  F_X9_knownBy_4 M a1 64 0 0
set_option maxHeartbeats 4000000 in
set_option maxRecDepth 100000 in
theorem cm_X9_knownBy {l : Launch} {X : fw_X} {M : fw_M} {a1 : Int32}  {o : Int32} (hF : F_X9_knownBy M a1 = some o) : ct_i l X yX9_knownBy cX9_knownBy 4 (some .int) ({ frames := 1, cells := 0, slots := 0, locals := 21 } : Room) M [.ref (fw_ad X 378), .int a1] (.inl o, M) := by
  refine fw_open rfl (Nat.le_of_ble_eq_true rfl) (fun p e s m below meth c ls C hr hlk hnm hex hl B => ?_)
  have C : fr_C X p c cX9_knownBy 4 RX9 s m ([.ref (fw_ad X 378), .int a1] : List Value).toArray := C
  have hx := C.1.1
  have hb := C.1.2.1
  have hl : lv_has ls 4 [(0, .ref (fw_ad X 378)), (1, .int a1)] := hl
  have hJ4 : ∀ (n : Nat), ∀ (x2 : Int32) (x3 : Int32) (H : Heap) (locs : List Loc) (ls : Array Slot), F_X9_knownBy_4 M a1 n x2 x3 = some o → fr_H X s M H locs → lv_has ls 4 [(0, .ref (fw_ad X 378)), (1, .int a1), (2, .int x2), (3, .int x3)] → W p l e ({ frames := 1, cells := 0, slots := 0, locals := 21 } : Room) s m ([.ref (fw_ad X 378), .int a1] : List Value).toArray below meth c H locs 0 0 (vx_MQ below (fw_Qi X (.inl o, M)) (fw_Qx X (.inl o, M)) ([.ref (fw_ad X 378), .int a1] : List Value).toArray s 0 0 (fw_A X)) (F0 m 4 ls []) := by
    intro n
    induction n with
    | zero =>
      intro x2 x3 H locs ls hF B hl
      exact absurd hF (by simp [F_X9_knownBy_4])
    | succ n ih =>
      intro x2 x3 H locs ls hF B hl
      rw [F_X9_knownBy_4] at hF
      refine lv_iload_n hx hb dX9_knownBy_4 rfl (lv_at hl 3 rfl) ?_
      refine lv_aload_n hx hb dX9_knownBy_5 rfl (lv_at hl 0 rfl) ?_
      refine gf_X9_9 C B dX9_knownBy_6 ?_
      refine lv_iconst (v := 4) hx hb dX9_knownBy_9 (by decide) ?_
      obtain ⟨c1, hF⟩ := of_g hF
      refine fr_ia C B ar_9_379 c1 dX9_knownBy_10 ?_
      refine lv_icmp_ge (tgt := 32) hx hb dX9_knownBy_11 (by decide) (fun c2 => ?_) (fun c2 => ?_)
      · have hF := it_t hF c2
        refine lv_iload_n hx hb dX9_knownBy_32 rfl (lv_at hl 2 rfl) ?_
        exact fr_iret C B hr rfl hlk (by rw [← Option.some.inj hF]) (Nat.le_of_ble_eq_true rfl) (Nat.le_of_ble_eq_true rfl) dX9_knownBy_33
      · have hF := it_f hF c2
        refine lv_iload_n hx hb dX9_knownBy_14 rfl (lv_at hl 2 rfl) ?_
        refine lv_aload_n hx hb dX9_knownBy_15 rfl (lv_at hl 0 rfl) ?_
        refine lv_iload_n hx hb dX9_knownBy_16 rfl (lv_at hl 3 rfl) ?_
        obtain ⟨r4, hf3, hF⟩ := bx_e hF
        refine fr_cVi (As := [.int x3]) (rest := [.int x2]) C B (cm_X9_knowers hf3) ob_9 rfl yw_X9_knowers wm_X9_162 rfl hl.1 rfl (Nat.le_of_ble_eq_true rfl) ⟨Nat.le_of_ble_eq_true rfl, Nat.le_of_ble_eq_true rfl⟩ ⟨Nat.le_of_ble_eq_true rfl, Nat.le_of_ble_eq_true rfl⟩ dX9_knownBy_17 (fr_nx rfl) (fun r9 M9 H locs ho9 B => ?_)
        obtain ⟨rfl, rfl⟩ := oi_e ho9
        refine lv_iload_n hx hb dX9_knownBy_20 rfl (lv_at hl 1 rfl) ?_
        refine lv_ishr hx hb dX9_knownBy_21 ?_
        refine lv_iconst (v := 1) hx hb dX9_knownBy_22 (by decide) ?_
        refine lv_iand hx hb dX9_knownBy_23 ?_
        refine lv_iadd hx hb dX9_knownBy_24 ?_
        refine lv_istore_n (lv' := [(2, .int (x2 + ((r4 >>> (a1 &&& 31)) &&& 1))), (0, .ref (fw_ad X 378)), (1, .int a1), (3, .int x3)]) hx hb dX9_knownBy_25 rfl hl (by decide) rfl (fun ls hl => ?_)
        refine lv_iinc (v := (x3 + 1)) (lv' := [(3, .int (x3 + 1)), (2, .int (x2 + ((r4 >>> (a1 &&& 31)) &&& 1))), (0, .ref (fw_ad X 378)), (1, .int a1)]) hx hb dX9_knownBy_26 hl (k := 3) rfl rfl (by decide) rfl (fun ls hl => ?_)
        refine lv_goto (tgt := 4) hx hb dX9_knownBy_29 (by decide) ?_
        exact ih (x2 + ((r4 >>> (a1 &&& 31)) &&& 1)) (x3 + 1) _ _ _ hF B (lv_sub hl [2, 3, 1, 0] rfl)
  unfold F_X9_knownBy at hF
  refine lv_iconst (v := 0) hx hb dX9_knownBy_0 (by decide) ?_
  refine lv_istore_n (lv' := [(2, .int 0), (0, .ref (fw_ad X 378)), (1, .int a1)]) hx hb dX9_knownBy_1 rfl hl (by decide) rfl (fun ls hl => ?_)
  refine lv_iconst (v := 0) hx hb dX9_knownBy_2 (by decide) ?_
  refine lv_istore_n (lv' := [(3, .int 0), (2, .int 0), (0, .ref (fw_ad X 378)), (1, .int a1)]) hx hb dX9_knownBy_3 rfl hl (by decide) rfl (fun ls hl => ?_)
  exact hJ4 64 0 0 _ _ _ hF B (lv_sub hl [2, 3, 1, 0] rfl)
def F_X9_wisestPassenger_44 (a1 : Int32) (k21 : Int32 → Int32 → fw_M → Option (Int32 × fw_M)) : Nat → Int32 → Int32 → Int32 → Int32 → fw_M → Option (Int32 × fw_M)
  | 0, _, _, _, _, _ => none
  | n + 1, x2, x3, x4, x5, M =>
    if ix_i 3 129 then
    if (fw_ri M 379 3) ≤ x5 then
      if ¬ x4 = a1 then
        k21 x2 (x3 + 1) M
      else
        k21 x3 (x3 + 1) M
    else
      bd_x (F_X9_knownBy M x5) fun r5 =>
      bd_x (F_X9_knownBy M x3) fun r8 =>
      if 0 < (r5 - r8) then
        F_X9_wisestPassenger_44 a1 k21 n x2 x3 (x4 + 1) (x5 + 1) M
      else
        if ¬ (r5 - r8) = 0 then
          F_X9_wisestPassenger_44 a1 k21 n x2 x3 (x4 + 0) (x5 + 1) M
        else
          if x3 ≤ x5 then
            F_X9_wisestPassenger_44 a1 k21 n x2 x3 (x4 + 0) (x5 + 1) M
          else
            F_X9_wisestPassenger_44 a1 k21 n x2 x3 (x4 + 1) (x5 + 1) M
    else none
def F_X9_wisestPassenger_21 (a1 : Int32)  : Nat → Int32 → Int32 → fw_M → Option (Int32 × fw_M)
  | 0, _, _, _ => none
  | n + 1, x2, x3, M =>
    if ix_i 3 129 then
    if (fw_ri M 379 3) ≤ x3 then
      some (x2, M)
    else
      if ¬ (M 378 6) = 0 then
        some (x2, M)
      else
        F_X9_wisestPassenger_44 a1 (fun x2 x3 M => F_X9_wisestPassenger_21 a1 n x2 x3 M) 64 x2 x3 0 0 M
    else none
def F_X9_wisestPassenger (M : fw_M) (a1 : Int32) : Option (Int32 × fw_M) :=
  bd_x (F_X9_isPassenger M a1) fun r17 =>
  if r17 = 0 then
    lt_x (fw_up M 378 6 1) fun M20 =>
    F_X9_wisestPassenger_21 a1 64 0 0 M20
  else
    lt_x (fw_up M 378 6 0) fun M21 =>
    F_X9_wisestPassenger_21 a1 64 0 0 M21
set_option maxHeartbeats 4000000 in
set_option maxRecDepth 100000 in
theorem cm_X9_wisestPassenger {l : Launch} {X : fw_X} {M : fw_M} {a1 : Int32}  {o : Int32 × fw_M} (hF : F_X9_wisestPassenger M a1 = some o) : ct_i l X yX9_wisestPassenger cX9_wisestPassenger 7 (some .int) ({ frames := 2, cells := 0, slots := 0, locals := 44 } : Room) M [.ref (fw_ad X 378), .int a1] (.inl o.1, o.2) := by
  refine fw_open rfl (Nat.le_of_ble_eq_true rfl) (fun p e s m below meth c ls C hr hlk hnm hex hl B => ?_)
  have C : fr_C X p c cX9_wisestPassenger 7 RX9 s m ([.ref (fw_ad X 378), .int a1] : List Value).toArray := C
  have hx := C.1.1
  have hb := C.1.2.1
  have hl : lv_has ls 7 [(0, .ref (fw_ad X 378)), (1, .int a1)] := hl
  have hJ44 : ∀ (k21 : Int32 → Int32 → fw_M → Option (Int32 × fw_M)), (∀ (x2 : Int32) (x3 : Int32) (M : fw_M) (H : Heap) (locs : List Loc) (ls : Array Slot), k21 x2 x3 M = some o → fr_H X s M H locs → lv_has ls 7 [(0, .ref (fw_ad X 378)), (1, .int a1), (2, .int x2), (3, .int x3)] → W p l e ({ frames := 2, cells := 0, slots := 0, locals := 44 } : Room) s m ([.ref (fw_ad X 378), .int a1] : List Value).toArray below meth c H locs 0 0 (vx_MQ below (fw_Qi X (.inl o.1, o.2)) (fw_Qx X (.inl o.1, o.2)) ([.ref (fw_ad X 378), .int a1] : List Value).toArray s 0 0 (fw_A X)) (F0 m 21 ls [])) → ∀ (n : Nat), ∀ (x2 : Int32) (x3 : Int32) (x4 : Int32) (x5 : Int32) (M : fw_M) (H : Heap) (locs : List Loc) (ls : Array Slot), F_X9_wisestPassenger_44 a1 k21 n x2 x3 x4 x5 M = some o → fr_H X s M H locs → lv_has ls 7 [(0, .ref (fw_ad X 378)), (1, .int a1), (2, .int x2), (3, .int x3), (4, .int x4), (5, .int x5)] → W p l e ({ frames := 2, cells := 0, slots := 0, locals := 44 } : Room) s m ([.ref (fw_ad X 378), .int a1] : List Value).toArray below meth c H locs 0 0 (vx_MQ below (fw_Qi X (.inl o.1, o.2)) (fw_Qx X (.inl o.1, o.2)) ([.ref (fw_ad X 378), .int a1] : List Value).toArray s 0 0 (fw_A X)) (F0 m 44 ls []) := by
    intro k21 hk21
    intro n
    induction n with
    | zero =>
      intro x2 x3 x4 x5 M H locs ls hF B hl
      exact absurd hF (by simp [F_X9_wisestPassenger_44])
    | succ n ih =>
      intro x2 x3 x4 x5 M H locs ls hF B hl
      rw [F_X9_wisestPassenger_44] at hF
      refine lv_iload hx hb dX9_wisestPassenger_44 (lv_at hl 5 rfl) ?_
      refine lv_aload_n hx hb dX9_wisestPassenger_46 rfl (lv_at hl 0 rfl) ?_
      refine gf_X9_9 C B dX9_wisestPassenger_47 ?_
      refine lv_iconst (v := 3) hx hb dX9_wisestPassenger_50 (by decide) ?_
      obtain ⟨c1, hF⟩ := of_g hF
      refine fr_ia C B ar_9_379 c1 dX9_wisestPassenger_51 ?_
      refine lv_icmp_ge (tgt := 101) hx hb dX9_wisestPassenger_52 (by decide) (fun c2 => ?_) (fun c2 => ?_)
      · have hF := it_t hF c2
        refine lv_iload hx hb dX9_wisestPassenger_101 (lv_at hl 4 rfl) ?_
        refine lv_iload_n hx hb dX9_wisestPassenger_103 rfl (lv_at hl 1 rfl) ?_
        refine lv_icmp_ne (tgt := 111) hx hb dX9_wisestPassenger_104 (by decide) (fun c3 => ?_) (fun c3 => ?_)
        · have hF := it_t hF c3
          refine lv_iload_n hx hb dX9_wisestPassenger_111 rfl (lv_at hl 2 rfl) ?_
          refine lv_istore_n (lv' := [(2, .int x2), (0, .ref (fw_ad X 378)), (1, .int a1), (3, .int x3), (4, .int x4), (5, .int x5)]) hx hb dX9_wisestPassenger_112 rfl hl (by decide) rfl (fun ls hl => ?_)
          refine lv_iinc (v := (x3 + 1)) (lv' := [(3, .int (x3 + 1)), (2, .int x2), (0, .ref (fw_ad X 378)), (1, .int a1), (4, .int x4), (5, .int x5)]) hx hb dX9_wisestPassenger_113 hl (k := 3) rfl rfl (by decide) rfl (fun ls hl => ?_)
          refine lv_goto (tgt := 21) hx hb dX9_wisestPassenger_116 (by decide) ?_
          exact hk21 x2 (x3 + 1) M _ _ _ hF B (lv_sub hl [2, 3, 1, 0] rfl)
        · have hF := it_f hF (not_not_intro c3)
          refine lv_iload_n hx hb dX9_wisestPassenger_107 rfl (lv_at hl 3 rfl) ?_
          refine lv_goto (tgt := 112) hx hb dX9_wisestPassenger_108 (by decide) ?_
          refine lv_istore_n (lv' := [(2, .int x3), (0, .ref (fw_ad X 378)), (1, .int a1), (3, .int x3), (4, .int x4), (5, .int x5)]) hx hb dX9_wisestPassenger_112 rfl hl (by decide) rfl (fun ls hl => ?_)
          refine lv_iinc (v := (x3 + 1)) (lv' := [(3, .int (x3 + 1)), (2, .int x3), (0, .ref (fw_ad X 378)), (1, .int a1), (4, .int x4), (5, .int x5)]) hx hb dX9_wisestPassenger_113 hl (k := 3) rfl rfl (by decide) rfl (fun ls hl => ?_)
          refine lv_goto (tgt := 21) hx hb dX9_wisestPassenger_116 (by decide) ?_
          exact hk21 x3 (x3 + 1) M _ _ _ hF B (lv_sub hl [2, 3, 1, 0] rfl)
      · have hF := it_f hF c2
        refine lv_aload_n hx hb dX9_wisestPassenger_55 rfl (lv_at hl 0 rfl) ?_
        refine lv_iload hx hb dX9_wisestPassenger_56 (lv_at hl 5 rfl) ?_
        obtain ⟨r5, hf4, hF⟩ := bx_e hF
        refine fr_cVi (As := [.int x5]) (rest := []) C B (cm_X9_knownBy hf4) ob_9 rfl yw_X9_knownBy wm_X9_171 rfl hl.1 rfl (Nat.le_of_ble_eq_true rfl) ⟨Nat.le_of_ble_eq_true rfl, Nat.le_of_ble_eq_true rfl⟩ ⟨Nat.le_of_ble_eq_true rfl, Nat.le_of_ble_eq_true rfl⟩ dX9_wisestPassenger_58 (fr_nx rfl) (fun r9 M9 H locs ho9 B => ?_)
        obtain ⟨rfl, rfl⟩ := oi_e ho9
        refine lv_aload_n hx hb dX9_wisestPassenger_61 rfl (lv_at hl 0 rfl) ?_
        refine lv_iload_n hx hb dX9_wisestPassenger_62 rfl (lv_at hl 3 rfl) ?_
        obtain ⟨r8, hf7, hF⟩ := bx_e hF
        refine fr_cVi (As := [.int x3]) (rest := [.int r5]) C B (cm_X9_knownBy hf7) ob_9 rfl yw_X9_knownBy wm_X9_171 rfl hl.1 rfl (Nat.le_of_ble_eq_true rfl) ⟨Nat.le_of_ble_eq_true rfl, Nat.le_of_ble_eq_true rfl⟩ ⟨Nat.le_of_ble_eq_true rfl, Nat.le_of_ble_eq_true rfl⟩ dX9_wisestPassenger_63 (fr_nx rfl) (fun r9 M9 H locs ho9 B => ?_)
        obtain ⟨rfl, rfl⟩ := oi_e ho9
        refine lv_isub hx hb dX9_wisestPassenger_66 ?_
        refine lv_istore (lv' := [(6, .int (r5 - r8)), (0, .ref (fw_ad X 378)), (1, .int a1), (2, .int x2), (3, .int x3), (4, .int x4), (5, .int x5)]) hx hb dX9_wisestPassenger_67 hl (by decide) rfl (fun ls hl => ?_)
        refine lv_iload hx hb dX9_wisestPassenger_69 (lv_at hl 5 rfl) ?_
        refine lv_iload hx hb dX9_wisestPassenger_71 (lv_at hl 0 rfl) ?_
        refine lv_if_gt (tgt := 87) hx hb dX9_wisestPassenger_73 (by decide) (fun c10 => ?_) (fun c10 => ?_)
        · have hF := it_t hF c10
          refine lv_iconst (v := 1) hx hb dX9_wisestPassenger_87 (by decide) ?_
          refine lv_goto (tgt := 92) hx hb dX9_wisestPassenger_88 (by decide) ?_
          refine lv_iadd hx hb dX9_wisestPassenger_92 ?_
          refine lv_istore (lv' := [(4, .int (x4 + 1)), (6, .int (r5 - r8)), (0, .ref (fw_ad X 378)), (1, .int a1), (2, .int x2), (3, .int x3), (5, .int x5)]) hx hb dX9_wisestPassenger_93 hl (by decide) rfl (fun ls hl => ?_)
          refine lv_iinc (v := (x5 + 1)) (lv' := [(5, .int (x5 + 1)), (4, .int (x4 + 1)), (6, .int (r5 - r8)), (0, .ref (fw_ad X 378)), (1, .int a1), (2, .int x2), (3, .int x3)]) hx hb dX9_wisestPassenger_95 hl (k := 6) rfl rfl (by decide) rfl (fun ls hl => ?_)
          refine lv_goto (tgt := 44) hx hb dX9_wisestPassenger_98 (by decide) ?_
          exact ih x2 x3 (x4 + 1) (x5 + 1) M _ _ _ hF B (lv_sub hl [3, 4, 5, 6, 1, 0] rfl)
        · have hF := it_f hF c10
          refine lv_iload hx hb dX9_wisestPassenger_76 (lv_at hl 0 rfl) ?_
          refine lv_if_ne (tgt := 91) hx hb dX9_wisestPassenger_78 (by decide) (fun c11 => ?_) (fun c11 => ?_)
          · have hF := it_t hF c11
            refine lv_iconst (v := 0) hx hb dX9_wisestPassenger_91 (by decide) ?_
            refine lv_iadd hx hb dX9_wisestPassenger_92 ?_
            refine lv_istore (lv' := [(4, .int (x4 + 0)), (6, .int (r5 - r8)), (0, .ref (fw_ad X 378)), (1, .int a1), (2, .int x2), (3, .int x3), (5, .int x5)]) hx hb dX9_wisestPassenger_93 hl (by decide) rfl (fun ls hl => ?_)
            refine lv_iinc (v := (x5 + 1)) (lv' := [(5, .int (x5 + 1)), (4, .int (x4 + 0)), (6, .int (r5 - r8)), (0, .ref (fw_ad X 378)), (1, .int a1), (2, .int x2), (3, .int x3)]) hx hb dX9_wisestPassenger_95 hl (k := 6) rfl rfl (by decide) rfl (fun ls hl => ?_)
            refine lv_goto (tgt := 44) hx hb dX9_wisestPassenger_98 (by decide) ?_
            exact ih x2 x3 (x4 + 0) (x5 + 1) M _ _ _ hF B (lv_sub hl [3, 4, 5, 6, 1, 0] rfl)
          · have hF := it_f hF (not_not_intro c11)
            refine lv_iload hx hb dX9_wisestPassenger_81 (lv_at hl 6 rfl) ?_
            refine lv_iload_n hx hb dX9_wisestPassenger_83 rfl (lv_at hl 4 rfl) ?_
            refine lv_icmp_ge (tgt := 91) hx hb dX9_wisestPassenger_84 (by decide) (fun c12 => ?_) (fun c12 => ?_)
            · have hF := it_t hF c12
              refine lv_iconst (v := 0) hx hb dX9_wisestPassenger_91 (by decide) ?_
              refine lv_iadd hx hb dX9_wisestPassenger_92 ?_
              refine lv_istore (lv' := [(4, .int (x4 + 0)), (6, .int (r5 - r8)), (0, .ref (fw_ad X 378)), (1, .int a1), (2, .int x2), (3, .int x3), (5, .int x5)]) hx hb dX9_wisestPassenger_93 hl (by decide) rfl (fun ls hl => ?_)
              refine lv_iinc (v := (x5 + 1)) (lv' := [(5, .int (x5 + 1)), (4, .int (x4 + 0)), (6, .int (r5 - r8)), (0, .ref (fw_ad X 378)), (1, .int a1), (2, .int x2), (3, .int x3)]) hx hb dX9_wisestPassenger_95 hl (k := 6) rfl rfl (by decide) rfl (fun ls hl => ?_)
              refine lv_goto (tgt := 44) hx hb dX9_wisestPassenger_98 (by decide) ?_
              exact ih x2 x3 (x4 + 0) (x5 + 1) M _ _ _ hF B (lv_sub hl [3, 4, 5, 6, 1, 0] rfl)
            · have hF := it_f hF c12
              refine lv_iconst (v := 1) hx hb dX9_wisestPassenger_87 (by decide) ?_
              refine lv_goto (tgt := 92) hx hb dX9_wisestPassenger_88 (by decide) ?_
              refine lv_iadd hx hb dX9_wisestPassenger_92 ?_
              refine lv_istore (lv' := [(4, .int (x4 + 1)), (6, .int (r5 - r8)), (0, .ref (fw_ad X 378)), (1, .int a1), (2, .int x2), (3, .int x3), (5, .int x5)]) hx hb dX9_wisestPassenger_93 hl (by decide) rfl (fun ls hl => ?_)
              refine lv_iinc (v := (x5 + 1)) (lv' := [(5, .int (x5 + 1)), (4, .int (x4 + 1)), (6, .int (r5 - r8)), (0, .ref (fw_ad X 378)), (1, .int a1), (2, .int x2), (3, .int x3)]) hx hb dX9_wisestPassenger_95 hl (k := 6) rfl rfl (by decide) rfl (fun ls hl => ?_)
              refine lv_goto (tgt := 44) hx hb dX9_wisestPassenger_98 (by decide) ?_
              exact ih x2 x3 (x4 + 1) (x5 + 1) M _ _ _ hF B (lv_sub hl [3, 4, 5, 6, 1, 0] rfl)
  have hJ21 : ∀ (n : Nat), ∀ (x2 : Int32) (x3 : Int32) (M : fw_M) (H : Heap) (locs : List Loc) (ls : Array Slot), F_X9_wisestPassenger_21 a1 n x2 x3 M = some o → fr_H X s M H locs → lv_has ls 7 [(0, .ref (fw_ad X 378)), (1, .int a1), (2, .int x2), (3, .int x3)] → W p l e ({ frames := 2, cells := 0, slots := 0, locals := 44 } : Room) s m ([.ref (fw_ad X 378), .int a1] : List Value).toArray below meth c H locs 0 0 (vx_MQ below (fw_Qi X (.inl o.1, o.2)) (fw_Qx X (.inl o.1, o.2)) ([.ref (fw_ad X 378), .int a1] : List Value).toArray s 0 0 (fw_A X)) (F0 m 21 ls []) := by
    intro n
    induction n with
    | zero =>
      intro x2 x3 M H locs ls hF B hl
      exact absurd hF (by simp [F_X9_wisestPassenger_21])
    | succ n ih =>
      intro x2 x3 M H locs ls hF B hl
      rw [F_X9_wisestPassenger_21] at hF
      refine lv_iload_n hx hb dX9_wisestPassenger_21 rfl (lv_at hl 3 rfl) ?_
      refine lv_aload_n hx hb dX9_wisestPassenger_22 rfl (lv_at hl 0 rfl) ?_
      refine gf_X9_9 C B dX9_wisestPassenger_23 ?_
      refine lv_iconst (v := 3) hx hb dX9_wisestPassenger_26 (by decide) ?_
      obtain ⟨c13, hF⟩ := of_g hF
      refine fr_ia C B ar_9_379 c13 dX9_wisestPassenger_27 ?_
      refine lv_icmp_ge (tgt := 119) hx hb dX9_wisestPassenger_28 (by decide) (fun c14 => ?_) (fun c14 => ?_)
      · have hF := it_t hF c14
        refine lv_iload_n hx hb dX9_wisestPassenger_119 rfl (lv_at hl 2 rfl) ?_
        exact fr_iret C B hr rfl hlk (by rw [← Option.some.inj hF]) (Nat.le_of_ble_eq_true rfl) (Nat.le_of_ble_eq_true rfl) dX9_wisestPassenger_120
      · have hF := it_f hF c14
        refine lv_aload_n hx hb dX9_wisestPassenger_31 rfl (lv_at hl 0 rfl) ?_
        refine gf_X9_39 C B dX9_wisestPassenger_32 ?_
        refine lv_if_ne (tgt := 119) hx hb dX9_wisestPassenger_35 (by decide) (fun c15 => ?_) (fun c15 => ?_)
        · have hF := it_t hF c15
          refine lv_iload_n hx hb dX9_wisestPassenger_119 rfl (lv_at hl 2 rfl) ?_
          exact fr_iret C B hr rfl hlk (by rw [← Option.some.inj hF]) (Nat.le_of_ble_eq_true rfl) (Nat.le_of_ble_eq_true rfl) dX9_wisestPassenger_120
        · have hF := it_f hF (not_not_intro c15)
          refine lv_iconst (v := 0) hx hb dX9_wisestPassenger_38 (by decide) ?_
          refine lv_istore (lv' := [(4, .int 0), (0, .ref (fw_ad X 378)), (1, .int a1), (2, .int x2), (3, .int x3)]) hx hb dX9_wisestPassenger_39 hl (by decide) rfl (fun ls hl => ?_)
          refine lv_iconst (v := 0) hx hb dX9_wisestPassenger_41 (by decide) ?_
          refine lv_istore (lv' := [(5, .int 0), (4, .int 0), (0, .ref (fw_ad X 378)), (1, .int a1), (2, .int x2), (3, .int x3)]) hx hb dX9_wisestPassenger_42 hl (by decide) rfl (fun ls hl => ?_)
          exact hJ44 (fun x2 x3 M => F_X9_wisestPassenger_21 a1 n x2 x3 M) (fun x2 x3 M H locs ls h1 h2 h3 => ih x2 x3 M H locs ls h1 h2 h3) 64 x2 x3 0 0 M _ _ _ hF B (lv_sub hl [2, 3, 4, 5, 1, 0] rfl)
  unfold F_X9_wisestPassenger at hF
  refine lv_aload_n hx hb dX9_wisestPassenger_0 rfl (lv_at hl 0 rfl) ?_
  refine lv_aload_n hx hb dX9_wisestPassenger_1 rfl (lv_at hl 0 rfl) ?_
  refine lv_iload_n hx hb dX9_wisestPassenger_2 rfl (lv_at hl 1 rfl) ?_
  obtain ⟨r17, hf16, hF⟩ := bx_e hF
  refine fr_cVi (As := [.int a1]) (rest := [.ref (fw_ad X 378)]) C B (cm_X9_isPassenger hf16) ob_9 rfl yw_X9_isPassenger wm_X9_133 rfl hl.1 rfl (Nat.le_of_ble_eq_true rfl) ⟨Nat.le_of_ble_eq_true rfl, Nat.le_of_ble_eq_true rfl⟩ ⟨Nat.le_of_ble_eq_true rfl, Nat.le_of_ble_eq_true rfl⟩ dX9_wisestPassenger_3 (fr_nx rfl) (fun r9 M9 H locs ho9 B => ?_)
  obtain ⟨rfl, rfl⟩ := oi_e ho9
  refine lv_if_eq (tgt := 13) hx hb dX9_wisestPassenger_6 (by decide) (fun c19 => ?_) (fun c19 => ?_)
  · have hF := it_t hF c19
    refine lv_iconst (v := 1) hx hb dX9_wisestPassenger_13 (by decide) ?_
    refine pf_X9_39 C B dX9_wisestPassenger_14 (fun H locs B => ?_)
    obtain ⟨M20, eM20, hF⟩ := lt_e hF
    rw [← eM20] at B
    refine lv_iconst (v := 0) hx hb dX9_wisestPassenger_17 (by decide) ?_
    refine lv_istore_n (lv' := [(2, .int 0), (0, .ref (fw_ad X 378)), (1, .int a1)]) hx hb dX9_wisestPassenger_18 rfl hl (by decide) rfl (fun ls hl => ?_)
    refine lv_iconst (v := 0) hx hb dX9_wisestPassenger_19 (by decide) ?_
    refine lv_istore_n (lv' := [(3, .int 0), (2, .int 0), (0, .ref (fw_ad X 378)), (1, .int a1)]) hx hb dX9_wisestPassenger_20 rfl hl (by decide) rfl (fun ls hl => ?_)
    exact hJ21 64 0 0 M20 _ _ _ hF B (lv_sub hl [2, 3, 1, 0] rfl)
  · have hF := it_f hF c19
    refine lv_iconst (v := 0) hx hb dX9_wisestPassenger_9 (by decide) ?_
    refine lv_goto (tgt := 14) hx hb dX9_wisestPassenger_10 (by decide) ?_
    refine pf_X9_39 C B dX9_wisestPassenger_14 (fun H locs B => ?_)
    obtain ⟨M21, eM21, hF⟩ := lt_e hF
    rw [← eM21] at B
    refine lv_iconst (v := 0) hx hb dX9_wisestPassenger_17 (by decide) ?_
    refine lv_istore_n (lv' := [(2, .int 0), (0, .ref (fw_ad X 378)), (1, .int a1)]) hx hb dX9_wisestPassenger_18 rfl hl (by decide) rfl (fun ls hl => ?_)
    refine lv_iconst (v := 0) hx hb dX9_wisestPassenger_19 (by decide) ?_
    refine lv_istore_n (lv' := [(3, .int 0), (2, .int 0), (0, .ref (fw_ad X 378)), (1, .int a1)]) hx hb dX9_wisestPassenger_20 rfl hl (by decide) rfl (fun ls hl => ?_)
    exact hJ21 64 0 0 M21 _ _ _ hF B (lv_sub hl [2, 3, 1, 0] rfl)
def F_X9_widens_83 (M : fw_M) (a1 : Int32) (a2 : Int32) (k5 : Int32 → Int32 → Option (Int32)) (k19 : Int32 → Int32 → Int32 → Option (Int32)) (k33 : Int32 → Int32 → Int32 → Int32 → Option (Int32)) (x3 : Int32) (x4 : Int32) (x5 : Int32) (x6 : Int32) (x7 : Int32) : Option (Int32) :=
  if x7 = 0 then
    k33 (x3 ||| 0) x4 x5 (x6 + 1)
  else
    bd_x (F_X9_stopOf M x4 x6) fun r3 =>
    k33 (x3 ||| (1 <<< (r3 &&& 31))) x4 x5 (x6 + 1)
def F_X9_widens_33 (M : fw_M) (a1 : Int32) (a2 : Int32) (k5 : Int32 → Int32 → Option (Int32)) (k19 : Int32 → Int32 → Int32 → Option (Int32)) : Nat → Int32 → Int32 → Int32 → Int32 → Option (Int32)
  | 0, _, _, _, _ => none
  | n + 1, x3, x4, x5, x6 =>
    bd_x (F_X9_lengthOf M x4) fun r6 =>
    if r6 ≤ x6 then
      k19 x3 x4 (x5 + 1)
    else
      bd_x (F_X9_stopOf M x4 x5) fun r10 =>
      if ¬ ((a1 >>> (r10 &&& 31)) &&& 1) = 1 then
        F_X9_widens_83 M a1 a2 k5 k19 (fun x3 x4 x5 x6 => F_X9_widens_33 M a1 a2 k5 k19 n x3 x4 x5 x6) x3 x4 x5 x6 0
      else
        if a2 = 0 then
          F_X9_widens_83 M a1 a2 k5 k19 (fun x3 x4 x5 x6 => F_X9_widens_33 M a1 a2 k5 k19 n x3 x4 x5 x6) x3 x4 x5 x6 1
        else
          if ¬ (if 0 ≤ (x5 - x6) then (x5 - x6) else 0 - (x5 - x6)) = 1 then
            F_X9_widens_83 M a1 a2 k5 k19 (fun x3 x4 x5 x6 => F_X9_widens_33 M a1 a2 k5 k19 n x3 x4 x5 x6) x3 x4 x5 x6 0
          else
            F_X9_widens_83 M a1 a2 k5 k19 (fun x3 x4 x5 x6 => F_X9_widens_33 M a1 a2 k5 k19 n x3 x4 x5 x6) x3 x4 x5 x6 1
def F_X9_widens_19 (M : fw_M) (a1 : Int32) (a2 : Int32) (k5 : Int32 → Int32 → Option (Int32)) : Nat → Int32 → Int32 → Int32 → Option (Int32)
  | 0, _, _, _ => none
  | n + 1, x3, x4, x5 =>
    bd_x (F_X9_lengthOf M x4) fun r16 =>
    if r16 ≤ x5 then
      k5 x3 (x4 + 1)
    else
      F_X9_widens_33 M a1 a2 k5 (fun x3 x4 x5 => F_X9_widens_19 M a1 a2 k5 n x3 x4 x5) 64 x3 x4 x5 0
def F_X9_widens_5 (M : fw_M) (a1 : Int32) (a2 : Int32)  : Nat → Int32 → Int32 → Option (Int32)
  | 0, _, _ => none
  | n + 1, x3, x4 =>
    if ix_i 1 129 then
    if (fw_ri M 379 1) ≤ x4 then
      some x3
    else
      F_X9_widens_19 M a1 a2 (fun x3 x4 => F_X9_widens_5 M a1 a2 n x3 x4) 64 x3 x4 0
    else none
def F_X9_widens (M : fw_M) (a1 : Int32) (a2 : Int32) : Option (Int32) :=
  F_X9_widens_5 M a1 a2 64 a1 0
set_option maxHeartbeats 4000000 in
set_option maxRecDepth 100000 in
theorem cm_X9_widens {l : Launch} {X : fw_X} {M : fw_M} {a1 : Int32} {a2 : Int32}  {o : Int32} (hF : F_X9_widens M a1 a2 = some o) : ct_i l X yX9_widens cX9_widens 8 (some .int) ({ frames := 1, cells := 0, slots := 0, locals := 40 } : Room) M [.ref (fw_ad X 378), .int a1, .int a2] (.inl o, M) := by
  refine fw_open rfl (Nat.le_of_ble_eq_true rfl) (fun p e s m below meth c ls C hr hlk hnm hex hl B => ?_)
  have C : fr_C X p c cX9_widens 8 RX9 s m ([.ref (fw_ad X 378), .int a1, .int a2] : List Value).toArray := C
  have hx := C.1.1
  have hb := C.1.2.1
  have hl : lv_has ls 8 [(0, .ref (fw_ad X 378)), (1, .int a1), (2, .int a2)] := hl
  have hJ83 : ∀ (k5 : Int32 → Int32 → Option (Int32)), (∀ (x3 : Int32) (x4 : Int32) (H : Heap) (locs : List Loc) (ls : Array Slot), k5 x3 x4 = some o → fr_H X s M H locs → lv_has ls 8 [(0, .ref (fw_ad X 378)), (1, .int a1), (2, .int a2), (3, .int x3), (4, .int x4)] → W p l e ({ frames := 1, cells := 0, slots := 0, locals := 40 } : Room) s m ([.ref (fw_ad X 378), .int a1, .int a2] : List Value).toArray below meth c H locs 0 0 (vx_MQ below (fw_Qi X (.inl o, M)) (fw_Qx X (.inl o, M)) ([.ref (fw_ad X 378), .int a1, .int a2] : List Value).toArray s 0 0 (fw_A X)) (F0 m 5 ls [])) → ∀ (k19 : Int32 → Int32 → Int32 → Option (Int32)), (∀ (x3 : Int32) (x4 : Int32) (x5 : Int32) (H : Heap) (locs : List Loc) (ls : Array Slot), k19 x3 x4 x5 = some o → fr_H X s M H locs → lv_has ls 8 [(0, .ref (fw_ad X 378)), (1, .int a1), (2, .int a2), (3, .int x3), (4, .int x4), (5, .int x5)] → W p l e ({ frames := 1, cells := 0, slots := 0, locals := 40 } : Room) s m ([.ref (fw_ad X 378), .int a1, .int a2] : List Value).toArray below meth c H locs 0 0 (vx_MQ below (fw_Qi X (.inl o, M)) (fw_Qx X (.inl o, M)) ([.ref (fw_ad X 378), .int a1, .int a2] : List Value).toArray s 0 0 (fw_A X)) (F0 m 19 ls [])) → ∀ (k33 : Int32 → Int32 → Int32 → Int32 → Option (Int32)), (∀ (x3 : Int32) (x4 : Int32) (x5 : Int32) (x6 : Int32) (H : Heap) (locs : List Loc) (ls : Array Slot), k33 x3 x4 x5 x6 = some o → fr_H X s M H locs → lv_has ls 8 [(0, .ref (fw_ad X 378)), (1, .int a1), (2, .int a2), (3, .int x3), (4, .int x4), (5, .int x5), (6, .int x6)] → W p l e ({ frames := 1, cells := 0, slots := 0, locals := 40 } : Room) s m ([.ref (fw_ad X 378), .int a1, .int a2] : List Value).toArray below meth c H locs 0 0 (vx_MQ below (fw_Qi X (.inl o, M)) (fw_Qx X (.inl o, M)) ([.ref (fw_ad X 378), .int a1, .int a2] : List Value).toArray s 0 0 (fw_A X)) (F0 m 33 ls [])) → ∀ (x3 : Int32) (x4 : Int32) (x5 : Int32) (x6 : Int32) (x7 : Int32) (H : Heap) (locs : List Loc) (ls : Array Slot), F_X9_widens_83 M a1 a2 k5 k19 k33 x3 x4 x5 x6 x7 = some o → fr_H X s M H locs → lv_has ls 8 [(0, .ref (fw_ad X 378)), (1, .int a1), (2, .int a2), (3, .int x3), (4, .int x4), (5, .int x5), (6, .int x6), (7, .int x7)] → W p l e ({ frames := 1, cells := 0, slots := 0, locals := 40 } : Room) s m ([.ref (fw_ad X 378), .int a1, .int a2] : List Value).toArray below meth c H locs 0 0 (vx_MQ below (fw_Qi X (.inl o, M)) (fw_Qx X (.inl o, M)) ([.ref (fw_ad X 378), .int a1, .int a2] : List Value).toArray s 0 0 (fw_A X)) (F0 m 83 ls []) := by
    intro k5 hk5 k19 hk19 k33 hk33 x3 x4 x5 x6 x7 H locs ls hF B hl
    unfold F_X9_widens_83 at hF
    refine lv_iload_n hx hb dX9_widens_83 rfl (lv_at hl 3 rfl) ?_
    refine lv_iload hx hb dX9_widens_84 (lv_at hl 7 rfl) ?_
    refine lv_if_eq (tgt := 102) hx hb dX9_widens_86 (by decide) (fun c1 => ?_) (fun c1 => ?_)
    · have hF := it_t hF c1
      refine lv_iconst (v := 0) hx hb dX9_widens_102 (by decide) ?_
      refine lv_ior hx hb dX9_widens_103 ?_
      refine lv_istore_n (lv' := [(3, .int (x3 ||| 0)), (0, .ref (fw_ad X 378)), (1, .int a1), (2, .int a2), (4, .int x4), (5, .int x5), (6, .int x6), (7, .int x7)]) hx hb dX9_widens_104 rfl hl (by decide) rfl (fun ls hl => ?_)
      refine lv_iinc (v := (x6 + 1)) (lv' := [(6, .int (x6 + 1)), (3, .int (x3 ||| 0)), (0, .ref (fw_ad X 378)), (1, .int a1), (2, .int a2), (4, .int x4), (5, .int x5), (7, .int x7)]) hx hb dX9_widens_105 hl (k := 6) rfl rfl (by decide) rfl (fun ls hl => ?_)
      refine lv_goto (tgt := 33) hx hb dX9_widens_108 (by decide) ?_
      exact hk33 (x3 ||| 0) x4 x5 (x6 + 1) _ _ _ hF B (lv_sub hl [2, 3, 4, 1, 5, 6, 0] rfl)
    · have hF := it_f hF c1
      refine lv_iconst (v := 1) hx hb dX9_widens_89 (by decide) ?_
      refine lv_aload_n hx hb dX9_widens_90 rfl (lv_at hl 0 rfl) ?_
      refine lv_iload hx hb dX9_widens_91 (lv_at hl 4 rfl) ?_
      refine lv_iload hx hb dX9_widens_93 (lv_at hl 6 rfl) ?_
      obtain ⟨r3, hf2, hF⟩ := bx_e hF
      refine fr_cVi (As := [.int x4, .int x6]) (rest := [.int 1, .int x3]) C B (cm_X9_stopOf hf2) ob_9 rfl yw_X9_stopOf wm_X9_59 rfl hl.1 rfl (Nat.le_of_ble_eq_true rfl) ⟨Nat.le_of_ble_eq_true rfl, Nat.le_of_ble_eq_true rfl⟩ ⟨Nat.le_of_ble_eq_true rfl, Nat.le_of_ble_eq_true rfl⟩ dX9_widens_95 (fr_nx rfl) (fun r9 M9 H locs ho9 B => ?_)
      obtain ⟨rfl, rfl⟩ := oi_e ho9
      refine lv_ishl hx hb dX9_widens_98 ?_
      refine lv_goto (tgt := 103) hx hb dX9_widens_99 (by decide) ?_
      refine lv_ior hx hb dX9_widens_103 ?_
      refine lv_istore_n (lv' := [(3, .int (x3 ||| (1 <<< (r3 &&& 31)))), (0, .ref (fw_ad X 378)), (1, .int a1), (2, .int a2), (4, .int x4), (5, .int x5), (6, .int x6), (7, .int x7)]) hx hb dX9_widens_104 rfl hl (by decide) rfl (fun ls hl => ?_)
      refine lv_iinc (v := (x6 + 1)) (lv' := [(6, .int (x6 + 1)), (3, .int (x3 ||| (1 <<< (r3 &&& 31)))), (0, .ref (fw_ad X 378)), (1, .int a1), (2, .int a2), (4, .int x4), (5, .int x5), (7, .int x7)]) hx hb dX9_widens_105 hl (k := 6) rfl rfl (by decide) rfl (fun ls hl => ?_)
      refine lv_goto (tgt := 33) hx hb dX9_widens_108 (by decide) ?_
      exact hk33 (x3 ||| (1 <<< (r3 &&& 31))) x4 x5 (x6 + 1) _ _ _ hF B (lv_sub hl [2, 3, 4, 1, 5, 6, 0] rfl)
  have hJ33 : ∀ (k5 : Int32 → Int32 → Option (Int32)), (∀ (x3 : Int32) (x4 : Int32) (H : Heap) (locs : List Loc) (ls : Array Slot), k5 x3 x4 = some o → fr_H X s M H locs → lv_has ls 8 [(0, .ref (fw_ad X 378)), (1, .int a1), (2, .int a2), (3, .int x3), (4, .int x4)] → W p l e ({ frames := 1, cells := 0, slots := 0, locals := 40 } : Room) s m ([.ref (fw_ad X 378), .int a1, .int a2] : List Value).toArray below meth c H locs 0 0 (vx_MQ below (fw_Qi X (.inl o, M)) (fw_Qx X (.inl o, M)) ([.ref (fw_ad X 378), .int a1, .int a2] : List Value).toArray s 0 0 (fw_A X)) (F0 m 5 ls [])) → ∀ (k19 : Int32 → Int32 → Int32 → Option (Int32)), (∀ (x3 : Int32) (x4 : Int32) (x5 : Int32) (H : Heap) (locs : List Loc) (ls : Array Slot), k19 x3 x4 x5 = some o → fr_H X s M H locs → lv_has ls 8 [(0, .ref (fw_ad X 378)), (1, .int a1), (2, .int a2), (3, .int x3), (4, .int x4), (5, .int x5)] → W p l e ({ frames := 1, cells := 0, slots := 0, locals := 40 } : Room) s m ([.ref (fw_ad X 378), .int a1, .int a2] : List Value).toArray below meth c H locs 0 0 (vx_MQ below (fw_Qi X (.inl o, M)) (fw_Qx X (.inl o, M)) ([.ref (fw_ad X 378), .int a1, .int a2] : List Value).toArray s 0 0 (fw_A X)) (F0 m 19 ls [])) → ∀ (n : Nat), ∀ (x3 : Int32) (x4 : Int32) (x5 : Int32) (x6 : Int32) (H : Heap) (locs : List Loc) (ls : Array Slot), F_X9_widens_33 M a1 a2 k5 k19 n x3 x4 x5 x6 = some o → fr_H X s M H locs → lv_has ls 8 [(0, .ref (fw_ad X 378)), (1, .int a1), (2, .int a2), (3, .int x3), (4, .int x4), (5, .int x5), (6, .int x6)] → W p l e ({ frames := 1, cells := 0, slots := 0, locals := 40 } : Room) s m ([.ref (fw_ad X 378), .int a1, .int a2] : List Value).toArray below meth c H locs 0 0 (vx_MQ below (fw_Qi X (.inl o, M)) (fw_Qx X (.inl o, M)) ([.ref (fw_ad X 378), .int a1, .int a2] : List Value).toArray s 0 0 (fw_A X)) (F0 m 33 ls []) := by
    intro k5 hk5 k19 hk19
    intro n
    induction n with
    | zero =>
      intro x3 x4 x5 x6 H locs ls hF B hl
      exact absurd hF (by simp [F_X9_widens_33])
    | succ n ih =>
      intro x3 x4 x5 x6 H locs ls hF B hl
      rw [F_X9_widens_33] at hF
      refine lv_iload hx hb dX9_widens_33 (lv_at hl 6 rfl) ?_
      refine lv_aload_n hx hb dX9_widens_35 rfl (lv_at hl 0 rfl) ?_
      refine lv_iload hx hb dX9_widens_36 (lv_at hl 4 rfl) ?_
      obtain ⟨r6, hf5, hF⟩ := bx_e hF
      refine fr_cVi (As := [.int x4]) (rest := [.int x6]) C B (cm_X9_lengthOf hf5) ob_9 rfl yw_X9_lengthOf wm_X9_55 rfl hl.1 rfl (Nat.le_of_ble_eq_true rfl) ⟨Nat.le_of_ble_eq_true rfl, Nat.le_of_ble_eq_true rfl⟩ ⟨Nat.le_of_ble_eq_true rfl, Nat.le_of_ble_eq_true rfl⟩ dX9_widens_38 (fr_nx rfl) (fun r9 M9 H locs ho9 B => ?_)
      obtain ⟨rfl, rfl⟩ := oi_e ho9
      refine lv_icmp_ge (tgt := 111) hx hb dX9_widens_41 (by decide) (fun c8 => ?_) (fun c8 => ?_)
      · have hF := it_t hF c8
        refine lv_iinc (v := (x5 + 1)) (lv' := [(5, .int (x5 + 1)), (0, .ref (fw_ad X 378)), (1, .int a1), (2, .int a2), (3, .int x3), (4, .int x4), (6, .int x6)]) hx hb dX9_widens_111 hl (k := 5) rfl rfl (by decide) rfl (fun ls hl => ?_)
        refine lv_goto (tgt := 19) hx hb dX9_widens_114 (by decide) ?_
        exact hk19 x3 x4 (x5 + 1) _ _ _ hF B (lv_sub hl [1, 2, 3, 4, 5, 0] rfl)
      · have hF := it_f hF c8
        refine lv_iload_n hx hb dX9_widens_44 rfl (lv_at hl 1 rfl) ?_
        refine lv_aload_n hx hb dX9_widens_45 rfl (lv_at hl 0 rfl) ?_
        refine lv_iload hx hb dX9_widens_46 (lv_at hl 4 rfl) ?_
        refine lv_iload hx hb dX9_widens_48 (lv_at hl 5 rfl) ?_
        obtain ⟨r10, hf9, hF⟩ := bx_e hF
        refine fr_cVi (As := [.int x4, .int x5]) (rest := [.int a1]) C B (cm_X9_stopOf hf9) ob_9 rfl yw_X9_stopOf wm_X9_59 rfl hl.1 rfl (Nat.le_of_ble_eq_true rfl) ⟨Nat.le_of_ble_eq_true rfl, Nat.le_of_ble_eq_true rfl⟩ ⟨Nat.le_of_ble_eq_true rfl, Nat.le_of_ble_eq_true rfl⟩ dX9_widens_50 (fr_nx rfl) (fun r9 M9 H locs ho9 B => ?_)
        obtain ⟨rfl, rfl⟩ := oi_e ho9
        refine lv_ishr hx hb dX9_widens_53 ?_
        refine lv_iconst (v := 1) hx hb dX9_widens_54 (by decide) ?_
        refine lv_iand hx hb dX9_widens_55 ?_
        refine lv_iconst (v := 1) hx hb dX9_widens_56 (by decide) ?_
        refine lv_icmp_ne (tgt := 80) hx hb dX9_widens_57 (by decide) (fun c12 => ?_) (fun c12 => ?_)
        · have hF := it_t hF c12
          refine lv_iconst (v := 0) hx hb dX9_widens_80 (by decide) ?_
          refine lv_istore (lv' := [(7, .int 0), (0, .ref (fw_ad X 378)), (1, .int a1), (2, .int a2), (3, .int x3), (4, .int x4), (5, .int x5), (6, .int x6)]) hx hb dX9_widens_81 hl (by decide) rfl (fun ls hl => ?_)
          exact hJ83 k5 (fun x3 x4 H locs ls h1 h2 h3 => hk5 x3 x4 H locs ls h1 h2 h3) k19 (fun x3 x4 x5 H locs ls h1 h2 h3 => hk19 x3 x4 x5 H locs ls h1 h2 h3) (fun x3 x4 x5 x6 => F_X9_widens_33 M a1 a2 k5 k19 n x3 x4 x5 x6) (fun x3 x4 x5 x6 H locs ls h1 h2 h3 => ih x3 x4 x5 x6 H locs ls h1 h2 h3) x3 x4 x5 x6 0 _ _ _ hF B (lv_sub hl [1, 2, 3, 4, 5, 6, 7, 0] rfl)
        · have hF := it_f hF (not_not_intro c12)
          refine lv_iload_n hx hb dX9_widens_60 rfl (lv_at hl 2 rfl) ?_
          refine lv_if_eq (tgt := 76) hx hb dX9_widens_61 (by decide) (fun c13 => ?_) (fun c13 => ?_)
          · have hF := it_t hF c13
            refine lv_iconst (v := 1) hx hb dX9_widens_76 (by decide) ?_
            refine lv_goto (tgt := 81) hx hb dX9_widens_77 (by decide) ?_
            refine lv_istore (lv' := [(7, .int 1), (0, .ref (fw_ad X 378)), (1, .int a1), (2, .int a2), (3, .int x3), (4, .int x4), (5, .int x5), (6, .int x6)]) hx hb dX9_widens_81 hl (by decide) rfl (fun ls hl => ?_)
            exact hJ83 k5 (fun x3 x4 H locs ls h1 h2 h3 => hk5 x3 x4 H locs ls h1 h2 h3) k19 (fun x3 x4 x5 H locs ls h1 h2 h3 => hk19 x3 x4 x5 H locs ls h1 h2 h3) (fun x3 x4 x5 x6 => F_X9_widens_33 M a1 a2 k5 k19 n x3 x4 x5 x6) (fun x3 x4 x5 x6 H locs ls h1 h2 h3 => ih x3 x4 x5 x6 H locs ls h1 h2 h3) x3 x4 x5 x6 1 _ _ _ hF B (lv_sub hl [1, 2, 3, 4, 5, 6, 7, 0] rfl)
          · have hF := it_f hF c13
            refine lv_iload hx hb dX9_widens_64 (lv_at hl 5 rfl) ?_
            refine lv_iload hx hb dX9_widens_66 (lv_at hl 6 rfl) ?_
            refine lv_isub hx hb dX9_widens_68 ?_
            refine va_mabs hx hb (C.1.2.2.1.trans hl.1.symm) C.1.2.2.2.1 (C.1.2.2.2.2 _ wm_X9_174) (C.1.2.2.2.2 _ wt_Mabs) (C.1.2.2.2.2 _ wi_Math) (C.1.2.2.2.2 _ wc_Mabs) (Nat.le_of_ble_eq_true rfl) (Nat.le_of_ble_eq_true rfl) (Nat.le_of_ble_eq_true rfl) (Nat.le_of_ble_eq_true rfl) dX9_widens_69 ?_
            refine lv_iconst (v := 1) hx hb dX9_widens_72 (by decide) ?_
            refine lv_icmp_ne (tgt := 80) hx hb dX9_widens_73 (by decide) (fun c14 => ?_) (fun c14 => ?_)
            · have hF := it_t hF c14
              refine lv_iconst (v := 0) hx hb dX9_widens_80 (by decide) ?_
              refine lv_istore (lv' := [(7, .int 0), (0, .ref (fw_ad X 378)), (1, .int a1), (2, .int a2), (3, .int x3), (4, .int x4), (5, .int x5), (6, .int x6)]) hx hb dX9_widens_81 hl (by decide) rfl (fun ls hl => ?_)
              exact hJ83 k5 (fun x3 x4 H locs ls h1 h2 h3 => hk5 x3 x4 H locs ls h1 h2 h3) k19 (fun x3 x4 x5 H locs ls h1 h2 h3 => hk19 x3 x4 x5 H locs ls h1 h2 h3) (fun x3 x4 x5 x6 => F_X9_widens_33 M a1 a2 k5 k19 n x3 x4 x5 x6) (fun x3 x4 x5 x6 H locs ls h1 h2 h3 => ih x3 x4 x5 x6 H locs ls h1 h2 h3) x3 x4 x5 x6 0 _ _ _ hF B (lv_sub hl [1, 2, 3, 4, 5, 6, 7, 0] rfl)
            · have hF := it_f hF (not_not_intro c14)
              refine lv_iconst (v := 1) hx hb dX9_widens_76 (by decide) ?_
              refine lv_goto (tgt := 81) hx hb dX9_widens_77 (by decide) ?_
              refine lv_istore (lv' := [(7, .int 1), (0, .ref (fw_ad X 378)), (1, .int a1), (2, .int a2), (3, .int x3), (4, .int x4), (5, .int x5), (6, .int x6)]) hx hb dX9_widens_81 hl (by decide) rfl (fun ls hl => ?_)
              exact hJ83 k5 (fun x3 x4 H locs ls h1 h2 h3 => hk5 x3 x4 H locs ls h1 h2 h3) k19 (fun x3 x4 x5 H locs ls h1 h2 h3 => hk19 x3 x4 x5 H locs ls h1 h2 h3) (fun x3 x4 x5 x6 => F_X9_widens_33 M a1 a2 k5 k19 n x3 x4 x5 x6) (fun x3 x4 x5 x6 H locs ls h1 h2 h3 => ih x3 x4 x5 x6 H locs ls h1 h2 h3) x3 x4 x5 x6 1 _ _ _ hF B (lv_sub hl [1, 2, 3, 4, 5, 6, 7, 0] rfl)
  have hJ19 : ∀ (k5 : Int32 → Int32 → Option (Int32)), (∀ (x3 : Int32) (x4 : Int32) (H : Heap) (locs : List Loc) (ls : Array Slot), k5 x3 x4 = some o → fr_H X s M H locs → lv_has ls 8 [(0, .ref (fw_ad X 378)), (1, .int a1), (2, .int a2), (3, .int x3), (4, .int x4)] → W p l e ({ frames := 1, cells := 0, slots := 0, locals := 40 } : Room) s m ([.ref (fw_ad X 378), .int a1, .int a2] : List Value).toArray below meth c H locs 0 0 (vx_MQ below (fw_Qi X (.inl o, M)) (fw_Qx X (.inl o, M)) ([.ref (fw_ad X 378), .int a1, .int a2] : List Value).toArray s 0 0 (fw_A X)) (F0 m 5 ls [])) → ∀ (n : Nat), ∀ (x3 : Int32) (x4 : Int32) (x5 : Int32) (H : Heap) (locs : List Loc) (ls : Array Slot), F_X9_widens_19 M a1 a2 k5 n x3 x4 x5 = some o → fr_H X s M H locs → lv_has ls 8 [(0, .ref (fw_ad X 378)), (1, .int a1), (2, .int a2), (3, .int x3), (4, .int x4), (5, .int x5)] → W p l e ({ frames := 1, cells := 0, slots := 0, locals := 40 } : Room) s m ([.ref (fw_ad X 378), .int a1, .int a2] : List Value).toArray below meth c H locs 0 0 (vx_MQ below (fw_Qi X (.inl o, M)) (fw_Qx X (.inl o, M)) ([.ref (fw_ad X 378), .int a1, .int a2] : List Value).toArray s 0 0 (fw_A X)) (F0 m 19 ls []) := by
    intro k5 hk5
    intro n
    induction n with
    | zero =>
      intro x3 x4 x5 H locs ls hF B hl
      exact absurd hF (by simp [F_X9_widens_19])
    | succ n ih =>
      intro x3 x4 x5 H locs ls hF B hl
      rw [F_X9_widens_19] at hF
      refine lv_iload hx hb dX9_widens_19 (lv_at hl 5 rfl) ?_
      refine lv_aload_n hx hb dX9_widens_21 rfl (lv_at hl 0 rfl) ?_
      refine lv_iload hx hb dX9_widens_22 (lv_at hl 4 rfl) ?_
      obtain ⟨r16, hf15, hF⟩ := bx_e hF
      refine fr_cVi (As := [.int x4]) (rest := [.int x5]) C B (cm_X9_lengthOf hf15) ob_9 rfl yw_X9_lengthOf wm_X9_55 rfl hl.1 rfl (Nat.le_of_ble_eq_true rfl) ⟨Nat.le_of_ble_eq_true rfl, Nat.le_of_ble_eq_true rfl⟩ ⟨Nat.le_of_ble_eq_true rfl, Nat.le_of_ble_eq_true rfl⟩ dX9_widens_24 (fr_nx rfl) (fun r9 M9 H locs ho9 B => ?_)
      obtain ⟨rfl, rfl⟩ := oi_e ho9
      refine lv_icmp_ge (tgt := 117) hx hb dX9_widens_27 (by decide) (fun c18 => ?_) (fun c18 => ?_)
      · have hF := it_t hF c18
        refine lv_iinc (v := (x4 + 1)) (lv' := [(4, .int (x4 + 1)), (0, .ref (fw_ad X 378)), (1, .int a1), (2, .int a2), (3, .int x3), (5, .int x5)]) hx hb dX9_widens_117 hl (k := 4) rfl rfl (by decide) rfl (fun ls hl => ?_)
        refine lv_goto (tgt := 5) hx hb dX9_widens_120 (by decide) ?_
        exact hk5 x3 (x4 + 1) _ _ _ hF B (lv_sub hl [1, 2, 3, 4, 0] rfl)
      · have hF := it_f hF c18
        refine lv_iconst (v := 0) hx hb dX9_widens_30 (by decide) ?_
        refine lv_istore (lv' := [(6, .int 0), (0, .ref (fw_ad X 378)), (1, .int a1), (2, .int a2), (3, .int x3), (4, .int x4), (5, .int x5)]) hx hb dX9_widens_31 hl (by decide) rfl (fun ls hl => ?_)
        exact hJ33 k5 (fun x3 x4 H locs ls h1 h2 h3 => hk5 x3 x4 H locs ls h1 h2 h3) (fun x3 x4 x5 => F_X9_widens_19 M a1 a2 k5 n x3 x4 x5) (fun x3 x4 x5 H locs ls h1 h2 h3 => ih x3 x4 x5 H locs ls h1 h2 h3) 64 x3 x4 x5 0 _ _ _ hF B (lv_sub hl [1, 2, 3, 4, 5, 6, 0] rfl)
  have hJ5 : ∀ (n : Nat), ∀ (x3 : Int32) (x4 : Int32) (H : Heap) (locs : List Loc) (ls : Array Slot), F_X9_widens_5 M a1 a2 n x3 x4 = some o → fr_H X s M H locs → lv_has ls 8 [(0, .ref (fw_ad X 378)), (1, .int a1), (2, .int a2), (3, .int x3), (4, .int x4)] → W p l e ({ frames := 1, cells := 0, slots := 0, locals := 40 } : Room) s m ([.ref (fw_ad X 378), .int a1, .int a2] : List Value).toArray below meth c H locs 0 0 (vx_MQ below (fw_Qi X (.inl o, M)) (fw_Qx X (.inl o, M)) ([.ref (fw_ad X 378), .int a1, .int a2] : List Value).toArray s 0 0 (fw_A X)) (F0 m 5 ls []) := by
    intro n
    induction n with
    | zero =>
      intro x3 x4 H locs ls hF B hl
      exact absurd hF (by simp [F_X9_widens_5])
    | succ n ih =>
      intro x3 x4 H locs ls hF B hl
      rw [F_X9_widens_5] at hF
      refine lv_iload hx hb dX9_widens_5 (lv_at hl 4 rfl) ?_
      refine lv_aload_n hx hb dX9_widens_7 rfl (lv_at hl 0 rfl) ?_
      refine gf_X9_9 C B dX9_widens_8 ?_
      refine lv_iconst (v := 1) hx hb dX9_widens_11 (by decide) ?_
      obtain ⟨c19, hF⟩ := of_g hF
      refine fr_ia C B ar_9_379 c19 dX9_widens_12 ?_
      refine lv_icmp_ge (tgt := 123) hx hb dX9_widens_13 (by decide) (fun c20 => ?_) (fun c20 => ?_)
      · have hF := it_t hF c20
        refine lv_iload_n hx hb dX9_widens_123 rfl (lv_at hl 3 rfl) ?_
        exact fr_iret C B hr rfl hlk (by rw [← Option.some.inj hF]) (Nat.le_of_ble_eq_true rfl) (Nat.le_of_ble_eq_true rfl) dX9_widens_124
      · have hF := it_f hF c20
        refine lv_iconst (v := 0) hx hb dX9_widens_16 (by decide) ?_
        refine lv_istore (lv' := [(5, .int 0), (0, .ref (fw_ad X 378)), (1, .int a1), (2, .int a2), (3, .int x3), (4, .int x4)]) hx hb dX9_widens_17 hl (by decide) rfl (fun ls hl => ?_)
        exact hJ19 (fun x3 x4 => F_X9_widens_5 M a1 a2 n x3 x4) (fun x3 x4 H locs ls h1 h2 h3 => ih x3 x4 H locs ls h1 h2 h3) 64 x3 x4 0 _ _ _ hF B (lv_sub hl [1, 2, 3, 4, 5, 0] rfl)
  unfold F_X9_widens at hF
  refine lv_iload_n hx hb dX9_widens_0 rfl (lv_at hl 1 rfl) ?_
  refine lv_istore_n (lv' := [(3, .int a1), (0, .ref (fw_ad X 378)), (1, .int a1), (2, .int a2)]) hx hb dX9_widens_1 rfl hl (by decide) rfl (fun ls hl => ?_)
  refine lv_iconst (v := 0) hx hb dX9_widens_2 (by decide) ?_
  refine lv_istore (lv' := [(4, .int 0), (3, .int a1), (0, .ref (fw_ad X 378)), (1, .int a1), (2, .int a2)]) hx hb dX9_widens_3 hl (by decide) rfl (fun ls hl => ?_)
  exact hJ5 64 a1 0 _ _ _ hF B (lv_sub hl [2, 3, 4, 1, 0] rfl)
def F_X9_widenings_8 (M : fw_M) (a1 : Int32) (a2 : Int32) (a3 : Int32)  : Nat → Int32 → Int32 → Option (Int32)
  | 0, _, _ => none
  | n + 1, x4, x5 =>
    if ¬ ((x4 >>> (a2 &&& 31)) &&& 1) = 0 then
      some x5
    else
      bd_x (F_X9_widens M x4 a3) fun r3 =>
      if ¬ r3 = x4 then
        F_X9_widenings_8 M a1 a2 a3 n r3 (x5 + 1)
      else
        some (-1)
def F_X9_widenings (M : fw_M) (a1 : Int32) (a2 : Int32) (a3 : Int32) : Option (Int32) :=
  F_X9_widenings_8 M a1 a2 a3 64 (1 <<< (a1 &&& 31)) 0
set_option maxHeartbeats 4000000 in
set_option maxRecDepth 100000 in
theorem cm_X9_widenings {l : Launch} {X : fw_X} {M : fw_M} {a1 : Int32} {a2 : Int32} {a3 : Int32}  {o : Int32} (hF : F_X9_widenings M a1 a2 a3 = some o) : ct_i l X yX9_widenings cX9_widenings 7 (some .int) ({ frames := 2, cells := 0, slots := 0, locals := 67 } : Room) M [.ref (fw_ad X 378), .int a1, .int a2, .int a3] (.inl o, M) := by
  refine fw_open rfl (Nat.le_of_ble_eq_true rfl) (fun p e s m below meth c ls C hr hlk hnm hex hl B => ?_)
  have C : fr_C X p c cX9_widenings 7 RX9 s m ([.ref (fw_ad X 378), .int a1, .int a2, .int a3] : List Value).toArray := C
  have hx := C.1.1
  have hb := C.1.2.1
  have hl : lv_has ls 7 [(0, .ref (fw_ad X 378)), (1, .int a1), (2, .int a2), (3, .int a3)] := hl
  have hJ8 : ∀ (n : Nat), ∀ (x4 : Int32) (x5 : Int32) (H : Heap) (locs : List Loc) (ls : Array Slot), F_X9_widenings_8 M a1 a2 a3 n x4 x5 = some o → fr_H X s M H locs → lv_has ls 7 [(0, .ref (fw_ad X 378)), (2, .int a2), (3, .int a3), (4, .int x4), (5, .int x5)] → W p l e ({ frames := 2, cells := 0, slots := 0, locals := 67 } : Room) s m ([.ref (fw_ad X 378), .int a1, .int a2, .int a3] : List Value).toArray below meth c H locs 0 0 (vx_MQ below (fw_Qi X (.inl o, M)) (fw_Qx X (.inl o, M)) ([.ref (fw_ad X 378), .int a1, .int a2, .int a3] : List Value).toArray s 0 0 (fw_A X)) (F0 m 8 ls []) := by
    intro n
    induction n with
    | zero =>
      intro x4 x5 H locs ls hF B hl
      exact absurd hF (by simp [F_X9_widenings_8])
    | succ n ih =>
      intro x4 x5 H locs ls hF B hl
      rw [F_X9_widenings_8] at hF
      refine lv_iload hx hb dX9_widenings_8 (lv_at hl 3 rfl) ?_
      refine lv_iload_n hx hb dX9_widenings_10 rfl (lv_at hl 1 rfl) ?_
      refine lv_ishr hx hb dX9_widenings_11 ?_
      refine lv_iconst (v := 1) hx hb dX9_widenings_12 (by decide) ?_
      refine lv_iand hx hb dX9_widenings_13 ?_
      refine lv_if_ne (tgt := 45) hx hb dX9_widenings_14 (by decide) (fun c1 => ?_) (fun c1 => ?_)
      · have hF := it_t hF c1
        refine lv_iload hx hb dX9_widenings_45 (lv_at hl 4 rfl) ?_
        exact fr_iret C B hr rfl hlk (by rw [← Option.some.inj hF]) (Nat.le_of_ble_eq_true rfl) (Nat.le_of_ble_eq_true rfl) dX9_widenings_47
      · have hF := it_f hF (not_not_intro c1)
        refine lv_aload_n hx hb dX9_widenings_17 rfl (lv_at hl 0 rfl) ?_
        refine lv_iload hx hb dX9_widenings_18 (lv_at hl 3 rfl) ?_
        refine lv_iload_n hx hb dX9_widenings_20 rfl (lv_at hl 2 rfl) ?_
        obtain ⟨r3, hf2, hF⟩ := bx_e hF
        refine fr_cVi (As := [.int x4, .int a3]) (rest := []) C B (cm_X9_widens hf2) ob_9 rfl yw_X9_widens wm_X9_179 rfl hl.1 rfl (Nat.le_of_ble_eq_true rfl) ⟨Nat.le_of_ble_eq_true rfl, Nat.le_of_ble_eq_true rfl⟩ ⟨Nat.le_of_ble_eq_true rfl, Nat.le_of_ble_eq_true rfl⟩ dX9_widenings_21 (fr_nx rfl) (fun r9 M9 H locs ho9 B => ?_)
        obtain ⟨rfl, rfl⟩ := oi_e ho9
        refine lv_istore (lv' := [(6, .int r3), (0, .ref (fw_ad X 378)), (2, .int a2), (3, .int a3), (4, .int x4), (5, .int x5)]) hx hb dX9_widenings_24 hl (by decide) rfl (fun ls hl => ?_)
        refine lv_iload hx hb dX9_widenings_26 (lv_at hl 0 rfl) ?_
        refine lv_iload hx hb dX9_widenings_28 (lv_at hl 4 rfl) ?_
        refine lv_icmp_ne (tgt := 35) hx hb dX9_widenings_30 (by decide) (fun c5 => ?_) (fun c5 => ?_)
        · have hF := it_t hF c5
          refine lv_iload hx hb dX9_widenings_35 (lv_at hl 0 rfl) ?_
          refine lv_istore (lv' := [(4, .int r3), (6, .int r3), (0, .ref (fw_ad X 378)), (2, .int a2), (3, .int a3), (5, .int x5)]) hx hb dX9_widenings_37 hl (by decide) rfl (fun ls hl => ?_)
          refine lv_iinc (v := (x5 + 1)) (lv' := [(5, .int (x5 + 1)), (4, .int r3), (6, .int r3), (0, .ref (fw_ad X 378)), (2, .int a2), (3, .int a3)]) hx hb dX9_widenings_39 hl (k := 5) rfl rfl (by decide) rfl (fun ls hl => ?_)
          refine lv_goto (tgt := 8) hx hb dX9_widenings_42 (by decide) ?_
          exact ih r3 (x5 + 1) _ _ _ hF B (lv_sub hl [3, 4, 5, 1, 0] rfl)
        · have hF := it_f hF (not_not_intro c5)
          refine lv_iconst (v := (-1)) hx hb dX9_widenings_33 (by decide) ?_
          exact fr_iret C B hr rfl hlk (by rw [← Option.some.inj hF]) (Nat.le_of_ble_eq_true rfl) (Nat.le_of_ble_eq_true rfl) dX9_widenings_34
  unfold F_X9_widenings at hF
  refine lv_iconst (v := 1) hx hb dX9_widenings_0 (by decide) ?_
  refine lv_iload_n hx hb dX9_widenings_1 rfl (lv_at hl 1 rfl) ?_
  refine lv_ishl hx hb dX9_widenings_2 ?_
  refine lv_istore (lv' := [(4, .int (1 <<< (a1 &&& 31))), (0, .ref (fw_ad X 378)), (1, .int a1), (2, .int a2), (3, .int a3)]) hx hb dX9_widenings_3 hl (by decide) rfl (fun ls hl => ?_)
  refine lv_iconst (v := 0) hx hb dX9_widenings_5 (by decide) ?_
  refine lv_istore (lv' := [(5, .int 0), (4, .int (1 <<< (a1 &&& 31))), (0, .ref (fw_ad X 378)), (1, .int a1), (2, .int a2), (3, .int a3)]) hx hb dX9_widenings_6 hl (by decide) rfl (fun ls hl => ?_)
  exact hJ8 64 (1 <<< (a1 &&& 31)) 0 _ _ _ hF B (lv_sub hl [2, 4, 5, 1, 0] rfl)
def F_X9_distance (M : fw_M) (a1 : Int32) (a2 : Int32) : Option (Int32 × fw_M) :=
  bd_x (F_X9_isStop M a1) fun r2 =>
  if r2 = 0 then
    bd_p (F_X9_fails M 1) fun r6 M7 =>
    some (r6, M7)
  else
    bd_x (F_X9_isStop M a2) fun r9 =>
    if ¬ r9 = 0 then
      bd_x (F_X9_widenings M a1 a2 1) fun r13 =>
      if 0 ≤ r13 then
        lt_x (fw_up M 378 6 0) fun M16 =>
        if (M16 378 6) ≤ 0 then
          some (r13, M16)
        else
          some (0, M16)
      else
        lt_x (fw_up M 378 6 2) fun M18 =>
        if (M18 378 6) ≤ 0 then
          some (r13, M18)
        else
          some (0, M18)
    else
      bd_p (F_X9_fails M 1) fun r21 M22 =>
      some (r21, M22)
set_option maxHeartbeats 4000000 in
set_option maxRecDepth 100000 in
theorem cm_X9_distance {l : Launch} {X : fw_X} {M : fw_M} {a1 : Int32} {a2 : Int32}  {o : Int32 × fw_M} (hF : F_X9_distance M a1 a2 = some o) : ct_i l X yX9_distance cX9_distance 4 (some .int) ({ frames := 3, cells := 0, slots := 0, locals := 93 } : Room) M [.ref (fw_ad X 378), .int a1, .int a2] (.inl o.1, o.2) := by
  refine fw_open rfl (Nat.le_of_ble_eq_true rfl) (fun p e s m below meth c ls C hr hlk hnm hex hl B => ?_)
  have C : fr_C X p c cX9_distance 4 RX9 s m ([.ref (fw_ad X 378), .int a1, .int a2] : List Value).toArray := C
  have hx := C.1.1
  have hb := C.1.2.1
  have hl : lv_has ls 4 [(0, .ref (fw_ad X 378)), (1, .int a1), (2, .int a2)] := hl
  unfold F_X9_distance at hF
  refine lv_aload_n hx hb dX9_distance_0 rfl (lv_at hl 0 rfl) ?_
  refine lv_iload_n hx hb dX9_distance_1 rfl (lv_at hl 1 rfl) ?_
  obtain ⟨r2, hf1, hF⟩ := bx_e hF
  refine fr_cVi (As := [.int a1]) (rest := []) C B (cm_X9_isStop hf1) ob_9 rfl yw_X9_isStop wm_X9_75 rfl hl.1 rfl (Nat.le_of_ble_eq_true rfl) ⟨Nat.le_of_ble_eq_true rfl, Nat.le_of_ble_eq_true rfl⟩ ⟨Nat.le_of_ble_eq_true rfl, Nat.le_of_ble_eq_true rfl⟩ dX9_distance_2 (fr_nx rfl) (fun r9 M9 H locs ho9 B => ?_)
  obtain ⟨rfl, rfl⟩ := oi_e ho9
  refine lv_if_eq (tgt := 16) hx hb dX9_distance_5 (by decide) (fun c4 => ?_) (fun c4 => ?_)
  · have hF := it_t hF c4
    refine lv_aload_n hx hb dX9_distance_16 rfl (lv_at hl 0 rfl) ?_
    refine lv_iconst (v := 1) hx hb dX9_distance_17 (by decide) ?_
    obtain ⟨r6, M7, hf5, hF⟩ := bp_e hF
    refine fr_cVi (As := [.int 1]) (rest := []) C B (cm_X9_fails hf5) ob_9 rfl yw_X9_fails wm_X9_63 rfl hl.1 rfl (Nat.le_of_ble_eq_true rfl) ⟨Nat.le_of_ble_eq_true rfl, Nat.le_of_ble_eq_true rfl⟩ ⟨Nat.le_of_ble_eq_true rfl, Nat.le_of_ble_eq_true rfl⟩ dX9_distance_18 (fr_nx rfl) (fun r9 M9 H locs ho9 B => ?_)
    obtain ⟨rfl, rfl⟩ := oi_e ho9
    exact fr_iret C B hr rfl hlk (by rw [← Option.some.inj hF]) (Nat.le_of_ble_eq_true rfl) (Nat.le_of_ble_eq_true rfl) dX9_distance_21
  · have hF := it_f hF c4
    refine lv_aload_n hx hb dX9_distance_8 rfl (lv_at hl 0 rfl) ?_
    refine lv_iload_n hx hb dX9_distance_9 rfl (lv_at hl 2 rfl) ?_
    obtain ⟨r9, hf8, hF⟩ := bx_e hF
    refine fr_cVi (As := [.int a2]) (rest := []) C B (cm_X9_isStop hf8) ob_9 rfl yw_X9_isStop wm_X9_75 rfl hl.1 rfl (Nat.le_of_ble_eq_true rfl) ⟨Nat.le_of_ble_eq_true rfl, Nat.le_of_ble_eq_true rfl⟩ ⟨Nat.le_of_ble_eq_true rfl, Nat.le_of_ble_eq_true rfl⟩ dX9_distance_10 (fr_nx rfl) (fun r9 M9 H locs ho9 B => ?_)
    obtain ⟨rfl, rfl⟩ := oi_e ho9
    refine lv_if_ne (tgt := 22) hx hb dX9_distance_13 (by decide) (fun c11 => ?_) (fun c11 => ?_)
    · have hF := it_t hF c11
      refine lv_aload_n hx hb dX9_distance_22 rfl (lv_at hl 0 rfl) ?_
      refine lv_iload_n hx hb dX9_distance_23 rfl (lv_at hl 1 rfl) ?_
      refine lv_iload_n hx hb dX9_distance_24 rfl (lv_at hl 2 rfl) ?_
      refine lv_iconst (v := 1) hx hb dX9_distance_25 (by decide) ?_
      obtain ⟨r13, hf12, hF⟩ := bx_e hF
      refine fr_cVi (As := [.int a1, .int a2, .int 1]) (rest := []) C B (cm_X9_widenings hf12) ob_9 rfl yw_X9_widenings wm_X9_183 rfl hl.1 rfl (Nat.le_of_ble_eq_true rfl) ⟨Nat.le_of_ble_eq_true rfl, Nat.le_of_ble_eq_true rfl⟩ ⟨Nat.le_of_ble_eq_true rfl, Nat.le_of_ble_eq_true rfl⟩ dX9_distance_26 (fr_nx rfl) (fun r9 M9 H locs ho9 B => ?_)
      obtain ⟨rfl, rfl⟩ := oi_e ho9
      refine lv_istore_n (lv' := [(3, .int r13), (0, .ref (fw_ad X 378)), (1, .int a1), (2, .int a2)]) hx hb dX9_distance_29 rfl hl (by decide) rfl (fun ls hl => ?_)
      refine lv_aload_n hx hb dX9_distance_30 rfl (lv_at hl 1 rfl) ?_
      refine lv_iload_n hx hb dX9_distance_31 rfl (lv_at hl 0 rfl) ?_
      refine lv_if_ge (tgt := 39) hx hb dX9_distance_32 (by decide) (fun c15 => ?_) (fun c15 => ?_)
      · have hF := it_t hF c15
        refine lv_iconst (v := 0) hx hb dX9_distance_39 (by decide) ?_
        refine pf_X9_39 C B dX9_distance_40 (fun H locs B => ?_)
        obtain ⟨M16, eM16, hF⟩ := lt_e hF
        rw [← eM16] at B
        refine lv_aload_n hx hb dX9_distance_43 rfl (lv_at hl 1 rfl) ?_
        refine gf_X9_39 C B dX9_distance_44 ?_
        refine lv_if_le (tgt := 54) hx hb dX9_distance_47 (by decide) (fun c17 => ?_) (fun c17 => ?_)
        · have hF := it_t hF c17
          refine lv_iload_n hx hb dX9_distance_54 rfl (lv_at hl 0 rfl) ?_
          exact fr_iret C B hr rfl hlk (by rw [← Option.some.inj hF]) (Nat.le_of_ble_eq_true rfl) (Nat.le_of_ble_eq_true rfl) dX9_distance_55
        · have hF := it_f hF c17
          refine lv_iconst (v := 0) hx hb dX9_distance_50 (by decide) ?_
          refine lv_goto (tgt := 55) hx hb dX9_distance_51 (by decide) ?_
          exact fr_iret C B hr rfl hlk (by rw [← Option.some.inj hF]) (Nat.le_of_ble_eq_true rfl) (Nat.le_of_ble_eq_true rfl) dX9_distance_55
      · have hF := it_f hF c15
        refine lv_iconst (v := 2) hx hb dX9_distance_35 (by decide) ?_
        refine lv_goto (tgt := 40) hx hb dX9_distance_36 (by decide) ?_
        refine pf_X9_39 C B dX9_distance_40 (fun H locs B => ?_)
        obtain ⟨M18, eM18, hF⟩ := lt_e hF
        rw [← eM18] at B
        refine lv_aload_n hx hb dX9_distance_43 rfl (lv_at hl 1 rfl) ?_
        refine gf_X9_39 C B dX9_distance_44 ?_
        refine lv_if_le (tgt := 54) hx hb dX9_distance_47 (by decide) (fun c19 => ?_) (fun c19 => ?_)
        · have hF := it_t hF c19
          refine lv_iload_n hx hb dX9_distance_54 rfl (lv_at hl 0 rfl) ?_
          exact fr_iret C B hr rfl hlk (by rw [← Option.some.inj hF]) (Nat.le_of_ble_eq_true rfl) (Nat.le_of_ble_eq_true rfl) dX9_distance_55
        · have hF := it_f hF c19
          refine lv_iconst (v := 0) hx hb dX9_distance_50 (by decide) ?_
          refine lv_goto (tgt := 55) hx hb dX9_distance_51 (by decide) ?_
          exact fr_iret C B hr rfl hlk (by rw [← Option.some.inj hF]) (Nat.le_of_ble_eq_true rfl) (Nat.le_of_ble_eq_true rfl) dX9_distance_55
    · have hF := it_f hF (not_not_intro c11)
      refine lv_aload_n hx hb dX9_distance_16 rfl (lv_at hl 0 rfl) ?_
      refine lv_iconst (v := 1) hx hb dX9_distance_17 (by decide) ?_
      obtain ⟨r21, M22, hf20, hF⟩ := bp_e hF
      refine fr_cVi (As := [.int 1]) (rest := []) C B (cm_X9_fails hf20) ob_9 rfl yw_X9_fails wm_X9_63 rfl hl.1 rfl (Nat.le_of_ble_eq_true rfl) ⟨Nat.le_of_ble_eq_true rfl, Nat.le_of_ble_eq_true rfl⟩ ⟨Nat.le_of_ble_eq_true rfl, Nat.le_of_ble_eq_true rfl⟩ dX9_distance_18 (fr_nx rfl) (fun r9 M9 H locs ho9 B => ?_)
      obtain ⟨rfl, rfl⟩ := oi_e ho9
      exact fr_iret C B hr rfl hlk (by rw [← Option.some.inj hF]) (Nat.le_of_ble_eq_true rfl) (Nat.le_of_ble_eq_true rfl) dX9_distance_21
def F_X9_distanceByRelaxation (M : fw_M) (a1 : Int32) (a2 : Int32) : Option (Int32 × fw_M) :=
  bd_p (F_X9_distance M a1 a2) fun r2 M3 =>
  some (r2, M3)
set_option maxHeartbeats 4000000 in
set_option maxRecDepth 100000 in
theorem cm_X9_distanceByRelaxation {l : Launch} {X : fw_X} {M : fw_M} {a1 : Int32} {a2 : Int32}  {o : Int32 × fw_M} (hF : F_X9_distanceByRelaxation M a1 a2 = some o) : ct_i l X yX9_distanceByRelaxation cX9_distanceByRelaxation 3 (some .int) ({ frames := 4, cells := 0, slots := 0, locals := 116 } : Room) M [.ref (fw_ad X 378), .int a1, .int a2] (.inl o.1, o.2) := by
  refine fw_open rfl (Nat.le_of_ble_eq_true rfl) (fun p e s m below meth c ls C hr hlk hnm hex hl B => ?_)
  have C : fr_C X p c cX9_distanceByRelaxation 3 RX9 s m ([.ref (fw_ad X 378), .int a1, .int a2] : List Value).toArray := C
  have hx := C.1.1
  have hb := C.1.2.1
  have hl : lv_has ls 3 [(0, .ref (fw_ad X 378)), (1, .int a1), (2, .int a2)] := hl
  unfold F_X9_distanceByRelaxation at hF
  refine lv_aload_n hx hb dX9_distanceByRelaxation_0 rfl (lv_at hl 0 rfl) ?_
  refine lv_iload_n hx hb dX9_distanceByRelaxation_1 rfl (lv_at hl 1 rfl) ?_
  refine lv_iload_n hx hb dX9_distanceByRelaxation_2 rfl (lv_at hl 2 rfl) ?_
  obtain ⟨r2, M3, hf1, hF⟩ := bp_e hF
  refine fr_cVi (As := [.int a1, .int a2]) (rest := []) C B (cm_X9_distance hf1) ob_9 rfl yw_X9_distance wm_X9_187 rfl hl.1 rfl (Nat.le_of_ble_eq_true rfl) ⟨Nat.le_of_ble_eq_true rfl, Nat.le_of_ble_eq_true rfl⟩ ⟨Nat.le_of_ble_eq_true rfl, Nat.le_of_ble_eq_true rfl⟩ dX9_distanceByRelaxation_3 (fr_nx rfl) (fun r9 M9 H locs ho9 B => ?_)
  obtain ⟨rfl, rfl⟩ := oi_e ho9
  exact fr_iret C B hr rfl hlk (by rw [← Option.some.inj hF]) (Nat.le_of_ble_eq_true rfl) (Nat.le_of_ble_eq_true rfl) dX9_distanceByRelaxation_6
def F_X9_changes (M : fw_M) (a1 : Int32) (a2 : Int32) : Option (Int32 × fw_M) :=
  bd_x (F_X9_isStop M a1) fun r2 =>
  if r2 = 0 then
    bd_p (F_X9_fails M 1) fun r6 M7 =>
    some (r6, M7)
  else
    bd_x (F_X9_isStop M a2) fun r9 =>
    if ¬ r9 = 0 then
      bd_x (F_X9_widenings M a1 a2 0) fun r13 =>
      if 0 ≤ r13 then
        lt_x (fw_up M 378 6 0) fun M16 =>
        if (M16 378 6) ≤ 0 then
          some ((if 0 < (r13 - 1) then (r13 - 1) else 0), M16)
        else
          some (0, M16)
      else
        lt_x (fw_up M 378 6 2) fun M18 =>
        if (M18 378 6) ≤ 0 then
          some ((if 0 < (r13 - 1) then (r13 - 1) else 0), M18)
        else
          some (0, M18)
    else
      bd_p (F_X9_fails M 1) fun r21 M22 =>
      some (r21, M22)
set_option maxHeartbeats 4000000 in
set_option maxRecDepth 100000 in
theorem cm_X9_changes {l : Launch} {X : fw_X} {M : fw_M} {a1 : Int32} {a2 : Int32}  {o : Int32 × fw_M} (hF : F_X9_changes M a1 a2 = some o) : ct_i l X yX9_changes cX9_changes 4 (some .int) ({ frames := 3, cells := 0, slots := 0, locals := 93 } : Room) M [.ref (fw_ad X 378), .int a1, .int a2] (.inl o.1, o.2) := by
  refine fw_open rfl (Nat.le_of_ble_eq_true rfl) (fun p e s m below meth c ls C hr hlk hnm hex hl B => ?_)
  have C : fr_C X p c cX9_changes 4 RX9 s m ([.ref (fw_ad X 378), .int a1, .int a2] : List Value).toArray := C
  have hx := C.1.1
  have hb := C.1.2.1
  have hl : lv_has ls 4 [(0, .ref (fw_ad X 378)), (1, .int a1), (2, .int a2)] := hl
  unfold F_X9_changes at hF
  refine lv_aload_n hx hb dX9_changes_0 rfl (lv_at hl 0 rfl) ?_
  refine lv_iload_n hx hb dX9_changes_1 rfl (lv_at hl 1 rfl) ?_
  obtain ⟨r2, hf1, hF⟩ := bx_e hF
  refine fr_cVi (As := [.int a1]) (rest := []) C B (cm_X9_isStop hf1) ob_9 rfl yw_X9_isStop wm_X9_75 rfl hl.1 rfl (Nat.le_of_ble_eq_true rfl) ⟨Nat.le_of_ble_eq_true rfl, Nat.le_of_ble_eq_true rfl⟩ ⟨Nat.le_of_ble_eq_true rfl, Nat.le_of_ble_eq_true rfl⟩ dX9_changes_2 (fr_nx rfl) (fun r9 M9 H locs ho9 B => ?_)
  obtain ⟨rfl, rfl⟩ := oi_e ho9
  refine lv_if_eq (tgt := 16) hx hb dX9_changes_5 (by decide) (fun c4 => ?_) (fun c4 => ?_)
  · have hF := it_t hF c4
    refine lv_aload_n hx hb dX9_changes_16 rfl (lv_at hl 0 rfl) ?_
    refine lv_iconst (v := 1) hx hb dX9_changes_17 (by decide) ?_
    obtain ⟨r6, M7, hf5, hF⟩ := bp_e hF
    refine fr_cVi (As := [.int 1]) (rest := []) C B (cm_X9_fails hf5) ob_9 rfl yw_X9_fails wm_X9_63 rfl hl.1 rfl (Nat.le_of_ble_eq_true rfl) ⟨Nat.le_of_ble_eq_true rfl, Nat.le_of_ble_eq_true rfl⟩ ⟨Nat.le_of_ble_eq_true rfl, Nat.le_of_ble_eq_true rfl⟩ dX9_changes_18 (fr_nx rfl) (fun r9 M9 H locs ho9 B => ?_)
    obtain ⟨rfl, rfl⟩ := oi_e ho9
    exact fr_iret C B hr rfl hlk (by rw [← Option.some.inj hF]) (Nat.le_of_ble_eq_true rfl) (Nat.le_of_ble_eq_true rfl) dX9_changes_21
  · have hF := it_f hF c4
    refine lv_aload_n hx hb dX9_changes_8 rfl (lv_at hl 0 rfl) ?_
    refine lv_iload_n hx hb dX9_changes_9 rfl (lv_at hl 2 rfl) ?_
    obtain ⟨r9, hf8, hF⟩ := bx_e hF
    refine fr_cVi (As := [.int a2]) (rest := []) C B (cm_X9_isStop hf8) ob_9 rfl yw_X9_isStop wm_X9_75 rfl hl.1 rfl (Nat.le_of_ble_eq_true rfl) ⟨Nat.le_of_ble_eq_true rfl, Nat.le_of_ble_eq_true rfl⟩ ⟨Nat.le_of_ble_eq_true rfl, Nat.le_of_ble_eq_true rfl⟩ dX9_changes_10 (fr_nx rfl) (fun r9 M9 H locs ho9 B => ?_)
    obtain ⟨rfl, rfl⟩ := oi_e ho9
    refine lv_if_ne (tgt := 22) hx hb dX9_changes_13 (by decide) (fun c11 => ?_) (fun c11 => ?_)
    · have hF := it_t hF c11
      refine lv_aload_n hx hb dX9_changes_22 rfl (lv_at hl 0 rfl) ?_
      refine lv_iload_n hx hb dX9_changes_23 rfl (lv_at hl 1 rfl) ?_
      refine lv_iload_n hx hb dX9_changes_24 rfl (lv_at hl 2 rfl) ?_
      refine lv_iconst (v := 0) hx hb dX9_changes_25 (by decide) ?_
      obtain ⟨r13, hf12, hF⟩ := bx_e hF
      refine fr_cVi (As := [.int a1, .int a2, .int 0]) (rest := []) C B (cm_X9_widenings hf12) ob_9 rfl yw_X9_widenings wm_X9_183 rfl hl.1 rfl (Nat.le_of_ble_eq_true rfl) ⟨Nat.le_of_ble_eq_true rfl, Nat.le_of_ble_eq_true rfl⟩ ⟨Nat.le_of_ble_eq_true rfl, Nat.le_of_ble_eq_true rfl⟩ dX9_changes_26 (fr_nx rfl) (fun r9 M9 H locs ho9 B => ?_)
      obtain ⟨rfl, rfl⟩ := oi_e ho9
      refine lv_istore_n (lv' := [(3, .int r13), (0, .ref (fw_ad X 378)), (1, .int a1), (2, .int a2)]) hx hb dX9_changes_29 rfl hl (by decide) rfl (fun ls hl => ?_)
      refine lv_aload_n hx hb dX9_changes_30 rfl (lv_at hl 1 rfl) ?_
      refine lv_iload_n hx hb dX9_changes_31 rfl (lv_at hl 0 rfl) ?_
      refine lv_if_ge (tgt := 39) hx hb dX9_changes_32 (by decide) (fun c15 => ?_) (fun c15 => ?_)
      · have hF := it_t hF c15
        refine lv_iconst (v := 0) hx hb dX9_changes_39 (by decide) ?_
        refine pf_X9_39 C B dX9_changes_40 (fun H locs B => ?_)
        obtain ⟨M16, eM16, hF⟩ := lt_e hF
        rw [← eM16] at B
        refine lv_aload_n hx hb dX9_changes_43 rfl (lv_at hl 1 rfl) ?_
        refine gf_X9_39 C B dX9_changes_44 ?_
        refine lv_if_le (tgt := 54) hx hb dX9_changes_47 (by decide) (fun c17 => ?_) (fun c17 => ?_)
        · have hF := it_t hF c17
          refine lv_iconst (v := 0) hx hb dX9_changes_54 (by decide) ?_
          refine lv_iload_n hx hb dX9_changes_55 rfl (lv_at hl 0 rfl) ?_
          refine lv_iconst (v := 1) hx hb dX9_changes_56 (by decide) ?_
          refine lv_isub hx hb dX9_changes_57 ?_
          refine va_mmax hx hb (C.1.2.2.1.trans hl.1.symm) C.1.2.2.2.1 (C.1.2.2.2.2 _ wm_X9_190) (C.1.2.2.2.2 _ wt_Mmax) (C.1.2.2.2.2 _ wi_Math) (C.1.2.2.2.2 _ wc_Mmax) (Nat.le_of_ble_eq_true rfl) (Nat.le_of_ble_eq_true rfl) (Nat.le_of_ble_eq_true rfl) (Nat.le_of_ble_eq_true rfl) dX9_changes_58 ?_
          exact fr_iret C B hr rfl hlk (by rw [← Option.some.inj hF]) (Nat.le_of_ble_eq_true rfl) (Nat.le_of_ble_eq_true rfl) dX9_changes_61
        · have hF := it_f hF c17
          refine lv_iconst (v := 0) hx hb dX9_changes_50 (by decide) ?_
          refine lv_goto (tgt := 61) hx hb dX9_changes_51 (by decide) ?_
          exact fr_iret C B hr rfl hlk (by rw [← Option.some.inj hF]) (Nat.le_of_ble_eq_true rfl) (Nat.le_of_ble_eq_true rfl) dX9_changes_61
      · have hF := it_f hF c15
        refine lv_iconst (v := 2) hx hb dX9_changes_35 (by decide) ?_
        refine lv_goto (tgt := 40) hx hb dX9_changes_36 (by decide) ?_
        refine pf_X9_39 C B dX9_changes_40 (fun H locs B => ?_)
        obtain ⟨M18, eM18, hF⟩ := lt_e hF
        rw [← eM18] at B
        refine lv_aload_n hx hb dX9_changes_43 rfl (lv_at hl 1 rfl) ?_
        refine gf_X9_39 C B dX9_changes_44 ?_
        refine lv_if_le (tgt := 54) hx hb dX9_changes_47 (by decide) (fun c19 => ?_) (fun c19 => ?_)
        · have hF := it_t hF c19
          refine lv_iconst (v := 0) hx hb dX9_changes_54 (by decide) ?_
          refine lv_iload_n hx hb dX9_changes_55 rfl (lv_at hl 0 rfl) ?_
          refine lv_iconst (v := 1) hx hb dX9_changes_56 (by decide) ?_
          refine lv_isub hx hb dX9_changes_57 ?_
          refine va_mmax hx hb (C.1.2.2.1.trans hl.1.symm) C.1.2.2.2.1 (C.1.2.2.2.2 _ wm_X9_190) (C.1.2.2.2.2 _ wt_Mmax) (C.1.2.2.2.2 _ wi_Math) (C.1.2.2.2.2 _ wc_Mmax) (Nat.le_of_ble_eq_true rfl) (Nat.le_of_ble_eq_true rfl) (Nat.le_of_ble_eq_true rfl) (Nat.le_of_ble_eq_true rfl) dX9_changes_58 ?_
          exact fr_iret C B hr rfl hlk (by rw [← Option.some.inj hF]) (Nat.le_of_ble_eq_true rfl) (Nat.le_of_ble_eq_true rfl) dX9_changes_61
        · have hF := it_f hF c19
          refine lv_iconst (v := 0) hx hb dX9_changes_50 (by decide) ?_
          refine lv_goto (tgt := 61) hx hb dX9_changes_51 (by decide) ?_
          exact fr_iret C B hr rfl hlk (by rw [← Option.some.inj hF]) (Nat.le_of_ble_eq_true rfl) (Nat.le_of_ble_eq_true rfl) dX9_changes_61
    · have hF := it_f hF (not_not_intro c11)
      refine lv_aload_n hx hb dX9_changes_16 rfl (lv_at hl 0 rfl) ?_
      refine lv_iconst (v := 1) hx hb dX9_changes_17 (by decide) ?_
      obtain ⟨r21, M22, hf20, hF⟩ := bp_e hF
      refine fr_cVi (As := [.int 1]) (rest := []) C B (cm_X9_fails hf20) ob_9 rfl yw_X9_fails wm_X9_63 rfl hl.1 rfl (Nat.le_of_ble_eq_true rfl) ⟨Nat.le_of_ble_eq_true rfl, Nat.le_of_ble_eq_true rfl⟩ ⟨Nat.le_of_ble_eq_true rfl, Nat.le_of_ble_eq_true rfl⟩ dX9_changes_18 (fr_nx rfl) (fun r9 M9 H locs ho9 B => ?_)
      obtain ⟨rfl, rfl⟩ := oi_e ho9
      exact fr_iret C B hr rfl hlk (by rw [← Option.some.inj hF]) (Nat.le_of_ble_eq_true rfl) (Nat.le_of_ble_eq_true rfl) dX9_changes_21
def F_X9_changesByGrowth (M : fw_M) (a1 : Int32) (a2 : Int32) : Option (Int32 × fw_M) :=
  bd_p (F_X9_changes M a1 a2) fun r2 M3 =>
  some (r2, M3)
set_option maxHeartbeats 4000000 in
set_option maxRecDepth 100000 in
theorem cm_X9_changesByGrowth {l : Launch} {X : fw_X} {M : fw_M} {a1 : Int32} {a2 : Int32}  {o : Int32 × fw_M} (hF : F_X9_changesByGrowth M a1 a2 = some o) : ct_i l X yX9_changesByGrowth cX9_changesByGrowth 3 (some .int) ({ frames := 4, cells := 0, slots := 0, locals := 116 } : Room) M [.ref (fw_ad X 378), .int a1, .int a2] (.inl o.1, o.2) := by
  refine fw_open rfl (Nat.le_of_ble_eq_true rfl) (fun p e s m below meth c ls C hr hlk hnm hex hl B => ?_)
  have C : fr_C X p c cX9_changesByGrowth 3 RX9 s m ([.ref (fw_ad X 378), .int a1, .int a2] : List Value).toArray := C
  have hx := C.1.1
  have hb := C.1.2.1
  have hl : lv_has ls 3 [(0, .ref (fw_ad X 378)), (1, .int a1), (2, .int a2)] := hl
  unfold F_X9_changesByGrowth at hF
  refine lv_aload_n hx hb dX9_changesByGrowth_0 rfl (lv_at hl 0 rfl) ?_
  refine lv_iload_n hx hb dX9_changesByGrowth_1 rfl (lv_at hl 1 rfl) ?_
  refine lv_iload_n hx hb dX9_changesByGrowth_2 rfl (lv_at hl 2 rfl) ?_
  obtain ⟨r2, M3, hf1, hF⟩ := bp_e hF
  refine fr_cVi (As := [.int a1, .int a2]) (rest := []) C B (cm_X9_changes hf1) ob_9 rfl yw_X9_changes wm_X9_193 rfl hl.1 rfl (Nat.le_of_ble_eq_true rfl) ⟨Nat.le_of_ble_eq_true rfl, Nat.le_of_ble_eq_true rfl⟩ ⟨Nat.le_of_ble_eq_true rfl, Nat.le_of_ble_eq_true rfl⟩ dX9_changesByGrowth_3 (fr_nx rfl) (fun r9 M9 H locs ho9 B => ?_)
  obtain ⟨rfl, rfl⟩ := oi_e ho9
  exact fr_iret C B hr rfl hlk (by rw [← Option.some.inj hF]) (Nat.le_of_ble_eq_true rfl) (Nat.le_of_ble_eq_true rfl) dX9_changesByGrowth_6
def F_X9_says (M : fw_M) (a1 : Int32) : Option (fw_M) :=
  if ix_i (M 378 8) 40 then
  lt_x (fw_wi M 383 (M 378 8) (fw_nc a1)) fun M2 =>
  lt_x (fw_up M2 378 8 ((M2 378 8) + 1)) fun M3 =>
  some M3
  else none
set_option maxHeartbeats 4000000 in
set_option maxRecDepth 100000 in
theorem cm_X9_says {l : Launch} {X : fw_X} {M : fw_M} {a1 : Int32}  {o : fw_M} (hF : F_X9_says M a1 = some o) : ct_v l X yX9_says cX9_says 2 none ({ frames := 0, cells := 0, slots := 0, locals := 0 } : Room) M [.ref (fw_ad X 378), .int a1] (.inl 0, o) := by
  refine fw_open rfl (Nat.le_of_ble_eq_true rfl) (fun p e s m below meth c ls C hr hlk hnm hex hl B => ?_)
  have C : fr_C X p c cX9_says 2 RX9 s m ([.ref (fw_ad X 378), .int a1] : List Value).toArray := C
  have hx := C.1.1
  have hb := C.1.2.1
  have hl : lv_has ls 2 [(0, .ref (fw_ad X 378)), (1, .int a1)] := hl
  unfold F_X9_says at hF
  refine lv_aload_n hx hb dX9_says_0 rfl (lv_at hl 0 rfl) ?_
  refine gf_X9_22 C B dX9_says_1 ?_
  refine lv_aload_n hx hb dX9_says_4 rfl (lv_at hl 0 rfl) ?_
  refine gf_X9_196 C B dX9_says_5 ?_
  refine lv_iload_n hx hb dX9_says_8 rfl (lv_at hl 1 rfl) ?_
  obtain ⟨c1, hF⟩ := of_g hF
  refine fr_cs C B ar_9_383 c1 dX9_says_9 (fun H locs B => ?_)
  obtain ⟨M2, eM2, hF⟩ := lt_e hF
  rw [← eM2] at B
  refine lv_aload_n hx hb dX9_says_10 rfl (lv_at hl 0 rfl) ?_
  refine lv_dup hx hb dX9_says_11 rfl ?_
  refine gf_X9_196 C B dX9_says_12 ?_
  refine lv_iconst (v := 1) hx hb dX9_says_15 (by decide) ?_
  refine lv_iadd hx hb dX9_says_16 ?_
  refine pf_X9_196 C B dX9_says_17 (fun H locs B => ?_)
  obtain ⟨M3, eM3, hF⟩ := lt_e hF
  rw [← eM3] at B
  exact fr_vret C B hr hlk (by rw [← Option.some.inj hF]) (Nat.le_of_ble_eq_true rfl) (Nat.le_of_ble_eq_true rfl) dX9_says_20
def F_X9_saysNumber_v0 (M : fw_M) (a1 : Int32) : Option (fw_M) :=
  if a1 ≤ 9 then
    bd_x (F_X9_says M (((48 + (a1 - a1 / 10 * 10)).toUInt32 % 65536).toInt32)) fun M4 =>
    some M4
  else
    none
set_option maxHeartbeats 4000000 in
set_option maxRecDepth 100000 in
theorem cm_X9_saysNumber_v0 {l : Launch} {X : fw_X} {M : fw_M} {a1 : Int32}  {o : fw_M} (hF : F_X9_saysNumber_v0 M a1 = some o) : ct_v l X yX9_saysNumber cX9_saysNumber 2 none ({ frames := 1, cells := 0, slots := 0, locals := 21 } : Room) M [.ref (fw_ad X 378), .int a1] (.inl 0, o) := by
  refine fw_open rfl (Nat.le_of_ble_eq_true rfl) (fun p e s m below meth c ls C hr hlk hnm hex hl B => ?_)
  have C : fr_C X p c cX9_saysNumber 2 RX9 s m ([.ref (fw_ad X 378), .int a1] : List Value).toArray := C
  have hx := C.1.1
  have hb := C.1.2.1
  have hl : lv_has ls 2 [(0, .ref (fw_ad X 378)), (1, .int a1)] := hl
  unfold F_X9_saysNumber_v0 at hF
  refine lv_iload_n hx hb dX9_saysNumber_0 rfl (lv_at hl 1 rfl) ?_
  refine lv_bipush (v := 9) hx hb dX9_saysNumber_1 (by decide) ?_
  refine lv_icmp_le (tgt := 14) hx hb dX9_saysNumber_3 (by decide) (fun c1 => ?_) (fun c1 => ?_)
  · have hF := it_t hF c1
    refine lv_aload_n hx hb dX9_saysNumber_14 rfl (lv_at hl 0 rfl) ?_
    refine lv_bipush (v := 48) hx hb dX9_saysNumber_15 (by decide) ?_
    refine lv_iload_n hx hb dX9_saysNumber_17 rfl (lv_at hl 1 rfl) ?_
    refine lv_bipush (v := 10) hx hb dX9_saysNumber_18 (by decide) ?_
    refine lv_irem hx hb dX9_saysNumber_20 (by decide) ?_
    refine lv_iadd hx hb dX9_saysNumber_21 ?_
    refine lv_i2c hx hb dX9_saysNumber_22 rfl ?_
    obtain ⟨M4, hf2, hF⟩ := bx_e hF
    refine fr_cVv (As := [.int ((48 + (a1 - a1 / 10 * 10)).toUInt32 % 65536).toInt32]) (rest := []) C B (cm_X9_says hf2) ob_9 rfl yw_X9_says wm_X9_203 rfl hl.1 rfl (Nat.le_of_ble_eq_true rfl) ⟨Nat.le_of_ble_eq_true rfl, Nat.le_of_ble_eq_true rfl⟩ ⟨Nat.le_of_ble_eq_true rfl, Nat.le_of_ble_eq_true rfl⟩ dX9_saysNumber_23 (fr_nx rfl) (fun M9 H locs ho9 B => ?_)
    obtain ⟨-, rfl⟩ := oi_e ho9
    exact fr_vret C B hr hlk (by rw [← Option.some.inj hF]) (Nat.le_of_ble_eq_true rfl) (Nat.le_of_ble_eq_true rfl) dX9_saysNumber_26
  · have hF := it_f hF c1
    refine lv_aload_n hx hb dX9_saysNumber_6 rfl (lv_at hl 0 rfl) ?_
    refine lv_iload_n hx hb dX9_saysNumber_7 rfl (lv_at hl 1 rfl) ?_
    refine lv_bipush (v := 10) hx hb dX9_saysNumber_8 (by decide) ?_
    refine lv_idiv hx hb dX9_saysNumber_10 (by decide) ?_
    cases hF
def F_X9_saysNumber_v1 (M : fw_M) (a1 : Int32) : Option (fw_M) :=
  if a1 ≤ 9 then
    bd_x (F_X9_says M (((48 + (a1 - a1 / 10 * 10)).toUInt32 % 65536).toInt32)) fun M4 =>
    some M4
  else
    bd_x (F_X9_saysNumber_v0 M (a1 / 10)) fun M7 =>
    bd_x (F_X9_says M7 (((48 + (a1 - a1 / 10 * 10)).toUInt32 % 65536).toInt32)) fun M10 =>
    some M10
set_option maxHeartbeats 4000000 in
set_option maxRecDepth 100000 in
theorem cm_X9_saysNumber_v1 {l : Launch} {X : fw_X} {M : fw_M} {a1 : Int32}  {o : fw_M} (hF : F_X9_saysNumber_v1 M a1 = some o) : ct_v l X yX9_saysNumber cX9_saysNumber 2 none ({ frames := 2, cells := 0, slots := 0, locals := 42 } : Room) M [.ref (fw_ad X 378), .int a1] (.inl 0, o) := by
  refine fw_open rfl (Nat.le_of_ble_eq_true rfl) (fun p e s m below meth c ls C hr hlk hnm hex hl B => ?_)
  have C : fr_C X p c cX9_saysNumber 2 RX9 s m ([.ref (fw_ad X 378), .int a1] : List Value).toArray := C
  have hx := C.1.1
  have hb := C.1.2.1
  have hl : lv_has ls 2 [(0, .ref (fw_ad X 378)), (1, .int a1)] := hl
  unfold F_X9_saysNumber_v1 at hF
  refine lv_iload_n hx hb dX9_saysNumber_0 rfl (lv_at hl 1 rfl) ?_
  refine lv_bipush (v := 9) hx hb dX9_saysNumber_1 (by decide) ?_
  refine lv_icmp_le (tgt := 14) hx hb dX9_saysNumber_3 (by decide) (fun c1 => ?_) (fun c1 => ?_)
  · have hF := it_t hF c1
    refine lv_aload_n hx hb dX9_saysNumber_14 rfl (lv_at hl 0 rfl) ?_
    refine lv_bipush (v := 48) hx hb dX9_saysNumber_15 (by decide) ?_
    refine lv_iload_n hx hb dX9_saysNumber_17 rfl (lv_at hl 1 rfl) ?_
    refine lv_bipush (v := 10) hx hb dX9_saysNumber_18 (by decide) ?_
    refine lv_irem hx hb dX9_saysNumber_20 (by decide) ?_
    refine lv_iadd hx hb dX9_saysNumber_21 ?_
    refine lv_i2c hx hb dX9_saysNumber_22 rfl ?_
    obtain ⟨M4, hf2, hF⟩ := bx_e hF
    refine fr_cVv (As := [.int ((48 + (a1 - a1 / 10 * 10)).toUInt32 % 65536).toInt32]) (rest := []) C B (cm_X9_says hf2) ob_9 rfl yw_X9_says wm_X9_203 rfl hl.1 rfl (Nat.le_of_ble_eq_true rfl) ⟨Nat.le_of_ble_eq_true rfl, Nat.le_of_ble_eq_true rfl⟩ ⟨Nat.le_of_ble_eq_true rfl, Nat.le_of_ble_eq_true rfl⟩ dX9_saysNumber_23 (fr_nx rfl) (fun M9 H locs ho9 B => ?_)
    obtain ⟨-, rfl⟩ := oi_e ho9
    exact fr_vret C B hr hlk (by rw [← Option.some.inj hF]) (Nat.le_of_ble_eq_true rfl) (Nat.le_of_ble_eq_true rfl) dX9_saysNumber_26
  · have hF := it_f hF c1
    refine lv_aload_n hx hb dX9_saysNumber_6 rfl (lv_at hl 0 rfl) ?_
    refine lv_iload_n hx hb dX9_saysNumber_7 rfl (lv_at hl 1 rfl) ?_
    refine lv_bipush (v := 10) hx hb dX9_saysNumber_8 (by decide) ?_
    refine lv_idiv hx hb dX9_saysNumber_10 (by decide) ?_
    obtain ⟨M7, hf5, hF⟩ := bx_e hF
    refine fr_cVv (As := [.int (a1 / 10)]) (rest := []) C B (cm_X9_saysNumber_v0 hf5) ob_9 rfl yw_X9_saysNumber wm_X9_199 rfl hl.1 rfl (Nat.le_of_ble_eq_true rfl) ⟨Nat.le_of_ble_eq_true rfl, Nat.le_of_ble_eq_true rfl⟩ ⟨Nat.le_of_ble_eq_true rfl, Nat.le_of_ble_eq_true rfl⟩ dX9_saysNumber_11 (fr_nx rfl) (fun M9 H locs ho9 B => ?_)
    obtain ⟨-, rfl⟩ := oi_e ho9
    refine lv_aload_n hx hb dX9_saysNumber_14 rfl (lv_at hl 0 rfl) ?_
    refine lv_bipush (v := 48) hx hb dX9_saysNumber_15 (by decide) ?_
    refine lv_iload_n hx hb dX9_saysNumber_17 rfl (lv_at hl 1 rfl) ?_
    refine lv_bipush (v := 10) hx hb dX9_saysNumber_18 (by decide) ?_
    refine lv_irem hx hb dX9_saysNumber_20 (by decide) ?_
    refine lv_iadd hx hb dX9_saysNumber_21 ?_
    refine lv_i2c hx hb dX9_saysNumber_22 rfl ?_
    obtain ⟨M10, hf8, hF⟩ := bx_e hF
    refine fr_cVv (As := [.int ((48 + (a1 - a1 / 10 * 10)).toUInt32 % 65536).toInt32]) (rest := []) C B (cm_X9_says hf8) ob_9 rfl yw_X9_says wm_X9_203 rfl hl.1 rfl (Nat.le_of_ble_eq_true rfl) ⟨Nat.le_of_ble_eq_true rfl, Nat.le_of_ble_eq_true rfl⟩ ⟨Nat.le_of_ble_eq_true rfl, Nat.le_of_ble_eq_true rfl⟩ dX9_saysNumber_23 (fr_nx rfl) (fun M9 H locs ho9 B => ?_)
    obtain ⟨-, rfl⟩ := oi_e ho9
    exact fr_vret C B hr hlk (by rw [← Option.some.inj hF]) (Nat.le_of_ble_eq_true rfl) (Nat.le_of_ble_eq_true rfl) dX9_saysNumber_26
def F_X9_saysNumber_v2 (M : fw_M) (a1 : Int32) : Option (fw_M) :=
  if a1 ≤ 9 then
    bd_x (F_X9_says M (((48 + (a1 - a1 / 10 * 10)).toUInt32 % 65536).toInt32)) fun M4 =>
    some M4
  else
    bd_x (F_X9_saysNumber_v1 M (a1 / 10)) fun M7 =>
    bd_x (F_X9_says M7 (((48 + (a1 - a1 / 10 * 10)).toUInt32 % 65536).toInt32)) fun M10 =>
    some M10
set_option maxHeartbeats 4000000 in
set_option maxRecDepth 100000 in
theorem cm_X9_saysNumber_v2 {l : Launch} {X : fw_X} {M : fw_M} {a1 : Int32}  {o : fw_M} (hF : F_X9_saysNumber_v2 M a1 = some o) : ct_v l X yX9_saysNumber cX9_saysNumber 2 none ({ frames := 3, cells := 0, slots := 0, locals := 63 } : Room) M [.ref (fw_ad X 378), .int a1] (.inl 0, o) := by
  refine fw_open rfl (Nat.le_of_ble_eq_true rfl) (fun p e s m below meth c ls C hr hlk hnm hex hl B => ?_)
  have C : fr_C X p c cX9_saysNumber 2 RX9 s m ([.ref (fw_ad X 378), .int a1] : List Value).toArray := C
  have hx := C.1.1
  have hb := C.1.2.1
  have hl : lv_has ls 2 [(0, .ref (fw_ad X 378)), (1, .int a1)] := hl
  unfold F_X9_saysNumber_v2 at hF
  refine lv_iload_n hx hb dX9_saysNumber_0 rfl (lv_at hl 1 rfl) ?_
  refine lv_bipush (v := 9) hx hb dX9_saysNumber_1 (by decide) ?_
  refine lv_icmp_le (tgt := 14) hx hb dX9_saysNumber_3 (by decide) (fun c1 => ?_) (fun c1 => ?_)
  · have hF := it_t hF c1
    refine lv_aload_n hx hb dX9_saysNumber_14 rfl (lv_at hl 0 rfl) ?_
    refine lv_bipush (v := 48) hx hb dX9_saysNumber_15 (by decide) ?_
    refine lv_iload_n hx hb dX9_saysNumber_17 rfl (lv_at hl 1 rfl) ?_
    refine lv_bipush (v := 10) hx hb dX9_saysNumber_18 (by decide) ?_
    refine lv_irem hx hb dX9_saysNumber_20 (by decide) ?_
    refine lv_iadd hx hb dX9_saysNumber_21 ?_
    refine lv_i2c hx hb dX9_saysNumber_22 rfl ?_
    obtain ⟨M4, hf2, hF⟩ := bx_e hF
    refine fr_cVv (As := [.int ((48 + (a1 - a1 / 10 * 10)).toUInt32 % 65536).toInt32]) (rest := []) C B (cm_X9_says hf2) ob_9 rfl yw_X9_says wm_X9_203 rfl hl.1 rfl (Nat.le_of_ble_eq_true rfl) ⟨Nat.le_of_ble_eq_true rfl, Nat.le_of_ble_eq_true rfl⟩ ⟨Nat.le_of_ble_eq_true rfl, Nat.le_of_ble_eq_true rfl⟩ dX9_saysNumber_23 (fr_nx rfl) (fun M9 H locs ho9 B => ?_)
    obtain ⟨-, rfl⟩ := oi_e ho9
    exact fr_vret C B hr hlk (by rw [← Option.some.inj hF]) (Nat.le_of_ble_eq_true rfl) (Nat.le_of_ble_eq_true rfl) dX9_saysNumber_26
  · have hF := it_f hF c1
    refine lv_aload_n hx hb dX9_saysNumber_6 rfl (lv_at hl 0 rfl) ?_
    refine lv_iload_n hx hb dX9_saysNumber_7 rfl (lv_at hl 1 rfl) ?_
    refine lv_bipush (v := 10) hx hb dX9_saysNumber_8 (by decide) ?_
    refine lv_idiv hx hb dX9_saysNumber_10 (by decide) ?_
    obtain ⟨M7, hf5, hF⟩ := bx_e hF
    refine fr_cVv (As := [.int (a1 / 10)]) (rest := []) C B (cm_X9_saysNumber_v1 hf5) ob_9 rfl yw_X9_saysNumber wm_X9_199 rfl hl.1 rfl (Nat.le_of_ble_eq_true rfl) ⟨Nat.le_of_ble_eq_true rfl, Nat.le_of_ble_eq_true rfl⟩ ⟨Nat.le_of_ble_eq_true rfl, Nat.le_of_ble_eq_true rfl⟩ dX9_saysNumber_11 (fr_nx rfl) (fun M9 H locs ho9 B => ?_)
    obtain ⟨-, rfl⟩ := oi_e ho9
    refine lv_aload_n hx hb dX9_saysNumber_14 rfl (lv_at hl 0 rfl) ?_
    refine lv_bipush (v := 48) hx hb dX9_saysNumber_15 (by decide) ?_
    refine lv_iload_n hx hb dX9_saysNumber_17 rfl (lv_at hl 1 rfl) ?_
    refine lv_bipush (v := 10) hx hb dX9_saysNumber_18 (by decide) ?_
    refine lv_irem hx hb dX9_saysNumber_20 (by decide) ?_
    refine lv_iadd hx hb dX9_saysNumber_21 ?_
    refine lv_i2c hx hb dX9_saysNumber_22 rfl ?_
    obtain ⟨M10, hf8, hF⟩ := bx_e hF
    refine fr_cVv (As := [.int ((48 + (a1 - a1 / 10 * 10)).toUInt32 % 65536).toInt32]) (rest := []) C B (cm_X9_says hf8) ob_9 rfl yw_X9_says wm_X9_203 rfl hl.1 rfl (Nat.le_of_ble_eq_true rfl) ⟨Nat.le_of_ble_eq_true rfl, Nat.le_of_ble_eq_true rfl⟩ ⟨Nat.le_of_ble_eq_true rfl, Nat.le_of_ble_eq_true rfl⟩ dX9_saysNumber_23 (fr_nx rfl) (fun M9 H locs ho9 B => ?_)
    obtain ⟨-, rfl⟩ := oi_e ho9
    exact fr_vret C B hr hlk (by rw [← Option.some.inj hF]) (Nat.le_of_ble_eq_true rfl) (Nat.le_of_ble_eq_true rfl) dX9_saysNumber_26
def F_X9_writeLine_21 (a1 : Int32)  : Nat → Int32 → fw_M → Option (Int32 × fw_M)
  | 0, _, _ => none
  | n + 1, x2, M =>
    bd_x (F_X9_lengthOf M a1) fun r2 =>
    if r2 ≤ x2 then
      some ((M 378 8), M)
    else
      if x2 ≤ 0 then
        bd_x (F_X9_stopOf M a1 x2) fun r7 =>
        bd_x (F_X9_saysNumber_v2 M r7) fun M11 =>
        F_X9_writeLine_21 a1 n (x2 + 1) M11
      else
        bd_x (F_X9_says M 45) fun M14 =>
        bd_x (F_X9_stopOf M14 a1 x2) fun r16 =>
        bd_x (F_X9_saysNumber_v2 M14 r16) fun M20 =>
        F_X9_writeLine_21 a1 n (x2 + 1) M20
def F_X9_writeLine (M : fw_M) (a1 : Int32) : Option (Int32 × fw_M) :=
  bd_x (F_X9_isLine M a1) fun r22 =>
  bd_p (F_X9_isThere M r22) fun r25 M26 =>
  if ¬ r25 = 0 then
    lt_x (fw_up M26 378 8 0) fun M28 =>
    F_X9_writeLine_21 a1 64 0 M28
  else
    some (0, M26)
set_option maxHeartbeats 4000000 in
set_option maxRecDepth 100000 in
theorem cm_X9_writeLine {l : Launch} {X : fw_X} {M : fw_M} {a1 : Int32}  {o : Int32 × fw_M} (hF : F_X9_writeLine M a1 = some o) : ct_i l X yX9_writeLine cX9_writeLine 3 (some .int) ({ frames := 4, cells := 0, slots := 0, locals := 84 } : Room) M [.ref (fw_ad X 378), .int a1] (.inl o.1, o.2) := by
  refine fw_open rfl (Nat.le_of_ble_eq_true rfl) (fun p e s m below meth c ls C hr hlk hnm hex hl B => ?_)
  have C : fr_C X p c cX9_writeLine 3 RX9 s m ([.ref (fw_ad X 378), .int a1] : List Value).toArray := C
  have hx := C.1.1
  have hb := C.1.2.1
  have hl : lv_has ls 3 [(0, .ref (fw_ad X 378)), (1, .int a1)] := hl
  have hJ21 : ∀ (n : Nat), ∀ (x2 : Int32) (M : fw_M) (H : Heap) (locs : List Loc) (ls : Array Slot), F_X9_writeLine_21 a1 n x2 M = some o → fr_H X s M H locs → lv_has ls 3 [(0, .ref (fw_ad X 378)), (1, .int a1), (2, .int x2)] → W p l e ({ frames := 4, cells := 0, slots := 0, locals := 84 } : Room) s m ([.ref (fw_ad X 378), .int a1] : List Value).toArray below meth c H locs 0 0 (vx_MQ below (fw_Qi X (.inl o.1, o.2)) (fw_Qx X (.inl o.1, o.2)) ([.ref (fw_ad X 378), .int a1] : List Value).toArray s 0 0 (fw_A X)) (F0 m 21 ls []) := by
    intro n
    induction n with
    | zero =>
      intro x2 M H locs ls hF B hl
      exact absurd hF (by simp [F_X9_writeLine_21])
    | succ n ih =>
      intro x2 M H locs ls hF B hl
      rw [F_X9_writeLine_21] at hF
      refine lv_iload_n hx hb dX9_writeLine_21 rfl (lv_at hl 2 rfl) ?_
      refine lv_aload_n hx hb dX9_writeLine_22 rfl (lv_at hl 0 rfl) ?_
      refine lv_iload_n hx hb dX9_writeLine_23 rfl (lv_at hl 1 rfl) ?_
      obtain ⟨r2, hf1, hF⟩ := bx_e hF
      refine fr_cVi (As := [.int a1]) (rest := [.int x2]) C B (cm_X9_lengthOf hf1) ob_9 rfl yw_X9_lengthOf wm_X9_55 rfl hl.1 rfl (Nat.le_of_ble_eq_true rfl) ⟨Nat.le_of_ble_eq_true rfl, Nat.le_of_ble_eq_true rfl⟩ ⟨Nat.le_of_ble_eq_true rfl, Nat.le_of_ble_eq_true rfl⟩ dX9_writeLine_24 (fr_nx rfl) (fun r9 M9 H locs ho9 B => ?_)
      obtain ⟨rfl, rfl⟩ := oi_e ho9
      refine lv_icmp_ge (tgt := 56) hx hb dX9_writeLine_27 (by decide) (fun c4 => ?_) (fun c4 => ?_)
      · have hF := it_t hF c4
        refine lv_aload_n hx hb dX9_writeLine_56 rfl (lv_at hl 0 rfl) ?_
        refine gf_X9_196 C B dX9_writeLine_57 ?_
        exact fr_iret C B hr rfl hlk (by rw [← Option.some.inj hF]) (Nat.le_of_ble_eq_true rfl) (Nat.le_of_ble_eq_true rfl) dX9_writeLine_60
      · have hF := it_f hF c4
        refine lv_iload_n hx hb dX9_writeLine_30 rfl (lv_at hl 2 rfl) ?_
        refine lv_if_le (tgt := 40) hx hb dX9_writeLine_31 (by decide) (fun c5 => ?_) (fun c5 => ?_)
        · have hF := it_t hF c5
          refine lv_aload_n hx hb dX9_writeLine_40 rfl (lv_at hl 0 rfl) ?_
          refine lv_aload_n hx hb dX9_writeLine_41 rfl (lv_at hl 0 rfl) ?_
          refine lv_iload_n hx hb dX9_writeLine_42 rfl (lv_at hl 1 rfl) ?_
          refine lv_iload_n hx hb dX9_writeLine_43 rfl (lv_at hl 2 rfl) ?_
          obtain ⟨r7, hf6, hF⟩ := bx_e hF
          refine fr_cVi (As := [.int a1, .int x2]) (rest := [.ref (fw_ad X 378)]) C B (cm_X9_stopOf hf6) ob_9 rfl yw_X9_stopOf wm_X9_59 rfl hl.1 rfl (Nat.le_of_ble_eq_true rfl) ⟨Nat.le_of_ble_eq_true rfl, Nat.le_of_ble_eq_true rfl⟩ ⟨Nat.le_of_ble_eq_true rfl, Nat.le_of_ble_eq_true rfl⟩ dX9_writeLine_44 (fr_nx rfl) (fun r9 M9 H locs ho9 B => ?_)
          obtain ⟨rfl, rfl⟩ := oi_e ho9
          obtain ⟨M11, hf9, hF⟩ := bx_e hF
          refine fr_cVv (As := [.int r7]) (rest := []) C B (cm_X9_saysNumber_v2 hf9) ob_9 rfl yw_X9_saysNumber wm_X9_199 rfl hl.1 rfl (Nat.le_of_ble_eq_true rfl) ⟨Nat.le_of_ble_eq_true rfl, Nat.le_of_ble_eq_true rfl⟩ ⟨Nat.le_of_ble_eq_true rfl, Nat.le_of_ble_eq_true rfl⟩ dX9_writeLine_47 (fr_nx rfl) (fun M9 H locs ho9 B => ?_)
          obtain ⟨-, rfl⟩ := oi_e ho9
          refine lv_iinc (v := (x2 + 1)) (lv' := [(2, .int (x2 + 1)), (0, .ref (fw_ad X 378)), (1, .int a1)]) hx hb dX9_writeLine_50 hl (k := 2) rfl rfl (by decide) rfl (fun ls hl => ?_)
          refine lv_goto (tgt := 21) hx hb dX9_writeLine_53 (by decide) ?_
          exact ih (x2 + 1) M11 _ _ _ hF B (lv_sub hl [1, 2, 0] rfl)
        · have hF := it_f hF c5
          refine lv_aload_n hx hb dX9_writeLine_34 rfl (lv_at hl 0 rfl) ?_
          refine lv_bipush (v := 45) hx hb dX9_writeLine_35 (by decide) ?_
          obtain ⟨M14, hf12, hF⟩ := bx_e hF
          refine fr_cVv (As := [.int 45]) (rest := []) C B (cm_X9_says hf12) ob_9 rfl yw_X9_says wm_X9_203 rfl hl.1 rfl (Nat.le_of_ble_eq_true rfl) ⟨Nat.le_of_ble_eq_true rfl, Nat.le_of_ble_eq_true rfl⟩ ⟨Nat.le_of_ble_eq_true rfl, Nat.le_of_ble_eq_true rfl⟩ dX9_writeLine_37 (fr_nx rfl) (fun M9 H locs ho9 B => ?_)
          obtain ⟨-, rfl⟩ := oi_e ho9
          refine lv_aload_n hx hb dX9_writeLine_40 rfl (lv_at hl 0 rfl) ?_
          refine lv_aload_n hx hb dX9_writeLine_41 rfl (lv_at hl 0 rfl) ?_
          refine lv_iload_n hx hb dX9_writeLine_42 rfl (lv_at hl 1 rfl) ?_
          refine lv_iload_n hx hb dX9_writeLine_43 rfl (lv_at hl 2 rfl) ?_
          obtain ⟨r16, hf15, hF⟩ := bx_e hF
          refine fr_cVi (As := [.int a1, .int x2]) (rest := [.ref (fw_ad X 378)]) C B (cm_X9_stopOf hf15) ob_9 rfl yw_X9_stopOf wm_X9_59 rfl hl.1 rfl (Nat.le_of_ble_eq_true rfl) ⟨Nat.le_of_ble_eq_true rfl, Nat.le_of_ble_eq_true rfl⟩ ⟨Nat.le_of_ble_eq_true rfl, Nat.le_of_ble_eq_true rfl⟩ dX9_writeLine_44 (fr_nx rfl) (fun r9 M9 H locs ho9 B => ?_)
          obtain ⟨rfl, rfl⟩ := oi_e ho9
          obtain ⟨M20, hf18, hF⟩ := bx_e hF
          refine fr_cVv (As := [.int r16]) (rest := []) C B (cm_X9_saysNumber_v2 hf18) ob_9 rfl yw_X9_saysNumber wm_X9_199 rfl hl.1 rfl (Nat.le_of_ble_eq_true rfl) ⟨Nat.le_of_ble_eq_true rfl, Nat.le_of_ble_eq_true rfl⟩ ⟨Nat.le_of_ble_eq_true rfl, Nat.le_of_ble_eq_true rfl⟩ dX9_writeLine_47 (fr_nx rfl) (fun M9 H locs ho9 B => ?_)
          obtain ⟨-, rfl⟩ := oi_e ho9
          refine lv_iinc (v := (x2 + 1)) (lv' := [(2, .int (x2 + 1)), (0, .ref (fw_ad X 378)), (1, .int a1)]) hx hb dX9_writeLine_50 hl (k := 2) rfl rfl (by decide) rfl (fun ls hl => ?_)
          refine lv_goto (tgt := 21) hx hb dX9_writeLine_53 (by decide) ?_
          exact ih (x2 + 1) M20 _ _ _ hF B (lv_sub hl [1, 2, 0] rfl)
  unfold F_X9_writeLine at hF
  refine lv_aload_n hx hb dX9_writeLine_0 rfl (lv_at hl 0 rfl) ?_
  refine lv_aload_n hx hb dX9_writeLine_1 rfl (lv_at hl 0 rfl) ?_
  refine lv_iload_n hx hb dX9_writeLine_2 rfl (lv_at hl 1 rfl) ?_
  obtain ⟨r22, hf21, hF⟩ := bx_e hF
  refine fr_cVi (As := [.int a1]) (rest := [.ref (fw_ad X 378)]) C B (cm_X9_isLine hf21) ob_9 rfl yw_X9_isLine wm_X9_82 rfl hl.1 rfl (Nat.le_of_ble_eq_true rfl) ⟨Nat.le_of_ble_eq_true rfl, Nat.le_of_ble_eq_true rfl⟩ ⟨Nat.le_of_ble_eq_true rfl, Nat.le_of_ble_eq_true rfl⟩ dX9_writeLine_3 (fr_nx rfl) (fun r9 M9 H locs ho9 B => ?_)
  obtain ⟨rfl, rfl⟩ := oi_e ho9
  obtain ⟨r25, M26, hf24, hF⟩ := bp_e hF
  refine fr_cVi (As := [.int r22]) (rest := []) C B (cm_X9_isThere hf24) ob_9 rfl yw_X9_isThere wm_X9_91 rfl hl.1 rfl (Nat.le_of_ble_eq_true rfl) ⟨Nat.le_of_ble_eq_true rfl, Nat.le_of_ble_eq_true rfl⟩ ⟨Nat.le_of_ble_eq_true rfl, Nat.le_of_ble_eq_true rfl⟩ dX9_writeLine_6 (fr_nx rfl) (fun r9 M9 H locs ho9 B => ?_)
  obtain ⟨rfl, rfl⟩ := oi_e ho9
  refine lv_if_ne (tgt := 14) hx hb dX9_writeLine_9 (by decide) (fun c27 => ?_) (fun c27 => ?_)
  · have hF := it_t hF c27
    refine lv_aload_n hx hb dX9_writeLine_14 rfl (lv_at hl 0 rfl) ?_
    refine lv_iconst (v := 0) hx hb dX9_writeLine_15 (by decide) ?_
    refine pf_X9_196 C B dX9_writeLine_16 (fun H locs B => ?_)
    obtain ⟨M28, eM28, hF⟩ := lt_e hF
    rw [← eM28] at B
    refine lv_iconst (v := 0) hx hb dX9_writeLine_19 (by decide) ?_
    refine lv_istore_n (lv' := [(2, .int 0), (0, .ref (fw_ad X 378)), (1, .int a1)]) hx hb dX9_writeLine_20 rfl hl (by decide) rfl (fun ls hl => ?_)
    exact hJ21 64 0 M28 _ _ _ hF B (lv_sub hl [1, 2, 0] rfl)
  · have hF := it_f hF (not_not_intro c27)
    refine lv_iconst (v := 0) hx hb dX9_writeLine_12 (by decide) ?_
    exact fr_iret C B hr rfl hlk (by rw [← Option.some.inj hF]) (Nat.le_of_ble_eq_true rfl) (Nat.le_of_ble_eq_true rfl) dX9_writeLine_13
def F_X9_writePassenger_82 (a1 : Int32)  : Nat → Int32 → fw_M → Option (Int32 × fw_M)
  | 0, _, _ => none
  | n + 1, x3, M =>
    if ix_i 4 129 then
    if (fw_ri M 379 4) ≤ x3 then
      some ((M 378 8), M)
    else
      bd_x (F_X9_carrier M x3) fun r4 =>
      if ¬ r4 = a1 then
        F_X9_writePassenger_82 a1 n (x3 + 1) M
      else
        bd_x (F_X9_says M 115) fun M9 =>
        bd_x (F_X9_saysNumber_v2 M9 x3) fun M12 =>
        F_X9_writePassenger_82 a1 n (x3 + 1) M12
    else none
def F_X9_writePassenger_46 (a1 : Int32)  (x2 : Int32) (M : fw_M) : Option (Int32 × fw_M) :=
  if 0 ≤ x2 then
    bd_x (F_X9_saysNumber_v2 M x2) fun M16 =>
    bd_x (F_X9_says M16 114) fun M19 =>
    bd_x (F_X9_ofPassenger M19 a1 3) fun r21 =>
    bd_x (F_X9_saysNumber_v2 M19 r21) fun M25 =>
    F_X9_writePassenger_82 a1 64 0 M25
  else
    bd_x (F_X9_ofPassenger M a1 0) fun r27 =>
    bd_x (F_X9_saysNumber_v2 M r27) fun M31 =>
    bd_x (F_X9_says M31 114) fun M34 =>
    bd_x (F_X9_ofPassenger M34 a1 3) fun r36 =>
    bd_x (F_X9_saysNumber_v2 M34 r36) fun M40 =>
    F_X9_writePassenger_82 a1 64 0 M40
def F_X9_writePassenger (M : fw_M) (a1 : Int32) : Option (Int32 × fw_M) :=
  bd_x (F_X9_isPassenger M a1) fun r42 =>
  bd_p (F_X9_isThere M r42) fun r45 M46 =>
  if ¬ r45 = 0 then
    lt_x (fw_up M46 378 8 0) fun M48 =>
    bd_x (F_X9_ofPassenger M48 a1 1) fun r50 =>
    bd_x (F_X9_saysNumber_v2 M48 a1) fun M54 =>
    if 0 ≤ r50 then
      bd_x (F_X9_says M54 62) fun M58 =>
      F_X9_writePassenger_46 a1 r50 M58
    else
      bd_x (F_X9_says M54 64) fun M61 =>
      F_X9_writePassenger_46 a1 r50 M61
  else
    some (0, M46)
set_option maxHeartbeats 4000000 in
set_option maxRecDepth 100000 in
theorem cm_X9_writePassenger {l : Launch} {X : fw_X} {M : fw_M} {a1 : Int32}  {o : Int32 × fw_M} (hF : F_X9_writePassenger M a1 = some o) : ct_i l X yX9_writePassenger cX9_writePassenger 4 (some .int) ({ frames := 4, cells := 0, slots := 0, locals := 84 } : Room) M [.ref (fw_ad X 378), .int a1] (.inl o.1, o.2) := by
  refine fw_open rfl (Nat.le_of_ble_eq_true rfl) (fun p e s m below meth c ls C hr hlk hnm hex hl B => ?_)
  have C : fr_C X p c cX9_writePassenger 4 RX9 s m ([.ref (fw_ad X 378), .int a1] : List Value).toArray := C
  have hx := C.1.1
  have hb := C.1.2.1
  have hl : lv_has ls 4 [(0, .ref (fw_ad X 378)), (1, .int a1)] := hl
  have hJ82 : ∀ (n : Nat), ∀ (x3 : Int32) (M : fw_M) (H : Heap) (locs : List Loc) (ls : Array Slot), F_X9_writePassenger_82 a1 n x3 M = some o → fr_H X s M H locs → lv_has ls 4 [(0, .ref (fw_ad X 378)), (1, .int a1), (3, .int x3)] → W p l e ({ frames := 4, cells := 0, slots := 0, locals := 84 } : Room) s m ([.ref (fw_ad X 378), .int a1] : List Value).toArray below meth c H locs 0 0 (vx_MQ below (fw_Qi X (.inl o.1, o.2)) (fw_Qx X (.inl o.1, o.2)) ([.ref (fw_ad X 378), .int a1] : List Value).toArray s 0 0 (fw_A X)) (F0 m 82 ls []) := by
    intro n
    induction n with
    | zero =>
      intro x3 M H locs ls hF B hl
      exact absurd hF (by simp [F_X9_writePassenger_82])
    | succ n ih =>
      intro x3 M H locs ls hF B hl
      rw [F_X9_writePassenger_82] at hF
      refine lv_iload_n hx hb dX9_writePassenger_82 rfl (lv_at hl 2 rfl) ?_
      refine lv_aload_n hx hb dX9_writePassenger_83 rfl (lv_at hl 0 rfl) ?_
      refine gf_X9_9 C B dX9_writePassenger_84 ?_
      refine lv_iconst (v := 4) hx hb dX9_writePassenger_87 (by decide) ?_
      obtain ⟨c1, hF⟩ := of_g hF
      refine fr_ia C B ar_9_379 c1 dX9_writePassenger_88 ?_
      refine lv_icmp_ge (tgt := 118) hx hb dX9_writePassenger_89 (by decide) (fun c2 => ?_) (fun c2 => ?_)
      · have hF := it_t hF c2
        refine lv_aload_n hx hb dX9_writePassenger_118 rfl (lv_at hl 0 rfl) ?_
        refine gf_X9_196 C B dX9_writePassenger_119 ?_
        exact fr_iret C B hr rfl hlk (by rw [← Option.some.inj hF]) (Nat.le_of_ble_eq_true rfl) (Nat.le_of_ble_eq_true rfl) dX9_writePassenger_122
      · have hF := it_f hF c2
        refine lv_aload_n hx hb dX9_writePassenger_92 rfl (lv_at hl 0 rfl) ?_
        refine lv_iload_n hx hb dX9_writePassenger_93 rfl (lv_at hl 2 rfl) ?_
        obtain ⟨r4, hf3, hF⟩ := bx_e hF
        refine fr_cVi (As := [.int x3]) (rest := []) C B (cm_X9_carrier hf3) ob_9 rfl yw_X9_carrier wm_X9_159 rfl hl.1 rfl (Nat.le_of_ble_eq_true rfl) ⟨Nat.le_of_ble_eq_true rfl, Nat.le_of_ble_eq_true rfl⟩ ⟨Nat.le_of_ble_eq_true rfl, Nat.le_of_ble_eq_true rfl⟩ dX9_writePassenger_94 (fr_nx rfl) (fun r9 M9 H locs ho9 B => ?_)
        obtain ⟨rfl, rfl⟩ := oi_e ho9
        refine lv_iload_n hx hb dX9_writePassenger_97 rfl (lv_at hl 1 rfl) ?_
        refine lv_icmp_ne (tgt := 112) hx hb dX9_writePassenger_98 (by decide) (fun c6 => ?_) (fun c6 => ?_)
        · have hF := it_t hF c6
          refine lv_iinc (v := (x3 + 1)) (lv' := [(3, .int (x3 + 1)), (0, .ref (fw_ad X 378)), (1, .int a1)]) hx hb dX9_writePassenger_112 hl (k := 2) rfl rfl (by decide) rfl (fun ls hl => ?_)
          refine lv_goto (tgt := 82) hx hb dX9_writePassenger_115 (by decide) ?_
          exact ih (x3 + 1) M _ _ _ hF B (lv_sub hl [1, 2, 0] rfl)
        · have hF := it_f hF (not_not_intro c6)
          refine lv_aload_n hx hb dX9_writePassenger_101 rfl (lv_at hl 0 rfl) ?_
          refine lv_bipush (v := 115) hx hb dX9_writePassenger_102 (by decide) ?_
          obtain ⟨M9, hf7, hF⟩ := bx_e hF
          refine fr_cVv (As := [.int 115]) (rest := []) C B (cm_X9_says hf7) ob_9 rfl yw_X9_says wm_X9_203 rfl hl.1 rfl (Nat.le_of_ble_eq_true rfl) ⟨Nat.le_of_ble_eq_true rfl, Nat.le_of_ble_eq_true rfl⟩ ⟨Nat.le_of_ble_eq_true rfl, Nat.le_of_ble_eq_true rfl⟩ dX9_writePassenger_104 (fr_nx rfl) (fun M9 H locs ho9 B => ?_)
          obtain ⟨-, rfl⟩ := oi_e ho9
          refine lv_aload_n hx hb dX9_writePassenger_107 rfl (lv_at hl 0 rfl) ?_
          refine lv_iload_n hx hb dX9_writePassenger_108 rfl (lv_at hl 2 rfl) ?_
          obtain ⟨M12, hf10, hF⟩ := bx_e hF
          refine fr_cVv (As := [.int x3]) (rest := []) C B (cm_X9_saysNumber_v2 hf10) ob_9 rfl yw_X9_saysNumber wm_X9_199 rfl hl.1 rfl (Nat.le_of_ble_eq_true rfl) ⟨Nat.le_of_ble_eq_true rfl, Nat.le_of_ble_eq_true rfl⟩ ⟨Nat.le_of_ble_eq_true rfl, Nat.le_of_ble_eq_true rfl⟩ dX9_writePassenger_109 (fr_nx rfl) (fun M9 H locs ho9 B => ?_)
          obtain ⟨-, rfl⟩ := oi_e ho9
          refine lv_iinc (v := (x3 + 1)) (lv' := [(3, .int (x3 + 1)), (0, .ref (fw_ad X 378)), (1, .int a1)]) hx hb dX9_writePassenger_112 hl (k := 2) rfl rfl (by decide) rfl (fun ls hl => ?_)
          refine lv_goto (tgt := 82) hx hb dX9_writePassenger_115 (by decide) ?_
          exact ih (x3 + 1) M12 _ _ _ hF B (lv_sub hl [1, 2, 0] rfl)
  have hJ46 : ∀ (x2 : Int32) (M : fw_M) (H : Heap) (locs : List Loc) (ls : Array Slot), F_X9_writePassenger_46 a1 x2 M = some o → fr_H X s M H locs → lv_has ls 4 [(0, .ref (fw_ad X 378)), (1, .int a1), (2, .int x2)] → W p l e ({ frames := 4, cells := 0, slots := 0, locals := 84 } : Room) s m ([.ref (fw_ad X 378), .int a1] : List Value).toArray below meth c H locs 0 0 (vx_MQ below (fw_Qi X (.inl o.1, o.2)) (fw_Qx X (.inl o.1, o.2)) ([.ref (fw_ad X 378), .int a1] : List Value).toArray s 0 0 (fw_A X)) (F0 m 46 ls []) := by
    intro x2 M H locs ls hF B hl
    unfold F_X9_writePassenger_46 at hF
    refine lv_aload_n hx hb dX9_writePassenger_46 rfl (lv_at hl 0 rfl) ?_
    refine lv_iload_n hx hb dX9_writePassenger_47 rfl (lv_at hl 2 rfl) ?_
    refine lv_if_ge (tgt := 60) hx hb dX9_writePassenger_48 (by decide) (fun c13 => ?_) (fun c13 => ?_)
    · have hF := it_t hF c13
      refine lv_iload_n hx hb dX9_writePassenger_60 rfl (lv_at hl 2 rfl) ?_
      obtain ⟨M16, hf14, hF⟩ := bx_e hF
      refine fr_cVv (As := [.int x2]) (rest := []) C B (cm_X9_saysNumber_v2 hf14) ob_9 rfl yw_X9_saysNumber wm_X9_199 rfl hl.1 rfl (Nat.le_of_ble_eq_true rfl) ⟨Nat.le_of_ble_eq_true rfl, Nat.le_of_ble_eq_true rfl⟩ ⟨Nat.le_of_ble_eq_true rfl, Nat.le_of_ble_eq_true rfl⟩ dX9_writePassenger_61 (fr_nx rfl) (fun M9 H locs ho9 B => ?_)
      obtain ⟨-, rfl⟩ := oi_e ho9
      refine lv_aload_n hx hb dX9_writePassenger_64 rfl (lv_at hl 0 rfl) ?_
      refine lv_bipush (v := 114) hx hb dX9_writePassenger_65 (by decide) ?_
      obtain ⟨M19, hf17, hF⟩ := bx_e hF
      refine fr_cVv (As := [.int 114]) (rest := []) C B (cm_X9_says hf17) ob_9 rfl yw_X9_says wm_X9_203 rfl hl.1 rfl (Nat.le_of_ble_eq_true rfl) ⟨Nat.le_of_ble_eq_true rfl, Nat.le_of_ble_eq_true rfl⟩ ⟨Nat.le_of_ble_eq_true rfl, Nat.le_of_ble_eq_true rfl⟩ dX9_writePassenger_67 (fr_nx rfl) (fun M9 H locs ho9 B => ?_)
      obtain ⟨-, rfl⟩ := oi_e ho9
      refine lv_aload_n hx hb dX9_writePassenger_70 rfl (lv_at hl 0 rfl) ?_
      refine lv_aload_n hx hb dX9_writePassenger_71 rfl (lv_at hl 0 rfl) ?_
      refine lv_iload_n hx hb dX9_writePassenger_72 rfl (lv_at hl 1 rfl) ?_
      refine lv_iconst (v := 3) hx hb dX9_writePassenger_73 (by decide) ?_
      obtain ⟨r21, hf20, hF⟩ := bx_e hF
      refine fr_cVi (As := [.int a1, .int 3]) (rest := [.ref (fw_ad X 378)]) C B (cm_X9_ofPassenger hf20) ob_9 rfl yw_X9_ofPassenger wm_X9_117 rfl hl.1 rfl (Nat.le_of_ble_eq_true rfl) ⟨Nat.le_of_ble_eq_true rfl, Nat.le_of_ble_eq_true rfl⟩ ⟨Nat.le_of_ble_eq_true rfl, Nat.le_of_ble_eq_true rfl⟩ dX9_writePassenger_74 (fr_nx rfl) (fun r9 M9 H locs ho9 B => ?_)
      obtain ⟨rfl, rfl⟩ := oi_e ho9
      obtain ⟨M25, hf23, hF⟩ := bx_e hF
      refine fr_cVv (As := [.int r21]) (rest := []) C B (cm_X9_saysNumber_v2 hf23) ob_9 rfl yw_X9_saysNumber wm_X9_199 rfl hl.1 rfl (Nat.le_of_ble_eq_true rfl) ⟨Nat.le_of_ble_eq_true rfl, Nat.le_of_ble_eq_true rfl⟩ ⟨Nat.le_of_ble_eq_true rfl, Nat.le_of_ble_eq_true rfl⟩ dX9_writePassenger_77 (fr_nx rfl) (fun M9 H locs ho9 B => ?_)
      obtain ⟨-, rfl⟩ := oi_e ho9
      refine lv_iconst (v := 0) hx hb dX9_writePassenger_80 (by decide) ?_
      refine lv_istore_n (lv' := [(3, .int 0), (0, .ref (fw_ad X 378)), (1, .int a1), (2, .int x2)]) hx hb dX9_writePassenger_81 rfl hl (by decide) rfl (fun ls hl => ?_)
      exact hJ82 64 0 M25 _ _ _ hF B (lv_sub hl [1, 2, 0] rfl)
    · have hF := it_f hF c13
      refine lv_aload_n hx hb dX9_writePassenger_51 rfl (lv_at hl 0 rfl) ?_
      refine lv_iload_n hx hb dX9_writePassenger_52 rfl (lv_at hl 1 rfl) ?_
      refine lv_iconst (v := 0) hx hb dX9_writePassenger_53 (by decide) ?_
      obtain ⟨r27, hf26, hF⟩ := bx_e hF
      refine fr_cVi (As := [.int a1, .int 0]) (rest := [.ref (fw_ad X 378)]) C B (cm_X9_ofPassenger hf26) ob_9 rfl yw_X9_ofPassenger wm_X9_117 rfl hl.1 rfl (Nat.le_of_ble_eq_true rfl) ⟨Nat.le_of_ble_eq_true rfl, Nat.le_of_ble_eq_true rfl⟩ ⟨Nat.le_of_ble_eq_true rfl, Nat.le_of_ble_eq_true rfl⟩ dX9_writePassenger_54 (fr_nx rfl) (fun r9 M9 H locs ho9 B => ?_)
      obtain ⟨rfl, rfl⟩ := oi_e ho9
      refine lv_goto (tgt := 61) hx hb dX9_writePassenger_57 (by decide) ?_
      obtain ⟨M31, hf29, hF⟩ := bx_e hF
      refine fr_cVv (As := [.int r27]) (rest := []) C B (cm_X9_saysNumber_v2 hf29) ob_9 rfl yw_X9_saysNumber wm_X9_199 rfl hl.1 rfl (Nat.le_of_ble_eq_true rfl) ⟨Nat.le_of_ble_eq_true rfl, Nat.le_of_ble_eq_true rfl⟩ ⟨Nat.le_of_ble_eq_true rfl, Nat.le_of_ble_eq_true rfl⟩ dX9_writePassenger_61 (fr_nx rfl) (fun M9 H locs ho9 B => ?_)
      obtain ⟨-, rfl⟩ := oi_e ho9
      refine lv_aload_n hx hb dX9_writePassenger_64 rfl (lv_at hl 0 rfl) ?_
      refine lv_bipush (v := 114) hx hb dX9_writePassenger_65 (by decide) ?_
      obtain ⟨M34, hf32, hF⟩ := bx_e hF
      refine fr_cVv (As := [.int 114]) (rest := []) C B (cm_X9_says hf32) ob_9 rfl yw_X9_says wm_X9_203 rfl hl.1 rfl (Nat.le_of_ble_eq_true rfl) ⟨Nat.le_of_ble_eq_true rfl, Nat.le_of_ble_eq_true rfl⟩ ⟨Nat.le_of_ble_eq_true rfl, Nat.le_of_ble_eq_true rfl⟩ dX9_writePassenger_67 (fr_nx rfl) (fun M9 H locs ho9 B => ?_)
      obtain ⟨-, rfl⟩ := oi_e ho9
      refine lv_aload_n hx hb dX9_writePassenger_70 rfl (lv_at hl 0 rfl) ?_
      refine lv_aload_n hx hb dX9_writePassenger_71 rfl (lv_at hl 0 rfl) ?_
      refine lv_iload_n hx hb dX9_writePassenger_72 rfl (lv_at hl 1 rfl) ?_
      refine lv_iconst (v := 3) hx hb dX9_writePassenger_73 (by decide) ?_
      obtain ⟨r36, hf35, hF⟩ := bx_e hF
      refine fr_cVi (As := [.int a1, .int 3]) (rest := [.ref (fw_ad X 378)]) C B (cm_X9_ofPassenger hf35) ob_9 rfl yw_X9_ofPassenger wm_X9_117 rfl hl.1 rfl (Nat.le_of_ble_eq_true rfl) ⟨Nat.le_of_ble_eq_true rfl, Nat.le_of_ble_eq_true rfl⟩ ⟨Nat.le_of_ble_eq_true rfl, Nat.le_of_ble_eq_true rfl⟩ dX9_writePassenger_74 (fr_nx rfl) (fun r9 M9 H locs ho9 B => ?_)
      obtain ⟨rfl, rfl⟩ := oi_e ho9
      obtain ⟨M40, hf38, hF⟩ := bx_e hF
      refine fr_cVv (As := [.int r36]) (rest := []) C B (cm_X9_saysNumber_v2 hf38) ob_9 rfl yw_X9_saysNumber wm_X9_199 rfl hl.1 rfl (Nat.le_of_ble_eq_true rfl) ⟨Nat.le_of_ble_eq_true rfl, Nat.le_of_ble_eq_true rfl⟩ ⟨Nat.le_of_ble_eq_true rfl, Nat.le_of_ble_eq_true rfl⟩ dX9_writePassenger_77 (fr_nx rfl) (fun M9 H locs ho9 B => ?_)
      obtain ⟨-, rfl⟩ := oi_e ho9
      refine lv_iconst (v := 0) hx hb dX9_writePassenger_80 (by decide) ?_
      refine lv_istore_n (lv' := [(3, .int 0), (0, .ref (fw_ad X 378)), (1, .int a1), (2, .int x2)]) hx hb dX9_writePassenger_81 rfl hl (by decide) rfl (fun ls hl => ?_)
      exact hJ82 64 0 M40 _ _ _ hF B (lv_sub hl [1, 2, 0] rfl)
  unfold F_X9_writePassenger at hF
  refine lv_aload_n hx hb dX9_writePassenger_0 rfl (lv_at hl 0 rfl) ?_
  refine lv_aload_n hx hb dX9_writePassenger_1 rfl (lv_at hl 0 rfl) ?_
  refine lv_iload_n hx hb dX9_writePassenger_2 rfl (lv_at hl 1 rfl) ?_
  obtain ⟨r42, hf41, hF⟩ := bx_e hF
  refine fr_cVi (As := [.int a1]) (rest := [.ref (fw_ad X 378)]) C B (cm_X9_isPassenger hf41) ob_9 rfl yw_X9_isPassenger wm_X9_133 rfl hl.1 rfl (Nat.le_of_ble_eq_true rfl) ⟨Nat.le_of_ble_eq_true rfl, Nat.le_of_ble_eq_true rfl⟩ ⟨Nat.le_of_ble_eq_true rfl, Nat.le_of_ble_eq_true rfl⟩ dX9_writePassenger_3 (fr_nx rfl) (fun r9 M9 H locs ho9 B => ?_)
  obtain ⟨rfl, rfl⟩ := oi_e ho9
  obtain ⟨r45, M46, hf44, hF⟩ := bp_e hF
  refine fr_cVi (As := [.int r42]) (rest := []) C B (cm_X9_isThere hf44) ob_9 rfl yw_X9_isThere wm_X9_91 rfl hl.1 rfl (Nat.le_of_ble_eq_true rfl) ⟨Nat.le_of_ble_eq_true rfl, Nat.le_of_ble_eq_true rfl⟩ ⟨Nat.le_of_ble_eq_true rfl, Nat.le_of_ble_eq_true rfl⟩ dX9_writePassenger_6 (fr_nx rfl) (fun r9 M9 H locs ho9 B => ?_)
  obtain ⟨rfl, rfl⟩ := oi_e ho9
  refine lv_if_ne (tgt := 14) hx hb dX9_writePassenger_9 (by decide) (fun c47 => ?_) (fun c47 => ?_)
  · have hF := it_t hF c47
    refine lv_aload_n hx hb dX9_writePassenger_14 rfl (lv_at hl 0 rfl) ?_
    refine lv_iconst (v := 0) hx hb dX9_writePassenger_15 (by decide) ?_
    refine pf_X9_196 C B dX9_writePassenger_16 (fun H locs B => ?_)
    obtain ⟨M48, eM48, hF⟩ := lt_e hF
    rw [← eM48] at B
    refine lv_aload_n hx hb dX9_writePassenger_19 rfl (lv_at hl 0 rfl) ?_
    refine lv_iload_n hx hb dX9_writePassenger_20 rfl (lv_at hl 1 rfl) ?_
    refine lv_iconst (v := 1) hx hb dX9_writePassenger_21 (by decide) ?_
    obtain ⟨r50, hf49, hF⟩ := bx_e hF
    refine fr_cVi (As := [.int a1, .int 1]) (rest := []) C B (cm_X9_ofPassenger hf49) ob_9 rfl yw_X9_ofPassenger wm_X9_117 rfl hl.1 rfl (Nat.le_of_ble_eq_true rfl) ⟨Nat.le_of_ble_eq_true rfl, Nat.le_of_ble_eq_true rfl⟩ ⟨Nat.le_of_ble_eq_true rfl, Nat.le_of_ble_eq_true rfl⟩ dX9_writePassenger_22 (fr_nx rfl) (fun r9 M9 H locs ho9 B => ?_)
    obtain ⟨rfl, rfl⟩ := oi_e ho9
    refine lv_istore_n (lv' := [(2, .int r50), (0, .ref (fw_ad X 378)), (1, .int a1)]) hx hb dX9_writePassenger_25 rfl hl (by decide) rfl (fun ls hl => ?_)
    refine lv_aload_n hx hb dX9_writePassenger_26 rfl (lv_at hl 1 rfl) ?_
    refine lv_iload_n hx hb dX9_writePassenger_27 rfl (lv_at hl 2 rfl) ?_
    obtain ⟨M54, hf52, hF⟩ := bx_e hF
    refine fr_cVv (As := [.int a1]) (rest := []) C B (cm_X9_saysNumber_v2 hf52) ob_9 rfl yw_X9_saysNumber wm_X9_199 rfl hl.1 rfl (Nat.le_of_ble_eq_true rfl) ⟨Nat.le_of_ble_eq_true rfl, Nat.le_of_ble_eq_true rfl⟩ ⟨Nat.le_of_ble_eq_true rfl, Nat.le_of_ble_eq_true rfl⟩ dX9_writePassenger_28 (fr_nx rfl) (fun M9 H locs ho9 B => ?_)
    obtain ⟨-, rfl⟩ := oi_e ho9
    refine lv_aload_n hx hb dX9_writePassenger_31 rfl (lv_at hl 1 rfl) ?_
    refine lv_iload_n hx hb dX9_writePassenger_32 rfl (lv_at hl 0 rfl) ?_
    refine lv_if_ge (tgt := 41) hx hb dX9_writePassenger_33 (by decide) (fun c55 => ?_) (fun c55 => ?_)
    · have hF := it_t hF c55
      refine lv_bipush (v := 62) hx hb dX9_writePassenger_41 (by decide) ?_
      obtain ⟨M58, hf56, hF⟩ := bx_e hF
      refine fr_cVv (As := [.int 62]) (rest := []) C B (cm_X9_says hf56) ob_9 rfl yw_X9_says wm_X9_203 rfl hl.1 rfl (Nat.le_of_ble_eq_true rfl) ⟨Nat.le_of_ble_eq_true rfl, Nat.le_of_ble_eq_true rfl⟩ ⟨Nat.le_of_ble_eq_true rfl, Nat.le_of_ble_eq_true rfl⟩ dX9_writePassenger_43 (fr_nx rfl) (fun M9 H locs ho9 B => ?_)
      obtain ⟨-, rfl⟩ := oi_e ho9
      exact hJ46 r50 M58 _ _ _ hF B (lv_sub hl [1, 2, 0] rfl)
    · have hF := it_f hF c55
      refine lv_bipush (v := 64) hx hb dX9_writePassenger_36 (by decide) ?_
      refine lv_goto (tgt := 43) hx hb dX9_writePassenger_38 (by decide) ?_
      obtain ⟨M61, hf59, hF⟩ := bx_e hF
      refine fr_cVv (As := [.int 64]) (rest := []) C B (cm_X9_says hf59) ob_9 rfl yw_X9_says wm_X9_203 rfl hl.1 rfl (Nat.le_of_ble_eq_true rfl) ⟨Nat.le_of_ble_eq_true rfl, Nat.le_of_ble_eq_true rfl⟩ ⟨Nat.le_of_ble_eq_true rfl, Nat.le_of_ble_eq_true rfl⟩ dX9_writePassenger_43 (fr_nx rfl) (fun M9 H locs ho9 B => ?_)
      obtain ⟨-, rfl⟩ := oi_e ho9
      exact hJ46 r50 M61 _ _ _ hF B (lv_sub hl [1, 2, 0] rfl)
  · have hF := it_f hF (not_not_intro c47)
    refine lv_iconst (v := 0) hx hb dX9_writePassenger_12 (by decide) ?_
    exact fr_iret C B hr rfl hlk (by rw [← Option.some.inj hF]) (Nat.le_of_ble_eq_true rfl) (Nat.le_of_ble_eq_true rfl) dX9_writePassenger_13
def F_X9_textAt (M : fw_M) (a1 : Int32) : Option (Int32 × fw_M) :=
  bd_x (F_X9_in M a1 0 ((M 378 8) - 1)) fun r2 =>
  bd_p (F_X9_isThere M r2) fun r5 M6 =>
  if r5 = 0 then
    some (32, M6)
  else
    if ix_i a1 40 then
    if fw_nc (fw_ri M6 383 a1) = (fw_ri M6 383 a1) then
    some ((fw_ri M6 383 a1), M6)
    else none
    else none
set_option maxHeartbeats 4000000 in
set_option maxRecDepth 100000 in
theorem cm_X9_textAt {l : Launch} {X : fw_X} {M : fw_M} {a1 : Int32}  {o : Int32 × fw_M} (hF : F_X9_textAt M a1 = some o) : ct_i l X yX9_textAt cX9_textAt 2 (some .char) ({ frames := 1, cells := 0, slots := 0, locals := 22 } : Room) M [.ref (fw_ad X 378), .int a1] (.inl o.1, o.2) := by
  refine fw_open rfl (Nat.le_of_ble_eq_true rfl) (fun p e s m below meth c ls C hr hlk hnm hex hl B => ?_)
  have C : fr_C X p c cX9_textAt 2 RX9 s m ([.ref (fw_ad X 378), .int a1] : List Value).toArray := C
  have hx := C.1.1
  have hb := C.1.2.1
  have hl : lv_has ls 2 [(0, .ref (fw_ad X 378)), (1, .int a1)] := hl
  unfold F_X9_textAt at hF
  refine lv_aload_n hx hb dX9_textAt_0 rfl (lv_at hl 0 rfl) ?_
  refine lv_iload_n hx hb dX9_textAt_1 rfl (lv_at hl 1 rfl) ?_
  refine lv_iconst (v := 0) hx hb dX9_textAt_2 (by decide) ?_
  refine lv_aload_n hx hb dX9_textAt_3 rfl (lv_at hl 0 rfl) ?_
  refine gf_X9_196 C B dX9_textAt_4 ?_
  refine lv_iconst (v := 1) hx hb dX9_textAt_7 (by decide) ?_
  refine lv_isub hx hb dX9_textAt_8 ?_
  obtain ⟨r2, hf1, hF⟩ := bx_e hF
  refine fr_cSi (As := [.int a1, .int 0, .int ((M 378 8) - 1)]) (rest := [.ref (fw_ad X 378)]) C B (cm_X9_in hf1) yw_X9_in wm_X9_51 rfl hl.1 rfl (Nat.le_of_ble_eq_true rfl) ⟨Nat.le_of_ble_eq_true rfl, Nat.le_of_ble_eq_true rfl⟩ ⟨Nat.le_of_ble_eq_true rfl, Nat.le_of_ble_eq_true rfl⟩ dX9_textAt_9 (fr_nx rfl) (fun r9 M9 H locs ho9 B => ?_)
  obtain ⟨rfl, rfl⟩ := oi_e ho9
  obtain ⟨r5, M6, hf4, hF⟩ := bp_e hF
  refine fr_cVi (As := [.int r2]) (rest := []) C B (cm_X9_isThere hf4) ob_9 rfl yw_X9_isThere wm_X9_91 rfl hl.1 rfl (Nat.le_of_ble_eq_true rfl) ⟨Nat.le_of_ble_eq_true rfl, Nat.le_of_ble_eq_true rfl⟩ ⟨Nat.le_of_ble_eq_true rfl, Nat.le_of_ble_eq_true rfl⟩ dX9_textAt_12 (fr_nx rfl) (fun r9 M9 H locs ho9 B => ?_)
  obtain ⟨rfl, rfl⟩ := oi_e ho9
  refine lv_if_eq (tgt := 27) hx hb dX9_textAt_15 (by decide) (fun c7 => ?_) (fun c7 => ?_)
  · have hF := it_t hF c7
    refine lv_bipush (v := 32) hx hb dX9_textAt_27 (by decide) ?_
    exact fr_iret C B hr (by decide) hlk (by rw [← Option.some.inj hF]) (Nat.le_of_ble_eq_true rfl) (Nat.le_of_ble_eq_true rfl) dX9_textAt_29
  · have hF := it_f hF c7
    refine lv_aload_n hx hb dX9_textAt_18 rfl (lv_at hl 0 rfl) ?_
    refine gf_X9_22 C B dX9_textAt_19 ?_
    refine lv_iload_n hx hb dX9_textAt_22 rfl (lv_at hl 1 rfl) ?_
    obtain ⟨c8, hF⟩ := of_g hF
    refine fr_ca C B ar_9_383 c8 dX9_textAt_23 ?_
    refine lv_goto (tgt := 29) hx hb dX9_textAt_24 (by decide) ?_
    obtain ⟨c9, hF⟩ := of_g hF
    exact fr_iret C B hr (nz_c c9) hlk (by rw [← Option.some.inj hF]) (Nat.le_of_ble_eq_true rfl) (Nat.le_of_ble_eq_true rfl) dX9_textAt_29
def F_X9_meanRides_24   : Nat → Int32 → Int32 → Int32 → fw_M → Option (UInt64 × fw_M)
  | 0, _, _, _, _ => none
  | n + 1, x1, x2, x3, M =>
    if x1 ≤ x3 then
      if (M 378 6) ≤ 0 then
        if vn_d (FP.ddiv (FP.i2d x2) (FP.i2d x1)) then
        some ((FP.ddiv (FP.i2d x2) (FP.i2d x1)), M)
        else none
      else
        some (FP.dconst0, M)
    else
      bd_x (F_X9_ofPassenger M x3 3) fun r5 =>
      F_X9_meanRides_24  n x1 (x2 + r5) (x3 + 1) M
def F_X9_meanRides (M : fw_M) : Option (UInt64 × fw_M) :=
  if ix_i 3 129 then
  if ¬ (fw_ri M 379 3) = 0 then
    lt_x (fw_up M 378 6 0) fun M9 =>
    F_X9_meanRides_24 64 (fw_ri M 379 3) 0 0 M9
  else
    lt_x (fw_up M 378 6 1) fun M10 =>
    F_X9_meanRides_24 64 (fw_ri M 379 3) 0 0 M10
  else none
set_option maxHeartbeats 4000000 in
set_option maxRecDepth 100000 in
theorem cm_X9_meanRides {l : Launch} {X : fw_X} {M : fw_M}  {o : UInt64 × fw_M} (hF : F_X9_meanRides M = some o) : ct_d l X yX9_meanRides cX9_meanRides 4 (some .double) ({ frames := 1, cells := 0, slots := 0, locals := 22 } : Room) M [.ref (fw_ad X 378)] (.inl o.1, o.2) := by
  refine fw_open rfl (Nat.le_of_ble_eq_true rfl) (fun p e s m below meth c ls C hr hlk hnm hex hl B => ?_)
  have C : fr_C X p c cX9_meanRides 4 RX9 s m ([.ref (fw_ad X 378)] : List Value).toArray := C
  have hx := C.1.1
  have hb := C.1.2.1
  have hl : lv_has ls 4 [(0, .ref (fw_ad X 378))] := hl
  have hJ24 : ∀ (n : Nat), ∀ (x1 : Int32) (x2 : Int32) (x3 : Int32) (M : fw_M) (H : Heap) (locs : List Loc) (ls : Array Slot), F_X9_meanRides_24  n x1 x2 x3 M = some o → fr_H X s M H locs → lv_has ls 4 [(0, .ref (fw_ad X 378)), (1, .int x1), (2, .int x2), (3, .int x3)] → W p l e ({ frames := 1, cells := 0, slots := 0, locals := 22 } : Room) s m ([.ref (fw_ad X 378)] : List Value).toArray below meth c H locs 0 0 (vx_MQ below (fw_Qdd X (.inl o.1, o.2)) (fw_Qx X (dO (.inl o.1, o.2))) ([.ref (fw_ad X 378)] : List Value).toArray s 0 0 (fw_A X)) (F0 m 24 ls []) := by
    intro n
    induction n with
    | zero =>
      intro x1 x2 x3 M H locs ls hF B hl
      exact absurd hF (by simp [F_X9_meanRides_24])
    | succ n ih =>
      intro x1 x2 x3 M H locs ls hF B hl
      rw [F_X9_meanRides_24] at hF
      refine lv_iload_n hx hb dX9_meanRides_24 rfl (lv_at hl 3 rfl) ?_
      refine lv_iload_n hx hb dX9_meanRides_25 rfl (lv_at hl 1 rfl) ?_
      refine lv_icmp_ge (tgt := 44) hx hb dX9_meanRides_26 (by decide) (fun c1 => ?_) (fun c1 => ?_)
      · have hF := it_t hF c1
        refine lv_aload_n hx hb dX9_meanRides_44 rfl (lv_at hl 0 rfl) ?_
        refine gf_X9_39 C B dX9_meanRides_45 ?_
        refine lv_if_le (tgt := 55) hx hb dX9_meanRides_48 (by decide) (fun c2 => ?_) (fun c2 => ?_)
        · have hF := it_t hF c2
          refine lv_iload_n hx hb dX9_meanRides_55 rfl (lv_at hl 2 rfl) ?_
          refine lv_i2d hx hb dX9_meanRides_56 ?_
          refine lv_iload_n hx hb dX9_meanRides_57 rfl (lv_at hl 1 rfl) ?_
          refine lv_i2d hx hb dX9_meanRides_58 ?_
          obtain ⟨c3, hF⟩ := of_g hF
          refine lv_ddiv hx hb dX9_meanRides_59 c3 ?_
          exact fr_dret C B hr hlk (by rw [← Option.some.inj hF]) (Nat.le_of_ble_eq_true rfl) (Nat.le_of_ble_eq_true rfl) dX9_meanRides_60
        · have hF := it_f hF c2
          refine lv_dconst0 hx hb dX9_meanRides_51 ?_
          refine lv_goto (tgt := 60) hx hb dX9_meanRides_52 (by decide) ?_
          exact fr_dret C B hr hlk (by rw [← Option.some.inj hF]) (Nat.le_of_ble_eq_true rfl) (Nat.le_of_ble_eq_true rfl) dX9_meanRides_60
      · have hF := it_f hF c1
        refine lv_iload_n hx hb dX9_meanRides_29 rfl (lv_at hl 2 rfl) ?_
        refine lv_aload_n hx hb dX9_meanRides_30 rfl (lv_at hl 0 rfl) ?_
        refine lv_iload_n hx hb dX9_meanRides_31 rfl (lv_at hl 3 rfl) ?_
        refine lv_iconst (v := 3) hx hb dX9_meanRides_32 (by decide) ?_
        obtain ⟨r5, hf4, hF⟩ := bx_e hF
        refine fr_cVi (As := [.int x3, .int 3]) (rest := [.int x2]) C B (cm_X9_ofPassenger hf4) ob_9 rfl yw_X9_ofPassenger wm_X9_117 rfl hl.1 rfl (Nat.le_of_ble_eq_true rfl) ⟨Nat.le_of_ble_eq_true rfl, Nat.le_of_ble_eq_true rfl⟩ ⟨Nat.le_of_ble_eq_true rfl, Nat.le_of_ble_eq_true rfl⟩ dX9_meanRides_33 (fr_nx rfl) (fun r9 M9 H locs ho9 B => ?_)
        obtain ⟨rfl, rfl⟩ := oi_e ho9
        refine lv_iadd hx hb dX9_meanRides_36 ?_
        refine lv_istore_n (lv' := [(2, .int (x2 + r5)), (0, .ref (fw_ad X 378)), (1, .int x1), (3, .int x3)]) hx hb dX9_meanRides_37 rfl hl (by decide) rfl (fun ls hl => ?_)
        refine lv_iinc (v := (x3 + 1)) (lv' := [(3, .int (x3 + 1)), (2, .int (x2 + r5)), (0, .ref (fw_ad X 378)), (1, .int x1)]) hx hb dX9_meanRides_38 hl (k := 3) rfl rfl (by decide) rfl (fun ls hl => ?_)
        refine lv_goto (tgt := 24) hx hb dX9_meanRides_41 (by decide) ?_
        exact ih x1 (x2 + r5) (x3 + 1) M _ _ _ hF B (lv_sub hl [2, 3, 1, 0] rfl)
  unfold F_X9_meanRides at hF
  refine lv_aload_n hx hb dX9_meanRides_0 rfl (lv_at hl 0 rfl) ?_
  refine gf_X9_9 C B dX9_meanRides_1 ?_
  refine lv_iconst (v := 3) hx hb dX9_meanRides_4 (by decide) ?_
  obtain ⟨c7, hF⟩ := of_g hF
  refine fr_ia C B ar_9_379 c7 dX9_meanRides_5 ?_
  refine lv_istore_n (lv' := [(1, .int (fw_ri M 379 3)), (0, .ref (fw_ad X 378))]) hx hb dX9_meanRides_6 rfl hl (by decide) rfl (fun ls hl => ?_)
  refine lv_aload_n hx hb dX9_meanRides_7 rfl (lv_at hl 1 rfl) ?_
  refine lv_iload_n hx hb dX9_meanRides_8 rfl (lv_at hl 0 rfl) ?_
  refine lv_if_ne (tgt := 16) hx hb dX9_meanRides_9 (by decide) (fun c8 => ?_) (fun c8 => ?_)
  · have hF := it_t hF c8
    refine lv_iconst (v := 0) hx hb dX9_meanRides_16 (by decide) ?_
    refine pf_X9_39 C B dX9_meanRides_17 (fun H locs B => ?_)
    obtain ⟨M9, eM9, hF⟩ := lt_e hF
    rw [← eM9] at B
    refine lv_iconst (v := 0) hx hb dX9_meanRides_20 (by decide) ?_
    refine lv_istore_n (lv' := [(2, .int 0), (1, .int (fw_ri M 379 3)), (0, .ref (fw_ad X 378))]) hx hb dX9_meanRides_21 rfl hl (by decide) rfl (fun ls hl => ?_)
    refine lv_iconst (v := 0) hx hb dX9_meanRides_22 (by decide) ?_
    refine lv_istore_n (lv' := [(3, .int 0), (2, .int 0), (1, .int (fw_ri M 379 3)), (0, .ref (fw_ad X 378))]) hx hb dX9_meanRides_23 rfl hl (by decide) rfl (fun ls hl => ?_)
    exact hJ24 64 (fw_ri M 379 3) 0 0 M9 _ _ _ hF B (lv_sub hl [3, 2, 1, 0] rfl)
  · have hF := it_f hF (not_not_intro c8)
    refine lv_iconst (v := 1) hx hb dX9_meanRides_12 (by decide) ?_
    refine lv_goto (tgt := 17) hx hb dX9_meanRides_13 (by decide) ?_
    refine pf_X9_39 C B dX9_meanRides_17 (fun H locs B => ?_)
    obtain ⟨M10, eM10, hF⟩ := lt_e hF
    rw [← eM10] at B
    refine lv_iconst (v := 0) hx hb dX9_meanRides_20 (by decide) ?_
    refine lv_istore_n (lv' := [(2, .int 0), (1, .int (fw_ri M 379 3)), (0, .ref (fw_ad X 378))]) hx hb dX9_meanRides_21 rfl hl (by decide) rfl (fun ls hl => ?_)
    refine lv_iconst (v := 0) hx hb dX9_meanRides_22 (by decide) ?_
    refine lv_istore_n (lv' := [(3, .int 0), (2, .int 0), (1, .int (fw_ri M 379 3)), (0, .ref (fw_ad X 378))]) hx hb dX9_meanRides_23 rfl hl (by decide) rfl (fun ls hl => ?_)
    exact hJ24 64 (fw_ri M 379 3) 0 0 M10 _ _ _ hF B (lv_sub hl [3, 2, 1, 0] rfl)
def F_X9_truthShare_24   : Nat → Int32 → Int32 → Int32 → fw_M → Option (UInt32 × fw_M)
  | 0, _, _, _, _ => none
  | n + 1, x1, x2, x3, M =>
    if x1 ≤ x3 then
      if (M 378 6) ≤ 0 then
        if vn_f (FP.fdiv (FP.i2f x2) (FP.i2f x1)) then
        some ((FP.fdiv (FP.i2f x2) (FP.i2f x1)), M)
        else none
      else
        some (FP.fconst0, M)
    else
      bd_x (F_X9_carrier M x3) fun r5 =>
      if 0 ≤ r5 then
        F_X9_truthShare_24  n x1 (x2 + 0) (x3 + 1) M
      else
        F_X9_truthShare_24  n x1 (x2 + 1) (x3 + 1) M
def F_X9_truthShare (M : fw_M) : Option (UInt32 × fw_M) :=
  if ix_i 4 129 then
  if ¬ (fw_ri M 379 4) = 0 then
    lt_x (fw_up M 378 6 0) fun M10 =>
    F_X9_truthShare_24 64 (fw_ri M 379 4) 0 0 M10
  else
    lt_x (fw_up M 378 6 1) fun M11 =>
    F_X9_truthShare_24 64 (fw_ri M 379 4) 0 0 M11
  else none
set_option maxHeartbeats 4000000 in
set_option maxRecDepth 100000 in
theorem cm_X9_truthShare {l : Launch} {X : fw_X} {M : fw_M}  {o : UInt32 × fw_M} (hF : F_X9_truthShare M = some o) : ct_f l X yX9_truthShare cX9_truthShare 4 (some .float) ({ frames := 1, cells := 0, slots := 0, locals := 21 } : Room) M [.ref (fw_ad X 378)] (.inl o.1, o.2) := by
  refine fw_open rfl (Nat.le_of_ble_eq_true rfl) (fun p e s m below meth c ls C hr hlk hnm hex hl B => ?_)
  have C : fr_C X p c cX9_truthShare 4 RX9 s m ([.ref (fw_ad X 378)] : List Value).toArray := C
  have hx := C.1.1
  have hb := C.1.2.1
  have hl : lv_has ls 4 [(0, .ref (fw_ad X 378))] := hl
  have hJ24 : ∀ (n : Nat), ∀ (x1 : Int32) (x2 : Int32) (x3 : Int32) (M : fw_M) (H : Heap) (locs : List Loc) (ls : Array Slot), F_X9_truthShare_24  n x1 x2 x3 M = some o → fr_H X s M H locs → lv_has ls 4 [(0, .ref (fw_ad X 378)), (1, .int x1), (2, .int x2), (3, .int x3)] → W p l e ({ frames := 1, cells := 0, slots := 0, locals := 21 } : Room) s m ([.ref (fw_ad X 378)] : List Value).toArray below meth c H locs 0 0 (vx_MQ below (fw_Qff X (.inl o.1, o.2)) (fw_Qx X (fO (.inl o.1, o.2))) ([.ref (fw_ad X 378)] : List Value).toArray s 0 0 (fw_A X)) (F0 m 24 ls []) := by
    intro n
    induction n with
    | zero =>
      intro x1 x2 x3 M H locs ls hF B hl
      exact absurd hF (by simp [F_X9_truthShare_24])
    | succ n ih =>
      intro x1 x2 x3 M H locs ls hF B hl
      rw [F_X9_truthShare_24] at hF
      refine lv_iload_n hx hb dX9_truthShare_24 rfl (lv_at hl 3 rfl) ?_
      refine lv_iload_n hx hb dX9_truthShare_25 rfl (lv_at hl 1 rfl) ?_
      refine lv_icmp_ge (tgt := 51) hx hb dX9_truthShare_26 (by decide) (fun c1 => ?_) (fun c1 => ?_)
      · have hF := it_t hF c1
        refine lv_aload_n hx hb dX9_truthShare_51 rfl (lv_at hl 0 rfl) ?_
        refine gf_X9_39 C B dX9_truthShare_52 ?_
        refine lv_if_le (tgt := 62) hx hb dX9_truthShare_55 (by decide) (fun c2 => ?_) (fun c2 => ?_)
        · have hF := it_t hF c2
          refine lv_iload_n hx hb dX9_truthShare_62 rfl (lv_at hl 2 rfl) ?_
          refine lv_i2f hx hb dX9_truthShare_63 ?_
          refine lv_iload_n hx hb dX9_truthShare_64 rfl (lv_at hl 1 rfl) ?_
          refine lv_i2f hx hb dX9_truthShare_65 ?_
          obtain ⟨c3, hF⟩ := of_g hF
          refine lv_fdiv hx hb dX9_truthShare_66 c3 ?_
          exact fr_fret C B hr hlk (by rw [← Option.some.inj hF]) (Nat.le_of_ble_eq_true rfl) (Nat.le_of_ble_eq_true rfl) dX9_truthShare_67
        · have hF := it_f hF c2
          refine lv_fconst0 hx hb dX9_truthShare_58 ?_
          refine lv_goto (tgt := 67) hx hb dX9_truthShare_59 (by decide) ?_
          exact fr_fret C B hr hlk (by rw [← Option.some.inj hF]) (Nat.le_of_ble_eq_true rfl) (Nat.le_of_ble_eq_true rfl) dX9_truthShare_67
      · have hF := it_f hF c1
        refine lv_iload_n hx hb dX9_truthShare_29 rfl (lv_at hl 2 rfl) ?_
        refine lv_aload_n hx hb dX9_truthShare_30 rfl (lv_at hl 0 rfl) ?_
        refine lv_iload_n hx hb dX9_truthShare_31 rfl (lv_at hl 3 rfl) ?_
        obtain ⟨r5, hf4, hF⟩ := bx_e hF
        refine fr_cVi (As := [.int x3]) (rest := [.int x2]) C B (cm_X9_carrier hf4) ob_9 rfl yw_X9_carrier wm_X9_159 rfl hl.1 rfl (Nat.le_of_ble_eq_true rfl) ⟨Nat.le_of_ble_eq_true rfl, Nat.le_of_ble_eq_true rfl⟩ ⟨Nat.le_of_ble_eq_true rfl, Nat.le_of_ble_eq_true rfl⟩ dX9_truthShare_32 (fr_nx rfl) (fun r9 M9 H locs ho9 B => ?_)
        obtain ⟨rfl, rfl⟩ := oi_e ho9
        refine lv_if_ge (tgt := 42) hx hb dX9_truthShare_35 (by decide) (fun c7 => ?_) (fun c7 => ?_)
        · have hF := it_t hF c7
          refine lv_iconst (v := 0) hx hb dX9_truthShare_42 (by decide) ?_
          refine lv_iadd hx hb dX9_truthShare_43 ?_
          refine lv_istore_n (lv' := [(2, .int (x2 + 0)), (0, .ref (fw_ad X 378)), (1, .int x1), (3, .int x3)]) hx hb dX9_truthShare_44 rfl hl (by decide) rfl (fun ls hl => ?_)
          refine lv_iinc (v := (x3 + 1)) (lv' := [(3, .int (x3 + 1)), (2, .int (x2 + 0)), (0, .ref (fw_ad X 378)), (1, .int x1)]) hx hb dX9_truthShare_45 hl (k := 3) rfl rfl (by decide) rfl (fun ls hl => ?_)
          refine lv_goto (tgt := 24) hx hb dX9_truthShare_48 (by decide) ?_
          exact ih x1 (x2 + 0) (x3 + 1) M _ _ _ hF B (lv_sub hl [2, 3, 1, 0] rfl)
        · have hF := it_f hF c7
          refine lv_iconst (v := 1) hx hb dX9_truthShare_38 (by decide) ?_
          refine lv_goto (tgt := 43) hx hb dX9_truthShare_39 (by decide) ?_
          refine lv_iadd hx hb dX9_truthShare_43 ?_
          refine lv_istore_n (lv' := [(2, .int (x2 + 1)), (0, .ref (fw_ad X 378)), (1, .int x1), (3, .int x3)]) hx hb dX9_truthShare_44 rfl hl (by decide) rfl (fun ls hl => ?_)
          refine lv_iinc (v := (x3 + 1)) (lv' := [(3, .int (x3 + 1)), (2, .int (x2 + 1)), (0, .ref (fw_ad X 378)), (1, .int x1)]) hx hb dX9_truthShare_45 hl (k := 3) rfl rfl (by decide) rfl (fun ls hl => ?_)
          refine lv_goto (tgt := 24) hx hb dX9_truthShare_48 (by decide) ?_
          exact ih x1 (x2 + 1) (x3 + 1) M _ _ _ hF B (lv_sub hl [2, 3, 1, 0] rfl)
  unfold F_X9_truthShare at hF
  refine lv_aload_n hx hb dX9_truthShare_0 rfl (lv_at hl 0 rfl) ?_
  refine gf_X9_9 C B dX9_truthShare_1 ?_
  refine lv_iconst (v := 4) hx hb dX9_truthShare_4 (by decide) ?_
  obtain ⟨c8, hF⟩ := of_g hF
  refine fr_ia C B ar_9_379 c8 dX9_truthShare_5 ?_
  refine lv_istore_n (lv' := [(1, .int (fw_ri M 379 4)), (0, .ref (fw_ad X 378))]) hx hb dX9_truthShare_6 rfl hl (by decide) rfl (fun ls hl => ?_)
  refine lv_aload_n hx hb dX9_truthShare_7 rfl (lv_at hl 1 rfl) ?_
  refine lv_iload_n hx hb dX9_truthShare_8 rfl (lv_at hl 0 rfl) ?_
  refine lv_if_ne (tgt := 16) hx hb dX9_truthShare_9 (by decide) (fun c9 => ?_) (fun c9 => ?_)
  · have hF := it_t hF c9
    refine lv_iconst (v := 0) hx hb dX9_truthShare_16 (by decide) ?_
    refine pf_X9_39 C B dX9_truthShare_17 (fun H locs B => ?_)
    obtain ⟨M10, eM10, hF⟩ := lt_e hF
    rw [← eM10] at B
    refine lv_iconst (v := 0) hx hb dX9_truthShare_20 (by decide) ?_
    refine lv_istore_n (lv' := [(2, .int 0), (1, .int (fw_ri M 379 4)), (0, .ref (fw_ad X 378))]) hx hb dX9_truthShare_21 rfl hl (by decide) rfl (fun ls hl => ?_)
    refine lv_iconst (v := 0) hx hb dX9_truthShare_22 (by decide) ?_
    refine lv_istore_n (lv' := [(3, .int 0), (2, .int 0), (1, .int (fw_ri M 379 4)), (0, .ref (fw_ad X 378))]) hx hb dX9_truthShare_23 rfl hl (by decide) rfl (fun ls hl => ?_)
    exact hJ24 64 (fw_ri M 379 4) 0 0 M10 _ _ _ hF B (lv_sub hl [3, 2, 1, 0] rfl)
  · have hF := it_f hF (not_not_intro c9)
    refine lv_iconst (v := 1) hx hb dX9_truthShare_12 (by decide) ?_
    refine lv_goto (tgt := 17) hx hb dX9_truthShare_13 (by decide) ?_
    refine pf_X9_39 C B dX9_truthShare_17 (fun H locs B => ?_)
    obtain ⟨M11, eM11, hF⟩ := lt_e hF
    rw [← eM11] at B
    refine lv_iconst (v := 0) hx hb dX9_truthShare_20 (by decide) ?_
    refine lv_istore_n (lv' := [(2, .int 0), (1, .int (fw_ri M 379 4)), (0, .ref (fw_ad X 378))]) hx hb dX9_truthShare_21 rfl hl (by decide) rfl (fun ls hl => ?_)
    refine lv_iconst (v := 0) hx hb dX9_truthShare_22 (by decide) ?_
    refine lv_istore_n (lv' := [(3, .int 0), (2, .int 0), (1, .int (fw_ri M 379 4)), (0, .ref (fw_ad X 378))]) hx hb dX9_truthShare_23 rfl hl (by decide) rfl (fun ls hl => ?_)
    exact hJ24 64 (fw_ri M 379 4) 0 0 M11 _ _ _ hF B (lv_sub hl [3, 2, 1, 0] rfl)
def F_X9_isConsistent (M : fw_M) : Option (Int32 × fw_M) :=
  lt_x (fw_up M 378 6 0) fun M1 =>
  some (1, M1)
set_option maxHeartbeats 4000000 in
set_option maxRecDepth 100000 in
theorem cm_X9_isConsistent {l : Launch} {X : fw_X} {M : fw_M}  {o : Int32 × fw_M} (hF : F_X9_isConsistent M = some o) : ct_i l X yX9_isConsistent cX9_isConsistent 1 (some .boolean) ({ frames := 0, cells := 0, slots := 0, locals := 0 } : Room) M [.ref (fw_ad X 378)] (.inl o.1, o.2) := by
  refine fw_open rfl (Nat.le_of_ble_eq_true rfl) (fun p e s m below meth c ls C hr hlk hnm hex hl B => ?_)
  have C : fr_C X p c cX9_isConsistent 1 RX9 s m ([.ref (fw_ad X 378)] : List Value).toArray := C
  have hx := C.1.1
  have hb := C.1.2.1
  have hl : lv_has ls 1 [(0, .ref (fw_ad X 378))] := hl
  unfold F_X9_isConsistent at hF
  refine lv_aload_n hx hb dX9_isConsistent_0 rfl (lv_at hl 0 rfl) ?_
  refine lv_iconst (v := 0) hx hb dX9_isConsistent_1 (by decide) ?_
  refine pf_X9_39 C B dX9_isConsistent_2 (fun H locs B => ?_)
  obtain ⟨M1, eM1, hF⟩ := lt_e hF
  rw [← eM1] at B
  refine lv_iconst (v := 1) hx hb dX9_isConsistent_5 (by decide) ?_
  exact fr_iret C B hr rfl hlk (by rw [← Option.some.inj hF]) (Nat.le_of_ble_eq_true rfl) (Nat.le_of_ble_eq_true rfl) dX9_isConsistent_6
def F_X9_type_33 (a1 : Int32)  (M : fw_M) : Option (Int32 × fw_M) :=
  if (M 378 6) ≤ 0 then
    if ix_i (M 378 10) 60 then
    lt_x (fw_wi M 384 (M 378 10) (fw_nc a1)) fun M3 =>
    lt_x (fw_up M3 378 10 ((M3 378 10) + 1)) fun M4 =>
    some ((M4 378 10), M4)
    else none
  else
    some (0, M)
def F_X9_type (M : fw_M) (a1 : Int32) : Option (Int32 × fw_M) :=
  bd_x (F_X9_in M a1 32 126) fun r6 =>
  if ¬ r6 = 0 then
    if ¬ (M 378 10) = 60 then
      lt_x (fw_up M 378 6 0) fun M10 =>
      F_X9_type_33 a1 M10
    else
      lt_x (fw_up M 378 6 2) fun M11 =>
      F_X9_type_33 a1 M11
  else
    lt_x (fw_up M 378 6 1) fun M12 =>
    F_X9_type_33 a1 M12
set_option maxHeartbeats 4000000 in
set_option maxRecDepth 100000 in
theorem cm_X9_type {l : Launch} {X : fw_X} {M : fw_M} {a1 : Int32}  {o : Int32 × fw_M} (hF : F_X9_type M a1 = some o) : ct_i l X yX9_type cX9_type 2 (some .int) ({ frames := 1, cells := 0, slots := 0, locals := 22 } : Room) M [.ref (fw_ad X 378), .int a1] (.inl o.1, o.2) := by
  refine fw_open rfl (Nat.le_of_ble_eq_true rfl) (fun p e s m below meth c ls C hr hlk hnm hex hl B => ?_)
  have C : fr_C X p c cX9_type 2 RX9 s m ([.ref (fw_ad X 378), .int a1] : List Value).toArray := C
  have hx := C.1.1
  have hb := C.1.2.1
  have hl : lv_has ls 2 [(0, .ref (fw_ad X 378)), (1, .int a1)] := hl
  have hJ33 : ∀ (M : fw_M) (H : Heap) (locs : List Loc) (ls : Array Slot), F_X9_type_33 a1 M = some o → fr_H X s M H locs → lv_has ls 2 [(0, .ref (fw_ad X 378)), (1, .int a1)] → W p l e ({ frames := 1, cells := 0, slots := 0, locals := 22 } : Room) s m ([.ref (fw_ad X 378), .int a1] : List Value).toArray below meth c H locs 0 0 (vx_MQ below (fw_Qi X (.inl o.1, o.2)) (fw_Qx X (.inl o.1, o.2)) ([.ref (fw_ad X 378), .int a1] : List Value).toArray s 0 0 (fw_A X)) (F0 m 33 ls []) := by
    intro M H locs ls hF B hl
    unfold F_X9_type_33 at hF
    refine lv_aload_n hx hb dX9_type_33 rfl (lv_at hl 0 rfl) ?_
    refine gf_X9_39 C B dX9_type_34 ?_
    refine lv_if_le (tgt := 42) hx hb dX9_type_37 (by decide) (fun c1 => ?_) (fun c1 => ?_)
    · have hF := it_t hF c1
      refine lv_aload_n hx hb dX9_type_42 rfl (lv_at hl 0 rfl) ?_
      refine gf_X9_26 C B dX9_type_43 ?_
      refine lv_aload_n hx hb dX9_type_46 rfl (lv_at hl 0 rfl) ?_
      refine gf_X9_207 C B dX9_type_47 ?_
      refine lv_iload_n hx hb dX9_type_50 rfl (lv_at hl 1 rfl) ?_
      obtain ⟨c2, hF⟩ := of_g hF
      refine fr_cs C B ar_9_384 c2 dX9_type_51 (fun H locs B => ?_)
      obtain ⟨M3, eM3, hF⟩ := lt_e hF
      rw [← eM3] at B
      refine lv_aload_n hx hb dX9_type_52 rfl (lv_at hl 0 rfl) ?_
      refine lv_dup hx hb dX9_type_53 rfl ?_
      refine gf_X9_207 C B dX9_type_54 ?_
      refine lv_iconst (v := 1) hx hb dX9_type_57 (by decide) ?_
      refine lv_iadd hx hb dX9_type_58 ?_
      refine pf_X9_207 C B dX9_type_59 (fun H locs B => ?_)
      obtain ⟨M4, eM4, hF⟩ := lt_e hF
      rw [← eM4] at B
      refine lv_aload_n hx hb dX9_type_62 rfl (lv_at hl 0 rfl) ?_
      refine gf_X9_207 C B dX9_type_63 ?_
      exact fr_iret C B hr rfl hlk (by rw [← Option.some.inj hF]) (Nat.le_of_ble_eq_true rfl) (Nat.le_of_ble_eq_true rfl) dX9_type_66
    · have hF := it_f hF c1
      refine lv_iconst (v := 0) hx hb dX9_type_40 (by decide) ?_
      exact fr_iret C B hr rfl hlk (by rw [← Option.some.inj hF]) (Nat.le_of_ble_eq_true rfl) (Nat.le_of_ble_eq_true rfl) dX9_type_41
  unfold F_X9_type at hF
  refine lv_aload_n hx hb dX9_type_0 rfl (lv_at hl 0 rfl) ?_
  refine lv_iload_n hx hb dX9_type_1 rfl (lv_at hl 1 rfl) ?_
  refine lv_bipush (v := 32) hx hb dX9_type_2 (by decide) ?_
  refine lv_bipush (v := 126) hx hb dX9_type_4 (by decide) ?_
  obtain ⟨r6, hf5, hF⟩ := bx_e hF
  refine fr_cSi (As := [.int a1, .int 32, .int 126]) (rest := [.ref (fw_ad X 378)]) C B (cm_X9_in hf5) yw_X9_in wm_X9_51 rfl hl.1 rfl (Nat.le_of_ble_eq_true rfl) ⟨Nat.le_of_ble_eq_true rfl, Nat.le_of_ble_eq_true rfl⟩ ⟨Nat.le_of_ble_eq_true rfl, Nat.le_of_ble_eq_true rfl⟩ dX9_type_6 (fr_nx rfl) (fun r9 M9 H locs ho9 B => ?_)
  obtain ⟨rfl, rfl⟩ := oi_e ho9
  refine lv_if_ne (tgt := 16) hx hb dX9_type_9 (by decide) (fun c8 => ?_) (fun c8 => ?_)
  · have hF := it_t hF c8
    refine lv_aload_n hx hb dX9_type_16 rfl (lv_at hl 0 rfl) ?_
    refine gf_X9_207 C B dX9_type_17 ?_
    refine lv_bipush (v := 60) hx hb dX9_type_20 (by decide) ?_
    refine lv_icmp_ne (tgt := 29) hx hb dX9_type_22 (by decide) (fun c9 => ?_) (fun c9 => ?_)
    · have hF := it_t hF c9
      refine lv_iconst (v := 0) hx hb dX9_type_29 (by decide) ?_
      refine pf_X9_39 C B dX9_type_30 (fun H locs B => ?_)
      obtain ⟨M10, eM10, hF⟩ := lt_e hF
      rw [← eM10] at B
      exact hJ33 M10 _ _ _ hF B (lv_sub hl [0, 1] rfl)
    · have hF := it_f hF (not_not_intro c9)
      refine lv_iconst (v := 2) hx hb dX9_type_25 (by decide) ?_
      refine lv_goto (tgt := 30) hx hb dX9_type_26 (by decide) ?_
      refine pf_X9_39 C B dX9_type_30 (fun H locs B => ?_)
      obtain ⟨M11, eM11, hF⟩ := lt_e hF
      rw [← eM11] at B
      exact hJ33 M11 _ _ _ hF B (lv_sub hl [0, 1] rfl)
  · have hF := it_f hF (not_not_intro c8)
    refine lv_iconst (v := 1) hx hb dX9_type_12 (by decide) ?_
    refine lv_goto (tgt := 30) hx hb dX9_type_13 (by decide) ?_
    refine pf_X9_39 C B dX9_type_30 (fun H locs B => ?_)
    obtain ⟨M12, eM12, hF⟩ := lt_e hF
    rw [← eM12] at B
    exact hJ33 M12 _ _ _ hF B (lv_sub hl [0, 1] rfl)
def F_X9_behind (M : fw_M) (a1 : Int32) : Option (Int32) :=
  if (M 378 10) ≤ ((M 378 11) + a1) then
    some 0
  else
    if ix_i ((M 378 11) + a1) 60 then
    if fw_nc (fw_ri M 384 ((M 378 11) + a1)) = (fw_ri M 384 ((M 378 11) + a1)) then
    some (fw_ri M 384 ((M 378 11) + a1))
    else none
    else none
set_option maxHeartbeats 4000000 in
set_option maxRecDepth 100000 in
theorem cm_X9_behind {l : Launch} {X : fw_X} {M : fw_M} {a1 : Int32}  {o : Int32} (hF : F_X9_behind M a1 = some o) : ct_i l X yX9_behind cX9_behind 2 (some .char) ({ frames := 0, cells := 0, slots := 0, locals := 0 } : Room) M [.ref (fw_ad X 378), .int a1] (.inl o, M) := by
  refine fw_open rfl (Nat.le_of_ble_eq_true rfl) (fun p e s m below meth c ls C hr hlk hnm hex hl B => ?_)
  have C : fr_C X p c cX9_behind 2 RX9 s m ([.ref (fw_ad X 378), .int a1] : List Value).toArray := C
  have hx := C.1.1
  have hb := C.1.2.1
  have hl : lv_has ls 2 [(0, .ref (fw_ad X 378)), (1, .int a1)] := hl
  unfold F_X9_behind at hF
  refine lv_aload_n hx hb dX9_behind_0 rfl (lv_at hl 0 rfl) ?_
  refine gf_X9_210 C B dX9_behind_1 ?_
  refine lv_iload_n hx hb dX9_behind_4 rfl (lv_at hl 1 rfl) ?_
  refine lv_iadd hx hb dX9_behind_5 ?_
  refine lv_aload_n hx hb dX9_behind_6 rfl (lv_at hl 0 rfl) ?_
  refine gf_X9_207 C B dX9_behind_7 ?_
  refine lv_icmp_ge (tgt := 27) hx hb dX9_behind_10 (by decide) (fun c1 => ?_) (fun c1 => ?_)
  · have hF := it_t hF c1
    refine lv_iconst (v := 0) hx hb dX9_behind_27 (by decide) ?_
    exact fr_iret C B hr (by decide) hlk (by rw [← Option.some.inj hF]) (Nat.le_of_ble_eq_true rfl) (Nat.le_of_ble_eq_true rfl) dX9_behind_28
  · have hF := it_f hF c1
    refine lv_aload_n hx hb dX9_behind_13 rfl (lv_at hl 0 rfl) ?_
    refine gf_X9_26 C B dX9_behind_14 ?_
    refine lv_aload_n hx hb dX9_behind_17 rfl (lv_at hl 0 rfl) ?_
    refine gf_X9_210 C B dX9_behind_18 ?_
    refine lv_iload_n hx hb dX9_behind_21 rfl (lv_at hl 1 rfl) ?_
    refine lv_iadd hx hb dX9_behind_22 ?_
    obtain ⟨c2, hF⟩ := of_g hF
    refine fr_ca C B ar_9_384 c2 dX9_behind_23 ?_
    refine lv_goto (tgt := 28) hx hb dX9_behind_24 (by decide) ?_
    obtain ⟨c3, hF⟩ := of_g hF
    exact fr_iret C B hr (nz_c c3) hlk (by rw [← Option.some.inj hF]) (Nat.le_of_ble_eq_true rfl) (Nat.le_of_ble_eq_true rfl) dX9_behind_28
def F_X9_skip_2 (i1 : Nat)  : Nat → Int32 → fw_M → Option (fw_M)
  | 0, _, _ => none
  | n + 1, x2, M =>
    bd_x (F_J0_length_8abf5 M i1) fun r2 =>
    if r2 ≤ x2 then
      some M
    else
      if ¬ (M 378 12) = 0 then
        some M
      else
        bd_x (F_X9_behind M 0) fun r6 =>
        bd_x (F_J0_charAt_5068e M i1 x2) fun r9 =>
        if r6 = r9 then
          lt_x (fw_up M 378 12 0) fun M11 =>
          if (M11 378 12) = 0 then
            lt_x (fw_up M11 378 11 ((M11 378 11) + 1)) fun M13 =>
            F_X9_skip_2 i1 n (x2 + 1) M13
          else
            lt_x (fw_up M11 378 11 ((M11 378 11) + 0)) fun M14 =>
            F_X9_skip_2 i1 n (x2 + 1) M14
        else
          lt_x (fw_up M 378 12 1) fun M15 =>
          if (M15 378 12) = 0 then
            lt_x (fw_up M15 378 11 ((M15 378 11) + 1)) fun M17 =>
            F_X9_skip_2 i1 n (x2 + 1) M17
          else
            lt_x (fw_up M15 378 11 ((M15 378 11) + 0)) fun M18 =>
            F_X9_skip_2 i1 n (x2 + 1) M18
def F_X9_skip (M : fw_M) (i1 : Nat) : Option (fw_M) :=
  F_X9_skip_2 i1 64 0 M
set_option maxHeartbeats 4000000 in
set_option maxRecDepth 100000 in
theorem cm_X9_skip {l : Launch} {X : fw_X} {M : fw_M} {i1 : Nat} (hi1 : i1 < 12) {o : fw_M} (hF : F_X9_skip M i1 = some o) : ct_v l X yX9_skip cX9_skip 3 none ({ frames := 4, cells := 0, slots := 0, locals := 85 } : Room) M [.ref (fw_ad X 378), .ref (fw_sg X (10 + i1))] (.inl 0, o) := by
  refine fw_open rfl (Nat.le_of_ble_eq_true rfl) (fun p e s m below meth c ls C hr hlk hnm hex hl B => ?_)
  have C : fr_C X p c cX9_skip 3 RX9 s m ([.ref (fw_ad X 378), .ref (fw_sg X (10 + i1))] : List Value).toArray := C
  have hx := C.1.1
  have hb := C.1.2.1
  have hl : lv_has ls 3 [(0, .ref (fw_ad X 378)), (1, .ref (fw_sg X (10 + i1)))] := hl
  have hJ2 : ∀ (n : Nat), ∀ (x2 : Int32) (M : fw_M) (H : Heap) (locs : List Loc) (ls : Array Slot), F_X9_skip_2 i1 n x2 M = some o → fr_H X s M H locs → lv_has ls 3 [(0, .ref (fw_ad X 378)), (1, .ref (fw_sg X (10 + i1))), (2, .int x2)] → W p l e ({ frames := 4, cells := 0, slots := 0, locals := 85 } : Room) s m ([.ref (fw_ad X 378), .ref (fw_sg X (10 + i1))] : List Value).toArray below meth c H locs 0 0 (vx_MQ below (fw_Qv X (.inl 0, o)) (fw_Qx X (.inl 0, o)) ([.ref (fw_ad X 378), .ref (fw_sg X (10 + i1))] : List Value).toArray s 0 0 (fw_A X)) (F0 m 2 ls []) := by
    intro n
    induction n with
    | zero =>
      intro x2 M H locs ls hF B hl
      exact absurd hF (by simp [F_X9_skip_2])
    | succ n ih =>
      intro x2 M H locs ls hF B hl
      rw [F_X9_skip_2] at hF
      refine lv_iload_n hx hb dX9_skip_2 rfl (lv_at hl 2 rfl) ?_
      refine lv_aload_n hx hb dX9_skip_3 rfl (lv_at hl 1 rfl) ?_
      obtain ⟨r2, hf1, hF⟩ := bx_e hF
      refine fr_sV (As := []) (rest := [.int x2]) C B hi1 (cr_J0_length_8abf5 hi1 hf1) rfl yw_J0_length_8abf5 wm_X9_213 rfl hl.1 rfl (Nat.le_of_ble_eq_true rfl) ⟨Nat.le_of_ble_eq_true rfl, Nat.le_of_ble_eq_true rfl⟩ ⟨rfl, rfl⟩ ⟨(Nat.le_of_ble_eq_true rfl), (Nat.le_of_ble_eq_true rfl)⟩ dX9_skip_4 ?_
      refine lv_icmp_ge (tgt := 66) hx hb dX9_skip_7 (by decide) (fun c3 => ?_) (fun c3 => ?_)
      · have hF := it_t hF c3
        exact fr_vret C B hr hlk (by rw [← Option.some.inj hF]) (Nat.le_of_ble_eq_true rfl) (Nat.le_of_ble_eq_true rfl) dX9_skip_66
      · have hF := it_f hF c3
        refine lv_aload_n hx hb dX9_skip_10 rfl (lv_at hl 0 rfl) ?_
        refine gf_X9_217 C B dX9_skip_11 ?_
        refine lv_if_ne (tgt := 66) hx hb dX9_skip_14 (by decide) (fun c4 => ?_) (fun c4 => ?_)
        · have hF := it_t hF c4
          exact fr_vret C B hr hlk (by rw [← Option.some.inj hF]) (Nat.le_of_ble_eq_true rfl) (Nat.le_of_ble_eq_true rfl) dX9_skip_66
        · have hF := it_f hF (not_not_intro c4)
          refine lv_aload_n hx hb dX9_skip_17 rfl (lv_at hl 0 rfl) ?_
          refine lv_aload_n hx hb dX9_skip_18 rfl (lv_at hl 0 rfl) ?_
          refine lv_iconst (v := 0) hx hb dX9_skip_19 (by decide) ?_
          obtain ⟨r6, hf5, hF⟩ := bx_e hF
          refine fr_cVi (As := [.int 0]) (rest := [.ref (fw_ad X 378)]) C B (cm_X9_behind hf5) ob_9 rfl yw_X9_behind wm_X9_221 rfl hl.1 rfl (Nat.le_of_ble_eq_true rfl) ⟨Nat.le_of_ble_eq_true rfl, Nat.le_of_ble_eq_true rfl⟩ ⟨Nat.le_of_ble_eq_true rfl, Nat.le_of_ble_eq_true rfl⟩ dX9_skip_20 (fr_nx rfl) (fun r9 M9 H locs ho9 B => ?_)
          obtain ⟨rfl, rfl⟩ := oi_e ho9
          refine lv_aload_n hx hb dX9_skip_23 rfl (lv_at hl 1 rfl) ?_
          refine lv_iload_n hx hb dX9_skip_24 rfl (lv_at hl 2 rfl) ?_
          obtain ⟨r9, hf8, hF⟩ := bx_e hF
          refine fr_sV (As := [.int x2]) (rest := [.int r6, .ref (fw_ad X 378)]) C B hi1 (cr_J0_charAt_5068e hi1 hf8) rfl yw_J0_charAt_5068e wm_X9_225 rfl hl.1 rfl (Nat.le_of_ble_eq_true rfl) ⟨Nat.le_of_ble_eq_true rfl, Nat.le_of_ble_eq_true rfl⟩ ⟨rfl, rfl⟩ ⟨(Nat.le_of_ble_eq_true rfl), (Nat.le_of_ble_eq_true rfl)⟩ dX9_skip_25 ?_
          refine lv_icmp_eq (tgt := 35) hx hb dX9_skip_28 (by decide) (fun c10 => ?_) (fun c10 => ?_)
          · have hF := it_t hF c10
            refine lv_iconst (v := 0) hx hb dX9_skip_35 (by decide) ?_
            refine pf_X9_217 C B (by decide) dX9_skip_36 (fun H locs B => ?_)
            obtain ⟨M11, eM11, hF⟩ := lt_e hF
            rw [← eM11] at B
            refine lv_aload_n hx hb dX9_skip_39 rfl (lv_at hl 0 rfl) ?_
            refine lv_dup hx hb dX9_skip_40 rfl ?_
            refine gf_X9_210 C B dX9_skip_41 ?_
            refine lv_aload_n hx hb dX9_skip_44 rfl (lv_at hl 0 rfl) ?_
            refine gf_X9_217 C B dX9_skip_45 ?_
            refine lv_if_eq (tgt := 55) hx hb dX9_skip_48 (by decide) (fun c12 => ?_) (fun c12 => ?_)
            · have hF := it_t hF c12
              refine lv_iconst (v := 1) hx hb dX9_skip_55 (by decide) ?_
              refine lv_iadd hx hb dX9_skip_56 ?_
              refine pf_X9_210 C B dX9_skip_57 (fun H locs B => ?_)
              obtain ⟨M13, eM13, hF⟩ := lt_e hF
              rw [← eM13] at B
              refine lv_iinc (v := (x2 + 1)) (lv' := [(2, .int (x2 + 1)), (0, .ref (fw_ad X 378)), (1, .ref (fw_sg X (10 + i1)))]) hx hb dX9_skip_60 hl (k := 2) rfl rfl (by decide) rfl (fun ls hl => ?_)
              refine lv_goto (tgt := 2) hx hb dX9_skip_63 (by decide) ?_
              exact ih (x2 + 1) M13 _ _ _ hF B (lv_sub hl [1, 2, 0] rfl)
            · have hF := it_f hF c12
              refine lv_iconst (v := 0) hx hb dX9_skip_51 (by decide) ?_
              refine lv_goto (tgt := 56) hx hb dX9_skip_52 (by decide) ?_
              refine lv_iadd hx hb dX9_skip_56 ?_
              refine pf_X9_210 C B dX9_skip_57 (fun H locs B => ?_)
              obtain ⟨M14, eM14, hF⟩ := lt_e hF
              rw [← eM14] at B
              refine lv_iinc (v := (x2 + 1)) (lv' := [(2, .int (x2 + 1)), (0, .ref (fw_ad X 378)), (1, .ref (fw_sg X (10 + i1)))]) hx hb dX9_skip_60 hl (k := 2) rfl rfl (by decide) rfl (fun ls hl => ?_)
              refine lv_goto (tgt := 2) hx hb dX9_skip_63 (by decide) ?_
              exact ih (x2 + 1) M14 _ _ _ hF B (lv_sub hl [1, 2, 0] rfl)
          · have hF := it_f hF c10
            refine lv_iconst (v := 1) hx hb dX9_skip_31 (by decide) ?_
            refine lv_goto (tgt := 36) hx hb dX9_skip_32 (by decide) ?_
            refine pf_X9_217 C B (by decide) dX9_skip_36 (fun H locs B => ?_)
            obtain ⟨M15, eM15, hF⟩ := lt_e hF
            rw [← eM15] at B
            refine lv_aload_n hx hb dX9_skip_39 rfl (lv_at hl 0 rfl) ?_
            refine lv_dup hx hb dX9_skip_40 rfl ?_
            refine gf_X9_210 C B dX9_skip_41 ?_
            refine lv_aload_n hx hb dX9_skip_44 rfl (lv_at hl 0 rfl) ?_
            refine gf_X9_217 C B dX9_skip_45 ?_
            refine lv_if_eq (tgt := 55) hx hb dX9_skip_48 (by decide) (fun c16 => ?_) (fun c16 => ?_)
            · have hF := it_t hF c16
              refine lv_iconst (v := 1) hx hb dX9_skip_55 (by decide) ?_
              refine lv_iadd hx hb dX9_skip_56 ?_
              refine pf_X9_210 C B dX9_skip_57 (fun H locs B => ?_)
              obtain ⟨M17, eM17, hF⟩ := lt_e hF
              rw [← eM17] at B
              refine lv_iinc (v := (x2 + 1)) (lv' := [(2, .int (x2 + 1)), (0, .ref (fw_ad X 378)), (1, .ref (fw_sg X (10 + i1)))]) hx hb dX9_skip_60 hl (k := 2) rfl rfl (by decide) rfl (fun ls hl => ?_)
              refine lv_goto (tgt := 2) hx hb dX9_skip_63 (by decide) ?_
              exact ih (x2 + 1) M17 _ _ _ hF B (lv_sub hl [1, 2, 0] rfl)
            · have hF := it_f hF c16
              refine lv_iconst (v := 0) hx hb dX9_skip_51 (by decide) ?_
              refine lv_goto (tgt := 56) hx hb dX9_skip_52 (by decide) ?_
              refine lv_iadd hx hb dX9_skip_56 ?_
              refine pf_X9_210 C B dX9_skip_57 (fun H locs B => ?_)
              obtain ⟨M18, eM18, hF⟩ := lt_e hF
              rw [← eM18] at B
              refine lv_iinc (v := (x2 + 1)) (lv' := [(2, .int (x2 + 1)), (0, .ref (fw_ad X 378)), (1, .ref (fw_sg X (10 + i1)))]) hx hb dX9_skip_60 hl (k := 2) rfl rfl (by decide) rfl (fun ls hl => ?_)
              refine lv_goto (tgt := 2) hx hb dX9_skip_63 (by decide) ?_
              exact ih (x2 + 1) M18 _ _ _ hF B (lv_sub hl [1, 2, 0] rfl)
  unfold F_X9_skip at hF
  refine lv_iconst (v := 0) hx hb dX9_skip_0 (by decide) ?_
  refine lv_istore_n (lv' := [(2, .int 0), (0, .ref (fw_ad X 378)), (1, .ref (fw_sg X (10 + i1)))]) hx hb dX9_skip_1 rfl hl (by decide) rfl (fun ls hl => ?_)
  exact hJ2 64 0 M _ _ _ hF B (lv_sub hl [1, 2, 0] rfl)
def F_X9_digit_37   (M : fw_M) : Option (Int32 × fw_M) :=
  if (M 378 12) = 0 then
    lt_x (fw_up M 378 11 ((M 378 11) + 1)) fun M2 =>
    if ix_i ((M2 378 11) - 1) 60 then
    some (((fw_ri M2 384 ((M2 378 11) - 1)) - 48), M2)
    else none
  else
    some (0, M)
def F_X9_digit (M : fw_M) : Option (Int32 × fw_M) :=
  bd_x (F_X9_skip M 11) fun M6 =>
  if ¬ (M6 378 12) = 0 then
    lt_x (fw_up M6 378 12 1) fun M8 =>
    F_X9_digit_37 M8
  else
    bd_x (F_X9_behind M6 0) fun r10 =>
    bd_x (F_X9_in M6 r10 48 57) fun r13 =>
    if ¬ r13 = 0 then
      lt_x (fw_up M6 378 12 0) fun M16 =>
      F_X9_digit_37 M16
    else
      lt_x (fw_up M6 378 12 1) fun M17 =>
      F_X9_digit_37 M17
set_option maxHeartbeats 4000000 in
set_option maxRecDepth 100000 in
theorem cm_X9_digit {l : Launch} {X : fw_X} {M : fw_M}  {o : Int32 × fw_M} (hF : F_X9_digit M = some o) : ct_i l X yX9_digit cX9_digit 1 (some .int) ({ frames := 5, cells := 0, slots := 0, locals := 107 } : Room) M [.ref (fw_ad X 378)] (.inl o.1, o.2) := by
  refine fw_open rfl (Nat.le_of_ble_eq_true rfl) (fun p e s m below meth c ls C hr hlk hnm hex hl B => ?_)
  have C : fr_C X p c cX9_digit 1 RX9 s m ([.ref (fw_ad X 378)] : List Value).toArray := C
  have hx := C.1.1
  have hb := C.1.2.1
  have hl : lv_has ls 1 [(0, .ref (fw_ad X 378))] := hl
  have hJ37 : ∀ (M : fw_M) (H : Heap) (locs : List Loc) (ls : Array Slot), F_X9_digit_37  M = some o → fr_H X s M H locs → lv_has ls 1 [(0, .ref (fw_ad X 378))] → W p l e ({ frames := 5, cells := 0, slots := 0, locals := 107 } : Room) s m ([.ref (fw_ad X 378)] : List Value).toArray below meth c H locs 0 0 (vx_MQ below (fw_Qi X (.inl o.1, o.2)) (fw_Qx X (.inl o.1, o.2)) ([.ref (fw_ad X 378)] : List Value).toArray s 0 0 (fw_A X)) (F0 m 37 ls []) := by
    intro M H locs ls hF B hl
    unfold F_X9_digit_37 at hF
    refine lv_aload_n hx hb dX9_digit_37 rfl (lv_at hl 0 rfl) ?_
    refine gf_X9_217 C B dX9_digit_38 ?_
    refine lv_if_eq (tgt := 46) hx hb dX9_digit_41 (by decide) (fun c1 => ?_) (fun c1 => ?_)
    · have hF := it_t hF c1
      refine lv_aload_n hx hb dX9_digit_46 rfl (lv_at hl 0 rfl) ?_
      refine lv_dup hx hb dX9_digit_47 rfl ?_
      refine gf_X9_210 C B dX9_digit_48 ?_
      refine lv_iconst (v := 1) hx hb dX9_digit_51 (by decide) ?_
      refine lv_iadd hx hb dX9_digit_52 ?_
      refine pf_X9_210 C B dX9_digit_53 (fun H locs B => ?_)
      obtain ⟨M2, eM2, hF⟩ := lt_e hF
      rw [← eM2] at B
      refine lv_aload_n hx hb dX9_digit_56 rfl (lv_at hl 0 rfl) ?_
      refine gf_X9_26 C B dX9_digit_57 ?_
      refine lv_aload_n hx hb dX9_digit_60 rfl (lv_at hl 0 rfl) ?_
      refine gf_X9_210 C B dX9_digit_61 ?_
      refine lv_iconst (v := 1) hx hb dX9_digit_64 (by decide) ?_
      refine lv_isub hx hb dX9_digit_65 ?_
      obtain ⟨c3, hF⟩ := of_g hF
      refine fr_ca C B ar_9_384 c3 dX9_digit_66 ?_
      refine lv_bipush (v := 48) hx hb dX9_digit_67 (by decide) ?_
      refine lv_isub hx hb dX9_digit_69 ?_
      exact fr_iret C B hr rfl hlk (by rw [← Option.some.inj hF]) (Nat.le_of_ble_eq_true rfl) (Nat.le_of_ble_eq_true rfl) dX9_digit_70
    · have hF := it_f hF c1
      refine lv_iconst (v := 0) hx hb dX9_digit_44 (by decide) ?_
      exact fr_iret C B hr rfl hlk (by rw [← Option.some.inj hF]) (Nat.le_of_ble_eq_true rfl) (Nat.le_of_ble_eq_true rfl) dX9_digit_45
  unfold F_X9_digit at hF
  refine lv_aload_n hx hb dX9_digit_0 rfl (lv_at hl 0 rfl) ?_
  refine fr_ldcs (id := 21) (text := " ") C (by decide +kernel) dX9_digit_1 ?_
  obtain ⟨M6, hf4, hF⟩ := bx_e hF
  refine fr_cVv (As := [.ref (fw_sg X (10 + 11))]) (rest := []) C B (cm_X9_skip (by decide) hf4) ob_9 rfl yw_X9_skip wm_X9_230 rfl hl.1 rfl (Nat.le_of_ble_eq_true rfl) ⟨Nat.le_of_ble_eq_true rfl, Nat.le_of_ble_eq_true rfl⟩ ⟨Nat.le_of_ble_eq_true rfl, Nat.le_of_ble_eq_true rfl⟩ dX9_digit_3 (fr_nx rfl) (fun M9 H locs ho9 B => ?_)
  obtain ⟨-, rfl⟩ := oi_e ho9
  refine lv_aload_n hx hb dX9_digit_6 rfl (lv_at hl 0 rfl) ?_
  refine lv_aload_n hx hb dX9_digit_7 rfl (lv_at hl 0 rfl) ?_
  refine gf_X9_217 C B dX9_digit_8 ?_
  refine lv_if_ne (tgt := 29) hx hb dX9_digit_11 (by decide) (fun c7 => ?_) (fun c7 => ?_)
  · have hF := it_t hF c7
    refine lv_iconst (v := 1) hx hb dX9_digit_29 (by decide) ?_
    refine lv_goto (tgt := 34) hx hb dX9_digit_30 (by decide) ?_
    refine pf_X9_217 C B (by decide) dX9_digit_34 (fun H locs B => ?_)
    obtain ⟨M8, eM8, hF⟩ := lt_e hF
    rw [← eM8] at B
    exact hJ37 M8 _ _ _ hF B (lv_sub hl [0] rfl)
  · have hF := it_f hF (not_not_intro c7)
    refine lv_aload_n hx hb dX9_digit_14 rfl (lv_at hl 0 rfl) ?_
    refine lv_iconst (v := 0) hx hb dX9_digit_15 (by decide) ?_
    obtain ⟨r10, hf9, hF⟩ := bx_e hF
    refine fr_cVi (As := [.int 0]) (rest := [.ref (fw_ad X 378)]) C B (cm_X9_behind hf9) ob_9 rfl yw_X9_behind wm_X9_221 rfl hl.1 rfl (Nat.le_of_ble_eq_true rfl) ⟨Nat.le_of_ble_eq_true rfl, Nat.le_of_ble_eq_true rfl⟩ ⟨Nat.le_of_ble_eq_true rfl, Nat.le_of_ble_eq_true rfl⟩ dX9_digit_16 (fr_nx rfl) (fun r9 M9 H locs ho9 B => ?_)
    obtain ⟨rfl, rfl⟩ := oi_e ho9
    refine lv_bipush (v := 48) hx hb dX9_digit_19 (by decide) ?_
    refine lv_bipush (v := 57) hx hb dX9_digit_21 (by decide) ?_
    obtain ⟨r13, hf12, hF⟩ := bx_e hF
    refine fr_cSi (As := [.int r10, .int 48, .int 57]) (rest := [.ref (fw_ad X 378)]) C B (cm_X9_in hf12) yw_X9_in wm_X9_51 rfl hl.1 rfl (Nat.le_of_ble_eq_true rfl) ⟨Nat.le_of_ble_eq_true rfl, Nat.le_of_ble_eq_true rfl⟩ ⟨Nat.le_of_ble_eq_true rfl, Nat.le_of_ble_eq_true rfl⟩ dX9_digit_23 (fr_nx rfl) (fun r9 M9 H locs ho9 B => ?_)
    obtain ⟨rfl, rfl⟩ := oi_e ho9
    refine lv_if_ne (tgt := 33) hx hb dX9_digit_26 (by decide) (fun c15 => ?_) (fun c15 => ?_)
    · have hF := it_t hF c15
      refine lv_iconst (v := 0) hx hb dX9_digit_33 (by decide) ?_
      refine pf_X9_217 C B (by decide) dX9_digit_34 (fun H locs B => ?_)
      obtain ⟨M16, eM16, hF⟩ := lt_e hF
      rw [← eM16] at B
      exact hJ37 M16 _ _ _ hF B (lv_sub hl [0] rfl)
    · have hF := it_f hF (not_not_intro c15)
      refine lv_iconst (v := 1) hx hb dX9_digit_29 (by decide) ?_
      refine lv_goto (tgt := 34) hx hb dX9_digit_30 (by decide) ?_
      refine pf_X9_217 C B (by decide) dX9_digit_34 (fun H locs B => ?_)
      obtain ⟨M17, eM17, hF⟩ := lt_e hF
      rw [← eM17] at B
      exact hJ37 M17 _ _ _ hF B (lv_sub hl [0] rfl)
def F_X9_kind (M : fw_M) : Option (Int32) :=
  bd_x (F_X9_behind M 0) fun r2 =>
  if ¬ r2 = 115 then
    if ¬ r2 = 116 then
      if fw_nc r2 = r2 then
      some r2
      else none
    else
      bd_x (F_X9_behind M 1) fun r8 =>
      if ¬ r8 = 114 then
        bd_x (F_X9_behind M 4) fun r12 =>
        if ¬ r12 = 101 then
          some 107
        else
          some 105
      else
        some 116
  else
    bd_x (F_X9_behind M 1) fun r16 =>
    if ¬ r16 = 101 then
      some 115
    else
      some 99
set_option maxHeartbeats 4000000 in
set_option maxRecDepth 100000 in
theorem cm_X9_kind {l : Launch} {X : fw_X} {M : fw_M}  {o : Int32} (hF : F_X9_kind M = some o) : ct_i l X yX9_kind cX9_kind 2 (some .char) ({ frames := 1, cells := 0, slots := 0, locals := 21 } : Room) M [.ref (fw_ad X 378)] (.inl o, M) := by
  refine fw_open rfl (Nat.le_of_ble_eq_true rfl) (fun p e s m below meth c ls C hr hlk hnm hex hl B => ?_)
  have C : fr_C X p c cX9_kind 2 RX9 s m ([.ref (fw_ad X 378)] : List Value).toArray := C
  have hx := C.1.1
  have hb := C.1.2.1
  have hl : lv_has ls 2 [(0, .ref (fw_ad X 378))] := hl
  unfold F_X9_kind at hF
  refine lv_aload_n hx hb dX9_kind_0 rfl (lv_at hl 0 rfl) ?_
  refine lv_iconst (v := 0) hx hb dX9_kind_1 (by decide) ?_
  obtain ⟨r2, hf1, hF⟩ := bx_e hF
  refine fr_cVi (As := [.int 0]) (rest := []) C B (cm_X9_behind hf1) ob_9 rfl yw_X9_behind wm_X9_221 rfl hl.1 rfl (Nat.le_of_ble_eq_true rfl) ⟨Nat.le_of_ble_eq_true rfl, Nat.le_of_ble_eq_true rfl⟩ ⟨Nat.le_of_ble_eq_true rfl, Nat.le_of_ble_eq_true rfl⟩ dX9_kind_2 (fr_nx rfl) (fun r9 M9 H locs ho9 B => ?_)
  obtain ⟨rfl, rfl⟩ := oi_e ho9
  refine lv_istore_n (lv' := [(1, .int r2), (0, .ref (fw_ad X 378))]) hx hb dX9_kind_5 rfl hl (by decide) rfl (fun ls hl => ?_)
  refine lv_iload_n hx hb dX9_kind_6 rfl (lv_at hl 0 rfl) ?_
  refine lv_bipush (v := 115) hx hb dX9_kind_7 (by decide) ?_
  refine lv_icmp_ne (tgt := 30) hx hb dX9_kind_9 (by decide) (fun c4 => ?_) (fun c4 => ?_)
  · have hF := it_t hF c4
    refine lv_iload_n hx hb dX9_kind_30 rfl (lv_at hl 0 rfl) ?_
    refine lv_bipush (v := 116) hx hb dX9_kind_31 (by decide) ?_
    refine lv_icmp_ne (tgt := 69) hx hb dX9_kind_33 (by decide) (fun c5 => ?_) (fun c5 => ?_)
    · have hF := it_t hF c5
      refine lv_iload_n hx hb dX9_kind_69 rfl (lv_at hl 0 rfl) ?_
      obtain ⟨c6, hF⟩ := of_g hF
      exact fr_iret C B hr (nz_c c6) hlk (by rw [← Option.some.inj hF]) (Nat.le_of_ble_eq_true rfl) (Nat.le_of_ble_eq_true rfl) dX9_kind_70
    · have hF := it_f hF (not_not_intro c5)
      refine lv_aload_n hx hb dX9_kind_36 rfl (lv_at hl 1 rfl) ?_
      refine lv_iconst (v := 1) hx hb dX9_kind_37 (by decide) ?_
      obtain ⟨r8, hf7, hF⟩ := bx_e hF
      refine fr_cVi (As := [.int 1]) (rest := []) C B (cm_X9_behind hf7) ob_9 rfl yw_X9_behind wm_X9_221 rfl hl.1 rfl (Nat.le_of_ble_eq_true rfl) ⟨Nat.le_of_ble_eq_true rfl, Nat.le_of_ble_eq_true rfl⟩ ⟨Nat.le_of_ble_eq_true rfl, Nat.le_of_ble_eq_true rfl⟩ dX9_kind_38 (fr_nx rfl) (fun r9 M9 H locs ho9 B => ?_)
      obtain ⟨rfl, rfl⟩ := oi_e ho9
      refine lv_bipush (v := 114) hx hb dX9_kind_41 (by decide) ?_
      refine lv_icmp_ne (tgt := 51) hx hb dX9_kind_43 (by decide) (fun c10 => ?_) (fun c10 => ?_)
      · have hF := it_t hF c10
        refine lv_aload_n hx hb dX9_kind_51 rfl (lv_at hl 1 rfl) ?_
        refine lv_iconst (v := 4) hx hb dX9_kind_52 (by decide) ?_
        obtain ⟨r12, hf11, hF⟩ := bx_e hF
        refine fr_cVi (As := [.int 4]) (rest := []) C B (cm_X9_behind hf11) ob_9 rfl yw_X9_behind wm_X9_221 rfl hl.1 rfl (Nat.le_of_ble_eq_true rfl) ⟨Nat.le_of_ble_eq_true rfl, Nat.le_of_ble_eq_true rfl⟩ ⟨Nat.le_of_ble_eq_true rfl, Nat.le_of_ble_eq_true rfl⟩ dX9_kind_53 (fr_nx rfl) (fun r9 M9 H locs ho9 B => ?_)
        obtain ⟨rfl, rfl⟩ := oi_e ho9
        refine lv_bipush (v := 101) hx hb dX9_kind_56 (by decide) ?_
        refine lv_icmp_ne (tgt := 66) hx hb dX9_kind_58 (by decide) (fun c14 => ?_) (fun c14 => ?_)
        · have hF := it_t hF c14
          refine lv_bipush (v := 107) hx hb dX9_kind_66 (by decide) ?_
          exact fr_iret C B hr (by decide) hlk (by rw [← Option.some.inj hF]) (Nat.le_of_ble_eq_true rfl) (Nat.le_of_ble_eq_true rfl) dX9_kind_68
        · have hF := it_f hF (not_not_intro c14)
          refine lv_bipush (v := 105) hx hb dX9_kind_61 (by decide) ?_
          refine lv_goto (tgt := 68) hx hb dX9_kind_63 (by decide) ?_
          exact fr_iret C B hr (by decide) hlk (by rw [← Option.some.inj hF]) (Nat.le_of_ble_eq_true rfl) (Nat.le_of_ble_eq_true rfl) dX9_kind_68
      · have hF := it_f hF (not_not_intro c10)
        refine lv_bipush (v := 116) hx hb dX9_kind_46 (by decide) ?_
        refine lv_goto (tgt := 68) hx hb dX9_kind_48 (by decide) ?_
        exact fr_iret C B hr (by decide) hlk (by rw [← Option.some.inj hF]) (Nat.le_of_ble_eq_true rfl) (Nat.le_of_ble_eq_true rfl) dX9_kind_68
  · have hF := it_f hF (not_not_intro c4)
    refine lv_aload_n hx hb dX9_kind_12 rfl (lv_at hl 1 rfl) ?_
    refine lv_iconst (v := 1) hx hb dX9_kind_13 (by decide) ?_
    obtain ⟨r16, hf15, hF⟩ := bx_e hF
    refine fr_cVi (As := [.int 1]) (rest := []) C B (cm_X9_behind hf15) ob_9 rfl yw_X9_behind wm_X9_221 rfl hl.1 rfl (Nat.le_of_ble_eq_true rfl) ⟨Nat.le_of_ble_eq_true rfl, Nat.le_of_ble_eq_true rfl⟩ ⟨Nat.le_of_ble_eq_true rfl, Nat.le_of_ble_eq_true rfl⟩ dX9_kind_14 (fr_nx rfl) (fun r9 M9 H locs ho9 B => ?_)
    obtain ⟨rfl, rfl⟩ := oi_e ho9
    refine lv_bipush (v := 101) hx hb dX9_kind_17 (by decide) ?_
    refine lv_icmp_ne (tgt := 27) hx hb dX9_kind_19 (by decide) (fun c18 => ?_) (fun c18 => ?_)
    · have hF := it_t hF c18
      refine lv_bipush (v := 115) hx hb dX9_kind_27 (by decide) ?_
      exact fr_iret C B hr (by decide) hlk (by rw [← Option.some.inj hF]) (Nat.le_of_ble_eq_true rfl) (Nat.le_of_ble_eq_true rfl) dX9_kind_29
    · have hF := it_f hF (not_not_intro c18)
      refine lv_bipush (v := 99) hx hb dX9_kind_22 (by decide) ?_
      refine lv_goto (tgt := 29) hx hb dX9_kind_24 (by decide) ?_
      exact fr_iret C B hr (by decide) hlk (by rw [← Option.some.inj hF]) (Nat.le_of_ble_eq_true rfl) (Nat.le_of_ble_eq_true rfl) dX9_kind_29
def F_X9_digitsOf (M : fw_M) (a1 : Int32) : Option (Int32) :=
  if ¬ a1 = 107 then
    if ¬ a1 = 105 then
      if a1 = 108 then
        some 2
      else
        if a1 = 101 then
          some 2
        else
          if a1 = 98 then
            some 2
          else
            if ¬ a1 = 119 then
              some 1
            else
              some 2
    else
      some 3
  else
    some 0
set_option maxHeartbeats 4000000 in
set_option maxRecDepth 100000 in
theorem cm_X9_digitsOf {l : Launch} {X : fw_X} {M : fw_M} {a1 : Int32}  {o : Int32} (hF : F_X9_digitsOf M a1 = some o) : ct_i l X yX9_digitsOf cX9_digitsOf 2 (some .int) ({ frames := 0, cells := 0, slots := 0, locals := 0 } : Room) M [.ref (fw_ad X 378), .int a1] (.inl o, M) := by
  refine fw_open rfl (Nat.le_of_ble_eq_true rfl) (fun p e s m below meth c ls C hr hlk hnm hex hl B => ?_)
  have C : fr_C X p c cX9_digitsOf 2 RX9 s m ([.ref (fw_ad X 378), .int a1] : List Value).toArray := C
  have hx := C.1.1
  have hb := C.1.2.1
  have hl : lv_has ls 2 [(0, .ref (fw_ad X 378)), (1, .int a1)] := hl
  unfold F_X9_digitsOf at hF
  refine lv_iload_n hx hb dX9_digitsOf_0 rfl (lv_at hl 1 rfl) ?_
  refine lv_bipush (v := 107) hx hb dX9_digitsOf_1 (by decide) ?_
  refine lv_icmp_ne (tgt := 10) hx hb dX9_digitsOf_3 (by decide) (fun c1 => ?_) (fun c1 => ?_)
  · have hF := it_t hF c1
    refine lv_iload_n hx hb dX9_digitsOf_10 rfl (lv_at hl 1 rfl) ?_
    refine lv_bipush (v := 105) hx hb dX9_digitsOf_11 (by decide) ?_
    refine lv_icmp_ne (tgt := 20) hx hb dX9_digitsOf_13 (by decide) (fun c2 => ?_) (fun c2 => ?_)
    · have hF := it_t hF c2
      refine lv_iload_n hx hb dX9_digitsOf_20 rfl (lv_at hl 1 rfl) ?_
      refine lv_bipush (v := 108) hx hb dX9_digitsOf_21 (by decide) ?_
      refine lv_icmp_eq (tgt := 44) hx hb dX9_digitsOf_23 (by decide) (fun c3 => ?_) (fun c3 => ?_)
      · have hF := it_t hF c3
        refine lv_iconst (v := 2) hx hb dX9_digitsOf_44 (by decide) ?_
        refine lv_goto (tgt := 49) hx hb dX9_digitsOf_45 (by decide) ?_
        exact fr_iret C B hr rfl hlk (by rw [← Option.some.inj hF]) (Nat.le_of_ble_eq_true rfl) (Nat.le_of_ble_eq_true rfl) dX9_digitsOf_49
      · have hF := it_f hF c3
        refine lv_iload_n hx hb dX9_digitsOf_26 rfl (lv_at hl 1 rfl) ?_
        refine lv_bipush (v := 101) hx hb dX9_digitsOf_27 (by decide) ?_
        refine lv_icmp_eq (tgt := 44) hx hb dX9_digitsOf_29 (by decide) (fun c4 => ?_) (fun c4 => ?_)
        · have hF := it_t hF c4
          refine lv_iconst (v := 2) hx hb dX9_digitsOf_44 (by decide) ?_
          refine lv_goto (tgt := 49) hx hb dX9_digitsOf_45 (by decide) ?_
          exact fr_iret C B hr rfl hlk (by rw [← Option.some.inj hF]) (Nat.le_of_ble_eq_true rfl) (Nat.le_of_ble_eq_true rfl) dX9_digitsOf_49
        · have hF := it_f hF c4
          refine lv_iload_n hx hb dX9_digitsOf_32 rfl (lv_at hl 1 rfl) ?_
          refine lv_bipush (v := 98) hx hb dX9_digitsOf_33 (by decide) ?_
          refine lv_icmp_eq (tgt := 44) hx hb dX9_digitsOf_35 (by decide) (fun c5 => ?_) (fun c5 => ?_)
          · have hF := it_t hF c5
            refine lv_iconst (v := 2) hx hb dX9_digitsOf_44 (by decide) ?_
            refine lv_goto (tgt := 49) hx hb dX9_digitsOf_45 (by decide) ?_
            exact fr_iret C B hr rfl hlk (by rw [← Option.some.inj hF]) (Nat.le_of_ble_eq_true rfl) (Nat.le_of_ble_eq_true rfl) dX9_digitsOf_49
          · have hF := it_f hF c5
            refine lv_iload_n hx hb dX9_digitsOf_38 rfl (lv_at hl 1 rfl) ?_
            refine lv_bipush (v := 119) hx hb dX9_digitsOf_39 (by decide) ?_
            refine lv_icmp_ne (tgt := 48) hx hb dX9_digitsOf_41 (by decide) (fun c6 => ?_) (fun c6 => ?_)
            · have hF := it_t hF c6
              refine lv_iconst (v := 1) hx hb dX9_digitsOf_48 (by decide) ?_
              exact fr_iret C B hr rfl hlk (by rw [← Option.some.inj hF]) (Nat.le_of_ble_eq_true rfl) (Nat.le_of_ble_eq_true rfl) dX9_digitsOf_49
            · have hF := it_f hF (not_not_intro c6)
              refine lv_iconst (v := 2) hx hb dX9_digitsOf_44 (by decide) ?_
              refine lv_goto (tgt := 49) hx hb dX9_digitsOf_45 (by decide) ?_
              exact fr_iret C B hr rfl hlk (by rw [← Option.some.inj hF]) (Nat.le_of_ble_eq_true rfl) (Nat.le_of_ble_eq_true rfl) dX9_digitsOf_49
    · have hF := it_f hF (not_not_intro c2)
      refine lv_iconst (v := 3) hx hb dX9_digitsOf_16 (by decide) ?_
      refine lv_goto (tgt := 49) hx hb dX9_digitsOf_17 (by decide) ?_
      exact fr_iret C B hr rfl hlk (by rw [← Option.some.inj hF]) (Nat.le_of_ble_eq_true rfl) (Nat.le_of_ble_eq_true rfl) dX9_digitsOf_49
  · have hF := it_f hF (not_not_intro c1)
    refine lv_iconst (v := 0) hx hb dX9_digitsOf_6 (by decide) ?_
    refine lv_goto (tgt := 49) hx hb dX9_digitsOf_7 (by decide) ?_
    exact fr_iret C B hr rfl hlk (by rw [← Option.some.inj hF]) (Nat.le_of_ble_eq_true rfl) (Nat.le_of_ble_eq_true rfl) dX9_digitsOf_49
def F_X9_readCommand_78   : Nat → Int32 → Int32 → fw_M → Option (fw_M)
  | 0, _, _, _ => none
  | n + 1, x1, x3, M =>
    bd_x (F_X9_digitsOf M x1) fun r2 =>
    if r2 ≤ x3 then
      lt_x (fw_up M 378 16 ((M 378 16) + 1)) fun M5 =>
      some M5
    else
      if ¬ (M 378 12) = 0 then
        lt_x (fw_up M 378 16 ((M 378 16) + 1)) fun M7 =>
        some M7
      else
        bd_p (F_X9_digit M) fun r9 M10 =>
        if ix_i (((4 * (M 378 16)) + 1) + x3) 240 then
        lt_x (fw_wi M10 385 (((4 * (M 378 16)) + 1) + x3) r9) fun M12 =>
        F_X9_readCommand_78  n x1 (x3 + 1) M12
        else none
def F_X9_readCommand_46   (x1 : Int32) (x2 : Int32) (M : fw_M) : Option (fw_M) :=
  if x2 = 0 then
    bd_x (F_X9_wordOf M x1) fun r15 =>
    if r15 < 12 then
    bd_x (F_X9_skip M r15) fun M19 =>
    if ix_i (4 * (M19 378 16)) 240 then
    lt_x (fw_wi M19 385 (4 * (M19 378 16)) x1) fun M21 =>
    F_X9_readCommand_78 64 x1 0 M21
    else none
    else none
  else
    bd_x (F_X9_skip M 9) fun M24 =>
    if ix_i (4 * (M24 378 16)) 240 then
    lt_x (fw_wi M24 385 (4 * (M24 378 16)) x1) fun M26 =>
    F_X9_readCommand_78 64 x1 0 M26
    else none
def F_X9_readCommand (M : fw_M) : Option (fw_M) :=
  if (M 378 12) = 0 then
    bd_x (F_X9_kind M) fun r29 =>
    if r29 = 99 then
      bd_x (F_X9_behind M 0) fun r33 =>
      if ¬ r33 = r29 then
        F_X9_readCommand_46 r29 0 M
      else
        F_X9_readCommand_46 r29 1 M
    else
      if r29 = 105 then
        bd_x (F_X9_behind M 0) fun r38 =>
        if ¬ r38 = r29 then
          F_X9_readCommand_46 r29 0 M
        else
          F_X9_readCommand_46 r29 1 M
      else
        if ¬ r29 = 107 then
          F_X9_readCommand_46 r29 0 M
        else
          bd_x (F_X9_behind M 0) fun r43 =>
          if ¬ r43 = r29 then
            F_X9_readCommand_46 r29 0 M
          else
            F_X9_readCommand_46 r29 1 M
  else
    some M
set_option maxHeartbeats 4000000 in
set_option maxRecDepth 100000 in
theorem cm_X9_readCommand {l : Launch} {X : fw_X} {M : fw_M}  {o : fw_M} (hF : F_X9_readCommand M = some o) : ct_v l X yX9_readCommand cX9_readCommand 4 none ({ frames := 6, cells := 0, slots := 0, locals := 127 } : Room) M [.ref (fw_ad X 378)] (.inl 0, o) := by
  refine fw_open rfl (Nat.le_of_ble_eq_true rfl) (fun p e s m below meth c ls C hr hlk hnm hex hl B => ?_)
  have C : fr_C X p c cX9_readCommand 4 RX9 s m ([.ref (fw_ad X 378)] : List Value).toArray := C
  have hx := C.1.1
  have hb := C.1.2.1
  have hl : lv_has ls 4 [(0, .ref (fw_ad X 378))] := hl
  have hJ78 : ∀ (n : Nat), ∀ (x1 : Int32) (x3 : Int32) (M : fw_M) (H : Heap) (locs : List Loc) (ls : Array Slot), F_X9_readCommand_78  n x1 x3 M = some o → fr_H X s M H locs → lv_has ls 4 [(0, .ref (fw_ad X 378)), (1, .int x1), (3, .int x3)] → W p l e ({ frames := 6, cells := 0, slots := 0, locals := 127 } : Room) s m ([.ref (fw_ad X 378)] : List Value).toArray below meth c H locs 0 0 (vx_MQ below (fw_Qv X (.inl 0, o)) (fw_Qx X (.inl 0, o)) ([.ref (fw_ad X 378)] : List Value).toArray s 0 0 (fw_A X)) (F0 m 78 ls []) := by
    intro n
    induction n with
    | zero =>
      intro x1 x3 M H locs ls hF B hl
      exact absurd hF (by simp [F_X9_readCommand_78])
    | succ n ih =>
      intro x1 x3 M H locs ls hF B hl
      rw [F_X9_readCommand_78] at hF
      refine lv_iload_n hx hb dX9_readCommand_78 rfl (lv_at hl 2 rfl) ?_
      refine lv_aload_n hx hb dX9_readCommand_79 rfl (lv_at hl 0 rfl) ?_
      refine lv_iload_n hx hb dX9_readCommand_80 rfl (lv_at hl 1 rfl) ?_
      obtain ⟨r2, hf1, hF⟩ := bx_e hF
      refine fr_cVi (As := [.int x1]) (rest := [.int x3]) C B (cm_X9_digitsOf hf1) ob_9 rfl yw_X9_digitsOf wm_X9_266 rfl hl.1 rfl (Nat.le_of_ble_eq_true rfl) ⟨Nat.le_of_ble_eq_true rfl, Nat.le_of_ble_eq_true rfl⟩ ⟨Nat.le_of_ble_eq_true rfl, Nat.le_of_ble_eq_true rfl⟩ dX9_readCommand_81 (fr_nx rfl) (fun r9 M9 H locs ho9 B => ?_)
      obtain ⟨rfl, rfl⟩ := oi_e ho9
      refine lv_icmp_ge (tgt := 119) hx hb dX9_readCommand_84 (by decide) (fun c4 => ?_) (fun c4 => ?_)
      · have hF := it_t hF c4
        refine lv_aload_n hx hb dX9_readCommand_119 rfl (lv_at hl 0 rfl) ?_
        refine lv_dup hx hb dX9_readCommand_120 rfl ?_
        refine gf_X9_263 C B dX9_readCommand_121 ?_
        refine lv_iconst (v := 1) hx hb dX9_readCommand_124 (by decide) ?_
        refine lv_iadd hx hb dX9_readCommand_125 ?_
        refine pf_X9_263 C B dX9_readCommand_126 (fun H locs B => ?_)
        obtain ⟨M5, eM5, hF⟩ := lt_e hF
        rw [← eM5] at B
        exact fr_vret C B hr hlk (by rw [← Option.some.inj hF]) (Nat.le_of_ble_eq_true rfl) (Nat.le_of_ble_eq_true rfl) dX9_readCommand_129
      · have hF := it_f hF c4
        refine lv_aload_n hx hb dX9_readCommand_87 rfl (lv_at hl 0 rfl) ?_
        refine gf_X9_217 C B dX9_readCommand_88 ?_
        refine lv_if_ne (tgt := 119) hx hb dX9_readCommand_91 (by decide) (fun c6 => ?_) (fun c6 => ?_)
        · have hF := it_t hF c6
          refine lv_aload_n hx hb dX9_readCommand_119 rfl (lv_at hl 0 rfl) ?_
          refine lv_dup hx hb dX9_readCommand_120 rfl ?_
          refine gf_X9_263 C B dX9_readCommand_121 ?_
          refine lv_iconst (v := 1) hx hb dX9_readCommand_124 (by decide) ?_
          refine lv_iadd hx hb dX9_readCommand_125 ?_
          refine pf_X9_263 C B dX9_readCommand_126 (fun H locs B => ?_)
          obtain ⟨M7, eM7, hF⟩ := lt_e hF
          rw [← eM7] at B
          exact fr_vret C B hr hlk (by rw [← Option.some.inj hF]) (Nat.le_of_ble_eq_true rfl) (Nat.le_of_ble_eq_true rfl) dX9_readCommand_129
        · have hF := it_f hF (not_not_intro c6)
          refine lv_aload_n hx hb dX9_readCommand_94 rfl (lv_at hl 0 rfl) ?_
          refine gf_X9_36 C B dX9_readCommand_95 ?_
          refine lv_iconst (v := 4) hx hb dX9_readCommand_98 (by decide) ?_
          refine lv_aload_n hx hb dX9_readCommand_99 rfl (lv_at hl 0 rfl) ?_
          refine gf_X9_263 C B dX9_readCommand_100 ?_
          refine lv_imul hx hb dX9_readCommand_103 ?_
          refine lv_iconst (v := 1) hx hb dX9_readCommand_104 (by decide) ?_
          refine lv_iadd hx hb dX9_readCommand_105 ?_
          refine lv_iload_n hx hb dX9_readCommand_106 rfl (lv_at hl 2 rfl) ?_
          refine lv_iadd hx hb dX9_readCommand_107 ?_
          refine lv_aload_n hx hb dX9_readCommand_108 rfl (lv_at hl 0 rfl) ?_
          obtain ⟨r9, M10, hf8, hF⟩ := bp_e hF
          refine fr_cVi (As := []) (rest := [.int (((4 * (M 378 16)) + 1) + x3), .ref (fw_ad X 385)]) C B (cm_X9_digit hf8) ob_9 rfl yw_X9_digit wm_X9_270 rfl hl.1 rfl (Nat.le_of_ble_eq_true rfl) ⟨Nat.le_of_ble_eq_true rfl, Nat.le_of_ble_eq_true rfl⟩ ⟨Nat.le_of_ble_eq_true rfl, Nat.le_of_ble_eq_true rfl⟩ dX9_readCommand_109 (fr_nx rfl) (fun r9 M9 H locs ho9 B => ?_)
          obtain ⟨rfl, rfl⟩ := oi_e ho9
          obtain ⟨c11, hF⟩ := of_g hF
          refine fr_is C B ar_9_385 c11 dX9_readCommand_112 (fun H locs B => ?_)
          obtain ⟨M12, eM12, hF⟩ := lt_e hF
          rw [← eM12] at B
          refine lv_iinc (v := (x3 + 1)) (lv' := [(3, .int (x3 + 1)), (0, .ref (fw_ad X 378)), (1, .int x1)]) hx hb dX9_readCommand_113 hl (k := 2) rfl rfl (by decide) rfl (fun ls hl => ?_)
          refine lv_goto (tgt := 78) hx hb dX9_readCommand_116 (by decide) ?_
          exact ih x1 (x3 + 1) M12 _ _ _ hF B (lv_sub hl [1, 2, 0] rfl)
  have hJ46 : ∀ (x1 : Int32) (x2 : Int32) (M : fw_M) (H : Heap) (locs : List Loc) (ls : Array Slot), F_X9_readCommand_46  x1 x2 M = some o → fr_H X s M H locs → lv_has ls 4 [(0, .ref (fw_ad X 378)), (1, .int x1), (2, .int x2)] → W p l e ({ frames := 6, cells := 0, slots := 0, locals := 127 } : Room) s m ([.ref (fw_ad X 378)] : List Value).toArray below meth c H locs 0 0 (vx_MQ below (fw_Qv X (.inl 0, o)) (fw_Qx X (.inl 0, o)) ([.ref (fw_ad X 378)] : List Value).toArray s 0 0 (fw_A X)) (F0 m 46 ls []) := by
    intro x1 x2 M H locs ls hF B hl
    unfold F_X9_readCommand_46 at hF
    refine lv_aload_n hx hb dX9_readCommand_46 rfl (lv_at hl 0 rfl) ?_
    refine lv_iload_n hx hb dX9_readCommand_47 rfl (lv_at hl 2 rfl) ?_
    refine lv_if_eq (tgt := 56) hx hb dX9_readCommand_48 (by decide) (fun c13 => ?_) (fun c13 => ?_)
    · have hF := it_t hF c13
      refine lv_aload_n hx hb dX9_readCommand_56 rfl (lv_at hl 0 rfl) ?_
      refine lv_iload_n hx hb dX9_readCommand_57 rfl (lv_at hl 1 rfl) ?_
      obtain ⟨r15, hf14, hF⟩ := bx_e hF
      refine jr_V (As := [.int x1]) (rest := [.ref (fw_ad X 378)]) C B (cr_X9_wordOf hf14) (fr_recv C B ob_9 rfl) yw_X9_wordOf wm_X9_259 rfl hl.1 rfl (Nat.le_of_ble_eq_true rfl) ⟨Nat.le_of_ble_eq_true rfl, Nat.le_of_ble_eq_true rfl⟩ ⟨rfl, rfl⟩ ⟨(Nat.le_of_ble_eq_true rfl), (Nat.le_of_ble_eq_true rfl)⟩ dX9_readCommand_58 ?_
      obtain ⟨c16, hF⟩ := of_g hF
      obtain ⟨M19, hf17, hF⟩ := bx_e hF
      refine fr_cVv (As := [.ref (fw_sg X (10 + r15))]) (rest := []) C B (cm_X9_skip c16 hf17) ob_9 rfl yw_X9_skip wm_X9_230 rfl hl.1 rfl (Nat.le_of_ble_eq_true rfl) ⟨Nat.le_of_ble_eq_true rfl, Nat.le_of_ble_eq_true rfl⟩ ⟨Nat.le_of_ble_eq_true rfl, Nat.le_of_ble_eq_true rfl⟩ dX9_readCommand_61 (fr_nx rfl) (fun M9 H locs ho9 B => ?_)
      obtain ⟨-, rfl⟩ := oi_e ho9
      refine lv_aload_n hx hb dX9_readCommand_64 rfl (lv_at hl 0 rfl) ?_
      refine gf_X9_36 C B dX9_readCommand_65 ?_
      refine lv_iconst (v := 4) hx hb dX9_readCommand_68 (by decide) ?_
      refine lv_aload_n hx hb dX9_readCommand_69 rfl (lv_at hl 0 rfl) ?_
      refine gf_X9_263 C B dX9_readCommand_70 ?_
      refine lv_imul hx hb dX9_readCommand_73 ?_
      refine lv_iload_n hx hb dX9_readCommand_74 rfl (lv_at hl 1 rfl) ?_
      obtain ⟨c20, hF⟩ := of_g hF
      refine fr_is C B ar_9_385 c20 dX9_readCommand_75 (fun H locs B => ?_)
      obtain ⟨M21, eM21, hF⟩ := lt_e hF
      rw [← eM21] at B
      refine lv_iconst (v := 0) hx hb dX9_readCommand_76 (by decide) ?_
      refine lv_istore_n (lv' := [(3, .int 0), (0, .ref (fw_ad X 378)), (1, .int x1), (2, .int x2)]) hx hb dX9_readCommand_77 rfl hl (by decide) rfl (fun ls hl => ?_)
      exact hJ78 64 x1 0 M21 _ _ _ hF B (lv_sub hl [1, 2, 0] rfl)
    · have hF := it_f hF c13
      refine fr_ldcs (id := 19) (text := "whisper") C (by decide +kernel) dX9_readCommand_51 ?_
      refine lv_goto (tgt := 61) hx hb dX9_readCommand_53 (by decide) ?_
      obtain ⟨M24, hf22, hF⟩ := bx_e hF
      refine fr_cVv (As := [.ref (fw_sg X (10 + 9))]) (rest := []) C B (cm_X9_skip (by decide) hf22) ob_9 rfl yw_X9_skip wm_X9_230 rfl hl.1 rfl (Nat.le_of_ble_eq_true rfl) ⟨Nat.le_of_ble_eq_true rfl, Nat.le_of_ble_eq_true rfl⟩ ⟨Nat.le_of_ble_eq_true rfl, Nat.le_of_ble_eq_true rfl⟩ dX9_readCommand_61 (fr_nx rfl) (fun M9 H locs ho9 B => ?_)
      obtain ⟨-, rfl⟩ := oi_e ho9
      refine lv_aload_n hx hb dX9_readCommand_64 rfl (lv_at hl 0 rfl) ?_
      refine gf_X9_36 C B dX9_readCommand_65 ?_
      refine lv_iconst (v := 4) hx hb dX9_readCommand_68 (by decide) ?_
      refine lv_aload_n hx hb dX9_readCommand_69 rfl (lv_at hl 0 rfl) ?_
      refine gf_X9_263 C B dX9_readCommand_70 ?_
      refine lv_imul hx hb dX9_readCommand_73 ?_
      refine lv_iload_n hx hb dX9_readCommand_74 rfl (lv_at hl 1 rfl) ?_
      obtain ⟨c25, hF⟩ := of_g hF
      refine fr_is C B ar_9_385 c25 dX9_readCommand_75 (fun H locs B => ?_)
      obtain ⟨M26, eM26, hF⟩ := lt_e hF
      rw [← eM26] at B
      refine lv_iconst (v := 0) hx hb dX9_readCommand_76 (by decide) ?_
      refine lv_istore_n (lv' := [(3, .int 0), (0, .ref (fw_ad X 378)), (1, .int x1), (2, .int x2)]) hx hb dX9_readCommand_77 rfl hl (by decide) rfl (fun ls hl => ?_)
      exact hJ78 64 x1 0 M26 _ _ _ hF B (lv_sub hl [1, 2, 0] rfl)
  unfold F_X9_readCommand at hF
  refine lv_aload_n hx hb dX9_readCommand_0 rfl (lv_at hl 0 rfl) ?_
  refine gf_X9_217 C B dX9_readCommand_1 ?_
  refine lv_if_eq (tgt := 8) hx hb dX9_readCommand_4 (by decide) (fun c27 => ?_) (fun c27 => ?_)
  · have hF := it_t hF c27
    refine lv_aload_n hx hb dX9_readCommand_8 rfl (lv_at hl 0 rfl) ?_
    obtain ⟨r29, hf28, hF⟩ := bx_e hF
    refine fr_cVi (As := []) (rest := []) C B (cm_X9_kind hf28) ob_9 rfl yw_X9_kind wm_X9_255 rfl hl.1 rfl (Nat.le_of_ble_eq_true rfl) ⟨Nat.le_of_ble_eq_true rfl, Nat.le_of_ble_eq_true rfl⟩ ⟨Nat.le_of_ble_eq_true rfl, Nat.le_of_ble_eq_true rfl⟩ dX9_readCommand_9 (fr_nx rfl) (fun r9 M9 H locs ho9 B => ?_)
    obtain ⟨rfl, rfl⟩ := oi_e ho9
    refine lv_istore_n (lv' := [(1, .int r29), (0, .ref (fw_ad X 378))]) hx hb dX9_readCommand_12 rfl hl (by decide) rfl (fun ls hl => ?_)
    refine lv_iload_n hx hb dX9_readCommand_13 rfl (lv_at hl 0 rfl) ?_
    refine lv_bipush (v := 99) hx hb dX9_readCommand_14 (by decide) ?_
    refine lv_icmp_eq (tgt := 31) hx hb dX9_readCommand_16 (by decide) (fun c31 => ?_) (fun c31 => ?_)
    · have hF := it_t hF c31
      refine lv_aload_n hx hb dX9_readCommand_31 rfl (lv_at hl 1 rfl) ?_
      refine lv_iconst (v := 0) hx hb dX9_readCommand_32 (by decide) ?_
      obtain ⟨r33, hf32, hF⟩ := bx_e hF
      refine fr_cVi (As := [.int 0]) (rest := []) C B (cm_X9_behind hf32) ob_9 rfl yw_X9_behind wm_X9_221 rfl hl.1 rfl (Nat.le_of_ble_eq_true rfl) ⟨Nat.le_of_ble_eq_true rfl, Nat.le_of_ble_eq_true rfl⟩ ⟨Nat.le_of_ble_eq_true rfl, Nat.le_of_ble_eq_true rfl⟩ dX9_readCommand_33 (fr_nx rfl) (fun r9 M9 H locs ho9 B => ?_)
      obtain ⟨rfl, rfl⟩ := oi_e ho9
      refine lv_iload_n hx hb dX9_readCommand_36 rfl (lv_at hl 0 rfl) ?_
      refine lv_icmp_ne (tgt := 44) hx hb dX9_readCommand_37 (by decide) (fun c35 => ?_) (fun c35 => ?_)
      · have hF := it_t hF c35
        refine lv_iconst (v := 0) hx hb dX9_readCommand_44 (by decide) ?_
        refine lv_istore_n (lv' := [(2, .int 0), (1, .int r29), (0, .ref (fw_ad X 378))]) hx hb dX9_readCommand_45 rfl hl (by decide) rfl (fun ls hl => ?_)
        exact hJ46 r29 0 M _ _ _ hF B (lv_sub hl [2, 1, 0] rfl)
      · have hF := it_f hF (not_not_intro c35)
        refine lv_iconst (v := 1) hx hb dX9_readCommand_40 (by decide) ?_
        refine lv_goto (tgt := 45) hx hb dX9_readCommand_41 (by decide) ?_
        refine lv_istore_n (lv' := [(2, .int 1), (1, .int r29), (0, .ref (fw_ad X 378))]) hx hb dX9_readCommand_45 rfl hl (by decide) rfl (fun ls hl => ?_)
        exact hJ46 r29 1 M _ _ _ hF B (lv_sub hl [2, 1, 0] rfl)
    · have hF := it_f hF c31
      refine lv_iload_n hx hb dX9_readCommand_19 rfl (lv_at hl 0 rfl) ?_
      refine lv_bipush (v := 105) hx hb dX9_readCommand_20 (by decide) ?_
      refine lv_icmp_eq (tgt := 31) hx hb dX9_readCommand_22 (by decide) (fun c36 => ?_) (fun c36 => ?_)
      · have hF := it_t hF c36
        refine lv_aload_n hx hb dX9_readCommand_31 rfl (lv_at hl 1 rfl) ?_
        refine lv_iconst (v := 0) hx hb dX9_readCommand_32 (by decide) ?_
        obtain ⟨r38, hf37, hF⟩ := bx_e hF
        refine fr_cVi (As := [.int 0]) (rest := []) C B (cm_X9_behind hf37) ob_9 rfl yw_X9_behind wm_X9_221 rfl hl.1 rfl (Nat.le_of_ble_eq_true rfl) ⟨Nat.le_of_ble_eq_true rfl, Nat.le_of_ble_eq_true rfl⟩ ⟨Nat.le_of_ble_eq_true rfl, Nat.le_of_ble_eq_true rfl⟩ dX9_readCommand_33 (fr_nx rfl) (fun r9 M9 H locs ho9 B => ?_)
        obtain ⟨rfl, rfl⟩ := oi_e ho9
        refine lv_iload_n hx hb dX9_readCommand_36 rfl (lv_at hl 0 rfl) ?_
        refine lv_icmp_ne (tgt := 44) hx hb dX9_readCommand_37 (by decide) (fun c40 => ?_) (fun c40 => ?_)
        · have hF := it_t hF c40
          refine lv_iconst (v := 0) hx hb dX9_readCommand_44 (by decide) ?_
          refine lv_istore_n (lv' := [(2, .int 0), (1, .int r29), (0, .ref (fw_ad X 378))]) hx hb dX9_readCommand_45 rfl hl (by decide) rfl (fun ls hl => ?_)
          exact hJ46 r29 0 M _ _ _ hF B (lv_sub hl [2, 1, 0] rfl)
        · have hF := it_f hF (not_not_intro c40)
          refine lv_iconst (v := 1) hx hb dX9_readCommand_40 (by decide) ?_
          refine lv_goto (tgt := 45) hx hb dX9_readCommand_41 (by decide) ?_
          refine lv_istore_n (lv' := [(2, .int 1), (1, .int r29), (0, .ref (fw_ad X 378))]) hx hb dX9_readCommand_45 rfl hl (by decide) rfl (fun ls hl => ?_)
          exact hJ46 r29 1 M _ _ _ hF B (lv_sub hl [2, 1, 0] rfl)
      · have hF := it_f hF c36
        refine lv_iload_n hx hb dX9_readCommand_25 rfl (lv_at hl 0 rfl) ?_
        refine lv_bipush (v := 107) hx hb dX9_readCommand_26 (by decide) ?_
        refine lv_icmp_ne (tgt := 44) hx hb dX9_readCommand_28 (by decide) (fun c41 => ?_) (fun c41 => ?_)
        · have hF := it_t hF c41
          refine lv_iconst (v := 0) hx hb dX9_readCommand_44 (by decide) ?_
          refine lv_istore_n (lv' := [(2, .int 0), (1, .int r29), (0, .ref (fw_ad X 378))]) hx hb dX9_readCommand_45 rfl hl (by decide) rfl (fun ls hl => ?_)
          exact hJ46 r29 0 M _ _ _ hF B (lv_sub hl [2, 1, 0] rfl)
        · have hF := it_f hF (not_not_intro c41)
          refine lv_aload_n hx hb dX9_readCommand_31 rfl (lv_at hl 1 rfl) ?_
          refine lv_iconst (v := 0) hx hb dX9_readCommand_32 (by decide) ?_
          obtain ⟨r43, hf42, hF⟩ := bx_e hF
          refine fr_cVi (As := [.int 0]) (rest := []) C B (cm_X9_behind hf42) ob_9 rfl yw_X9_behind wm_X9_221 rfl hl.1 rfl (Nat.le_of_ble_eq_true rfl) ⟨Nat.le_of_ble_eq_true rfl, Nat.le_of_ble_eq_true rfl⟩ ⟨Nat.le_of_ble_eq_true rfl, Nat.le_of_ble_eq_true rfl⟩ dX9_readCommand_33 (fr_nx rfl) (fun r9 M9 H locs ho9 B => ?_)
          obtain ⟨rfl, rfl⟩ := oi_e ho9
          refine lv_iload_n hx hb dX9_readCommand_36 rfl (lv_at hl 0 rfl) ?_
          refine lv_icmp_ne (tgt := 44) hx hb dX9_readCommand_37 (by decide) (fun c45 => ?_) (fun c45 => ?_)
          · have hF := it_t hF c45
            refine lv_iconst (v := 0) hx hb dX9_readCommand_44 (by decide) ?_
            refine lv_istore_n (lv' := [(2, .int 0), (1, .int r29), (0, .ref (fw_ad X 378))]) hx hb dX9_readCommand_45 rfl hl (by decide) rfl (fun ls hl => ?_)
            exact hJ46 r29 0 M _ _ _ hF B (lv_sub hl [2, 1, 0] rfl)
          · have hF := it_f hF (not_not_intro c45)
            refine lv_iconst (v := 1) hx hb dX9_readCommand_40 (by decide) ?_
            refine lv_goto (tgt := 45) hx hb dX9_readCommand_41 (by decide) ?_
            refine lv_istore_n (lv' := [(2, .int 1), (1, .int r29), (0, .ref (fw_ad X 378))]) hx hb dX9_readCommand_45 rfl hl (by decide) rfl (fun ls hl => ?_)
            exact hJ46 r29 1 M _ _ _ hF B (lv_sub hl [2, 1, 0] rfl)
  · have hF := it_f hF c27
    exact fr_vret C B hr hlk (by rw [← Option.some.inj hF]) (Nat.le_of_ble_eq_true rfl) (Nat.le_of_ble_eq_true rfl) dX9_readCommand_7
