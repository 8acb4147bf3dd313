def F_X8_stopCount (M : fw_M) : Option (Int32) :=
  some (M 1 0)
set_option maxHeartbeats 4000000 in
set_option maxRecDepth 100000 in
theorem cm_X8_stopCount {l : Launch} {X : fw_X} {M : fw_M}  {o : Int32} (hF : F_X8_stopCount M = some o) : ct_i l X yX8_stopCount cX8_stopCount 1 (some .int) ({ frames := 0, cells := 0, slots := 0, locals := 0 } : Room) M [.ref (fw_ad X 352)] (.inl o, M) := by
  refine fw_open rfl (Nat.le_of_ble_eq_true rfl) (fun p e s m below meth c ls C hr hlk hnm hex hl B => ?_)
  have C : fr_C X p c cX8_stopCount 1 RX8 s m ([.ref (fw_ad X 352)] : List Value).toArray := C
  have hx := C.1.1
  have hb := C.1.2.1
  have hl : lv_has ls 1 [(0, .ref (fw_ad X 352))] := hl
  unfold F_X8_stopCount at hF
  refine lv_aload_n hx hb dX8_stopCount_0 rfl (lv_at hl 0 rfl) ?_
  refine gf_X8_12 C B dX8_stopCount_1 ?_
  refine gf_X8_73 C B is7_0 dX8_stopCount_4 ?_
  refine gf_X8_95 C B (is3_of is7_0) dX8_stopCount_7 ?_
  exact fr_iret C B hr rfl hlk (by rw [← Option.some.inj hF]) (Nat.le_of_ble_eq_true rfl) (Nat.le_of_ble_eq_true rfl) dX8_stopCount_10
def F_X8_lineCount (M : fw_M) : Option (Int32) :=
  some (M 1 1)
set_option maxHeartbeats 4000000 in
set_option maxRecDepth 100000 in
theorem cm_X8_lineCount {l : Launch} {X : fw_X} {M : fw_M}  {o : Int32} (hF : F_X8_lineCount M = some o) : ct_i l X yX8_lineCount cX8_lineCount 1 (some .int) ({ frames := 0, cells := 0, slots := 0, locals := 0 } : Room) M [.ref (fw_ad X 352)] (.inl o, M) := by
  refine fw_open rfl (Nat.le_of_ble_eq_true rfl) (fun p e s m below meth c ls C hr hlk hnm hex hl B => ?_)
  have C : fr_C X p c cX8_lineCount 1 RX8 s m ([.ref (fw_ad X 352)] : List Value).toArray := C
  have hx := C.1.1
  have hb := C.1.2.1
  have hl : lv_has ls 1 [(0, .ref (fw_ad X 352))] := hl
  unfold F_X8_lineCount at hF
  refine lv_aload_n hx hb dX8_lineCount_0 rfl (lv_at hl 0 rfl) ?_
  refine gf_X8_12 C B dX8_lineCount_1 ?_
  refine gf_X8_73 C B is7_0 dX8_lineCount_4 ?_
  refine gf_X8_109 C B (is3_of is7_0) dX8_lineCount_7 ?_
  exact fr_iret C B hr rfl hlk (by rw [← Option.some.inj hF]) (Nat.le_of_ble_eq_true rfl) (Nat.le_of_ble_eq_true rfl) dX8_lineCount_10
def F_X8_tickCount (M : fw_M) : Option (Int32) :=
  some (M 0 4)
set_option maxHeartbeats 4000000 in
set_option maxRecDepth 100000 in
theorem cm_X8_tickCount {l : Launch} {X : fw_X} {M : fw_M}  {o : Int32} (hF : F_X8_tickCount M = some o) : ct_i l X yX8_tickCount cX8_tickCount 1 (some .int) ({ frames := 0, cells := 0, slots := 0, locals := 0 } : Room) M [.ref (fw_ad X 352)] (.inl o, M) := by
  refine fw_open rfl (Nat.le_of_ble_eq_true rfl) (fun p e s m below meth c ls C hr hlk hnm hex hl B => ?_)
  have C : fr_C X p c cX8_tickCount 1 RX8 s m ([.ref (fw_ad X 352)] : List Value).toArray := C
  have hx := C.1.1
  have hb := C.1.2.1
  have hl : lv_has ls 1 [(0, .ref (fw_ad X 352))] := hl
  unfold F_X8_tickCount at hF
  refine lv_aload_n hx hb dX8_tickCount_0 rfl (lv_at hl 0 rfl) ?_
  refine gf_X8_12 C B dX8_tickCount_1 ?_
  refine gf_X8_153 C B is7_0 dX8_tickCount_4 ?_
  exact fr_iret C B hr rfl hlk (by rw [← Option.some.inj hF]) (Nat.le_of_ble_eq_true rfl) (Nat.le_of_ble_eq_true rfl) dX8_tickCount_7
def F_X8_tramCount (M : fw_M) : Option (Int32) :=
  some (M 11 0)
set_option maxHeartbeats 4000000 in
set_option maxRecDepth 100000 in
theorem cm_X8_tramCount {l : Launch} {X : fw_X} {M : fw_M}  {o : Int32} (hF : F_X8_tramCount M = some o) : ct_i l X yX8_tramCount cX8_tramCount 1 (some .int) ({ frames := 0, cells := 0, slots := 0, locals := 0 } : Room) M [.ref (fw_ad X 352)] (.inl o, M) := by
  refine fw_open rfl (Nat.le_of_ble_eq_true rfl) (fun p e s m below meth c ls C hr hlk hnm hex hl B => ?_)
  have C : fr_C X p c cX8_tramCount 1 RX8 s m ([.ref (fw_ad X 352)] : List Value).toArray := C
  have hx := C.1.1
  have hb := C.1.2.1
  have hl : lv_has ls 1 [(0, .ref (fw_ad X 352))] := hl
  unfold F_X8_tramCount at hF
  refine lv_aload_n hx hb dX8_tramCount_0 rfl (lv_at hl 0 rfl) ?_
  refine gf_X8_12 C B dX8_tramCount_1 ?_
  refine gf_X8_140 C B is7_0 dX8_tramCount_4 ?_
  refine gf_X8_156 C B (is1_of is7_0) dX8_tramCount_7 ?_
  exact fr_iret C B hr rfl hlk (by rw [← Option.some.inj hF]) (Nat.le_of_ble_eq_true rfl) (Nat.le_of_ble_eq_true rfl) dX8_tramCount_10
def F_X8_fullestTram_27 (M : fw_M)  : Nat → Int32 → Int32 → Option (fw_O)
  | 0, _, _ => none
  | n + 1, x1, x2 =>
    if (M 11 0) ≤ x2 then
      some (.inl x1, M)
    else
      bd_x (F_X6_countOn M 15 x2) fun r3 =>
      bd_x (F_X6_countOn M 15 x1) fun r6 =>
      if r3 ≤ r6 then
        F_X8_fullestTram_27 M n x1 (x2 + 1)
      else
        F_X8_fullestTram_27 M n x2 (x2 + 1)
def F_X8_fullestTram (M : fw_M) : Option (fw_O) :=
  if ¬ (M 11 0) = 0 then
    F_X8_fullestTram_27 M 64 0 1
  else
    some (.inr 3, M)
set_option maxHeartbeats 4000000 in
set_option maxRecDepth 100000 in
theorem cm_X8_fullestTram {l : Launch} {X : fw_X} {M : fw_M} (hlt : l.stackTraces = false)  {o : fw_O} (hF : F_X8_fullestTram M = some o) : ct_i l X yX8_fullestTram cX8_fullestTram 3 (some .int) ({ frames := 7, cells := 1, slots := 6, locals := 130 } : Room) M [.ref (fw_ad X 352)] o := by
  refine fw_open rfl (Nat.le_of_ble_eq_true rfl) (fun p e s m below meth c ls C hr hlk hnm hex hl B => ?_)
  have C : fr_C X p c cX8_fullestTram 3 RX8 s m ([.ref (fw_ad X 352)] : List Value).toArray := C
  have hx := C.1.1
  have hb := C.1.2.1
  have hl : lv_has ls 3 [(0, .ref (fw_ad X 352))] := hl
  have hJ27 : ∀ (n : Nat), ∀ (x1 : Int32) (x2 : Int32) (H : Heap) (locs : List Loc) (ls : Array Slot), F_X8_fullestTram_27 M n x1 x2 = some o → fr_H X s M H locs → lv_has ls 3 [(0, .ref (fw_ad X 352)), (1, .int x1), (2, .int x2)] → W p l e ({ frames := 7, cells := 1, slots := 6, locals := 130 } : Room) s m ([.ref (fw_ad X 352)] : List Value).toArray below meth c H locs 0 0 (vx_MQ below (fw_Qi X o) (fw_Qx X o) ([.ref (fw_ad X 352)] : List Value).toArray s 1 6 (fw_A X)) (F0 m 27 ls []) := by
    intro n
    induction n with
    | zero =>
      intro x1 x2 H locs ls hF B hl
      exact absurd hF (by simp [F_X8_fullestTram_27])
    | succ n ih =>
      intro x1 x2 H locs ls hF B hl
      rw [F_X8_fullestTram_27] at hF
      refine lv_iload_n hx hb dX8_fullestTram_27 rfl (lv_at hl 2 rfl) ?_
      refine lv_aload_n hx hb dX8_fullestTram_28 rfl (lv_at hl 0 rfl) ?_
      refine gf_X8_12 C B dX8_fullestTram_29 ?_
      refine gf_X8_140 C B is7_0 dX8_fullestTram_32 ?_
      refine gf_X8_156 C B (is1_of is7_0) dX8_fullestTram_35 ?_
      refine lv_icmp_ge (tgt := 74) hx hb dX8_fullestTram_38 (by decide) (fun c1 => ?_) (fun c1 => ?_)
      · have hF := it_t hF c1
        refine lv_iload_n hx hb dX8_fullestTram_74 rfl (lv_at hl 1 rfl) ?_
        exact fr_iret C B hr rfl hlk (by rw [← Option.some.inj hF]) (Nat.le_of_ble_eq_true rfl) (Nat.le_of_ble_eq_true rfl) dX8_fullestTram_75
      · have hF := it_f hF c1
        refine lv_aload_n hx hb dX8_fullestTram_41 rfl (lv_at hl 0 rfl) ?_
        refine gf_X8_12 C B dX8_fullestTram_42 ?_
        refine gf_X8_171 C B is7_0 dX8_fullestTram_45 ?_
        refine lv_iload_n hx hb dX8_fullestTram_48 rfl (lv_at hl 2 rfl) ?_
        obtain ⟨r3, hf2, hF⟩ := bx_e hF
        refine fr_cVi (As := [.int x2]) (rest := []) C B (cm_X6_countOn (is6_of is7_0) hf2) (ob_6 (is6_of is7_0)) rfl yw_X6_countOn wm_X8_175 rfl hl.1 rfl (Nat.le_of_ble_eq_true rfl) ⟨Nat.le_of_ble_eq_true rfl, Nat.le_of_ble_eq_true rfl⟩ ⟨Nat.le_of_ble_eq_true rfl, Nat.le_of_ble_eq_true rfl⟩ dX8_fullestTram_49 (fr_nx rfl) (fun r9 M9 H locs ho9 B => ?_)
        obtain ⟨rfl, rfl⟩ := oi_e ho9
        refine lv_aload_n hx hb dX8_fullestTram_52 rfl (lv_at hl 0 rfl) ?_
        refine gf_X8_12 C B dX8_fullestTram_53 ?_
        refine gf_X8_171 C B is7_0 dX8_fullestTram_56 ?_
        refine lv_iload_n hx hb dX8_fullestTram_59 rfl (lv_at hl 1 rfl) ?_
        obtain ⟨r6, hf5, hF⟩ := bx_e hF
        refine fr_cVi (As := [.int x1]) (rest := [.int r3]) C B (cm_X6_countOn (is6_of is7_0) hf5) (ob_6 (is6_of is7_0)) rfl yw_X6_countOn wm_X8_175 rfl hl.1 rfl (Nat.le_of_ble_eq_true rfl) ⟨Nat.le_of_ble_eq_true rfl, Nat.le_of_ble_eq_true rfl⟩ ⟨Nat.le_of_ble_eq_true rfl, Nat.le_of_ble_eq_true rfl⟩ dX8_fullestTram_60 (fr_nx rfl) (fun r9 M9 H locs ho9 B => ?_)
        obtain ⟨rfl, rfl⟩ := oi_e ho9
        refine lv_icmp_le (tgt := 68) hx hb dX8_fullestTram_63 (by decide) (fun c8 => ?_) (fun c8 => ?_)
        · have hF := it_t hF c8
          refine lv_iinc (v := (x2 + 1)) (lv' := [(2, .int (x2 + 1)), (0, .ref (fw_ad X 352)), (1, .int x1)]) hx hb dX8_fullestTram_68 hl (k := 2) rfl rfl (by decide) rfl (fun ls hl => ?_)
          refine lv_goto (tgt := 27) hx hb dX8_fullestTram_71 (by decide) ?_
          exact ih x1 (x2 + 1) _ _ _ hF B (lv_sub hl [1, 2, 0] rfl)
        · have hF := it_f hF c8
          refine lv_iload_n hx hb dX8_fullestTram_66 rfl (lv_at hl 2 rfl) ?_
          refine lv_istore_n (lv' := [(1, .int x2), (0, .ref (fw_ad X 352)), (2, .int x2)]) hx hb dX8_fullestTram_67 rfl hl (by decide) rfl (fun ls hl => ?_)
          refine lv_iinc (v := (x2 + 1)) (lv' := [(2, .int (x2 + 1)), (1, .int x2), (0, .ref (fw_ad X 352))]) hx hb dX8_fullestTram_68 hl (k := 2) rfl rfl (by decide) rfl (fun ls hl => ?_)
          refine lv_goto (tgt := 27) hx hb dX8_fullestTram_71 (by decide) ?_
          exact ih x2 (x2 + 1) _ _ _ hF B (lv_sub hl [2, 1, 0] rfl)
  unfold F_X8_fullestTram at hF
  refine lv_aload_n hx hb dX8_fullestTram_0 rfl (lv_at hl 0 rfl) ?_
  refine gf_X8_12 C B dX8_fullestTram_1 ?_
  refine gf_X8_140 C B is7_0 dX8_fullestTram_4 ?_
  refine gf_X8_156 C B (is1_of is7_0) dX8_fullestTram_7 ?_
  refine lv_if_ne (tgt := 23) hx hb dX8_fullestTram_10 (by decide) (fun c9 => ?_) (fun c9 => ?_)
  · have hF := it_t hF c9
    refine lv_iconst (v := 0) hx hb dX8_fullestTram_23 (by decide) ?_
    refine lv_istore_n (lv' := [(1, .int 0), (0, .ref (fw_ad X 352))]) hx hb dX8_fullestTram_24 rfl hl (by decide) rfl (fun ls hl => ?_)
    refine lv_iconst (v := 1) hx hb dX8_fullestTram_25 (by decide) ?_
    refine lv_istore_n (lv' := [(2, .int 1), (1, .int 0), (0, .ref (fw_ad X 352))]) hx hb dX8_fullestTram_26 rfl hl (by decide) rfl (fun ls hl => ?_)
    exact hJ27 64 0 1 _ _ _ hF B (lv_sub hl [2, 1, 0] rfl)
  · have hF := it_f hF (not_not_intro c9)
    exact fr_throwN C B hlt hex hlk (pk := 19) (id := 59) (text := "no trams") xt_X8_3 (by decide +kernel) (by rw [← Option.some.inj hF]) hl.1 (Nat.le_of_ble_eq_true rfl) (Nat.le_of_ble_eq_true rfl) (Nat.le_of_ble_eq_true rfl) (Nat.le_of_ble_eq_true rfl) (Nat.le_of_ble_eq_true rfl) (Nat.le_of_ble_eq_true rfl) dX8_fullestTram_13 dX8_fullestTram_16 (.inl ⟨dX8_fullestTram_17, rfl⟩) dX8_fullestTram_19 dX8_fullestTram_22
def F_X8_passengerCount (M : fw_M) : Option (Int32) :=
  some (M 15 0)
set_option maxHeartbeats 4000000 in
set_option maxRecDepth 100000 in
theorem cm_X8_passengerCount {l : Launch} {X : fw_X} {M : fw_M}  {o : Int32} (hF : F_X8_passengerCount M = some o) : ct_i l X yX8_passengerCount cX8_passengerCount 1 (some .int) ({ frames := 0, cells := 0, slots := 0, locals := 0 } : Room) M [.ref (fw_ad X 352)] (.inl o, M) := by
  refine fw_open rfl (Nat.le_of_ble_eq_true rfl) (fun p e s m below meth c ls C hr hlk hnm hex hl B => ?_)
  have C : fr_C X p c cX8_passengerCount 1 RX8 s m ([.ref (fw_ad X 352)] : List Value).toArray := C
  have hx := C.1.1
  have hb := C.1.2.1
  have hl : lv_has ls 1 [(0, .ref (fw_ad X 352))] := hl
  unfold F_X8_passengerCount at hF
  refine lv_aload_n hx hb dX8_passengerCount_0 rfl (lv_at hl 0 rfl) ?_
  refine gf_X8_12 C B dX8_passengerCount_1 ?_
  refine gf_X8_171 C B is7_0 dX8_passengerCount_4 ?_
  refine gf_X8_217 C B (is6_of is7_0) dX8_passengerCount_7 ?_
  exact fr_iret C B hr rfl hlk (by rw [← Option.some.inj hF]) (Nat.le_of_ble_eq_true rfl) (Nat.le_of_ble_eq_true rfl) dX8_passengerCount_10
def F_X8_secretCount (M : fw_M) : Option (Int32) :=
  some (M 22 0)
set_option maxHeartbeats 4000000 in
set_option maxRecDepth 100000 in
theorem cm_X8_secretCount {l : Launch} {X : fw_X} {M : fw_M}  {o : Int32} (hF : F_X8_secretCount M = some o) : ct_i l X yX8_secretCount cX8_secretCount 1 (some .int) ({ frames := 0, cells := 0, slots := 0, locals := 0 } : Room) M [.ref (fw_ad X 352)] (.inl o, M) := by
  refine fw_open rfl (Nat.le_of_ble_eq_true rfl) (fun p e s m below meth c ls C hr hlk hnm hex hl B => ?_)
  have C : fr_C X p c cX8_secretCount 1 RX8 s m ([.ref (fw_ad X 352)] : List Value).toArray := C
  have hx := C.1.1
  have hb := C.1.2.1
  have hl : lv_has ls 1 [(0, .ref (fw_ad X 352))] := hl
  unfold F_X8_secretCount at hF
  refine lv_aload_n hx hb dX8_secretCount_0 rfl (lv_at hl 0 rfl) ?_
  refine gf_X8_12 C B dX8_secretCount_1 ?_
  refine gf_X8_247 C B is7_0 dX8_secretCount_4 ?_
  refine gf_X8_262 C B (is2_of is7_0) dX8_secretCount_7 ?_
  exact fr_iret C B hr rfl hlk (by rw [← Option.some.inj hF]) (Nat.le_of_ble_eq_true rfl) (Nat.le_of_ble_eq_true rfl) dX8_secretCount_10
def F_X8_wisestPassenger_2 (M : fw_M) (a1 : Int32)  : Nat → Int32 → Option (fw_O)
  | 0, _ => none
  | n + 1, x2 =>
    if (M 15 0) ≤ x2 then
      some (.inr 3, M)
    else
      bd_x (F_X7_countWiser M 0 x2) fun r3 =>
      if ¬ r3 = a1 then
        F_X8_wisestPassenger_2 M a1 n (x2 + 1)
      else
        some (.inl x2, M)
def F_X8_wisestPassenger (M : fw_M) (a1 : Int32) : Option (fw_O) :=
  F_X8_wisestPassenger_2 M a1 64 0
set_option maxHeartbeats 4000000 in
set_option maxRecDepth 100000 in
theorem cm_X8_wisestPassenger {l : Launch} {X : fw_X} {M : fw_M} {a1 : Int32} (hlt : l.stackTraces = false)  {o : fw_O} (hF : F_X8_wisestPassenger M a1 = some o) : ct_i l X yX8_wisestPassenger cX8_wisestPassenger 3 (some .int) ({ frames := 7, cells := 1, slots := 6, locals := 130 } : Room) M [.ref (fw_ad X 352), .int a1] o := by
  refine fw_open rfl (Nat.le_of_ble_eq_true rfl) (fun p e s m below meth c ls C hr hlk hnm hex hl B => ?_)
  have C : fr_C X p c cX8_wisestPassenger 3 RX8 s m ([.ref (fw_ad X 352), .int a1] : List Value).toArray := C
  have hx := C.1.1
  have hb := C.1.2.1
  have hl : lv_has ls 3 [(0, .ref (fw_ad X 352)), (1, .int a1)] := hl
  have hJ2 : ∀ (n : Nat), ∀ (x2 : Int32) (H : Heap) (locs : List Loc) (ls : Array Slot), F_X8_wisestPassenger_2 M a1 n x2 = some o → fr_H X s M H locs → lv_has ls 3 [(0, .ref (fw_ad X 352)), (1, .int a1), (2, .int x2)] → W p l e ({ frames := 7, cells := 1, slots := 6, locals := 130 } : Room) s m ([.ref (fw_ad X 352), .int a1] : List Value).toArray below meth c H locs 0 0 (vx_MQ below (fw_Qi X o) (fw_Qx X o) ([.ref (fw_ad X 352), .int a1] : List Value).toArray s 1 6 (fw_A X)) (F0 m 2 ls []) := by
    intro n
    induction n with
    | zero =>
      intro x2 H locs ls hF B hl
      exact absurd hF (by simp [F_X8_wisestPassenger_2])
    | succ n ih =>
      intro x2 H locs ls hF B hl
      rw [F_X8_wisestPassenger_2] at hF
      refine lv_iload_n hx hb dX8_wisestPassenger_2 rfl (lv_at hl 2 rfl) ?_
      refine lv_aload_n hx hb dX8_wisestPassenger_3 rfl (lv_at hl 0 rfl) ?_
      refine gf_X8_12 C B dX8_wisestPassenger_4 ?_
      refine gf_X8_171 C B is7_0 dX8_wisestPassenger_7 ?_
      refine gf_X8_217 C B (is6_of is7_0) dX8_wisestPassenger_10 ?_
      refine lv_icmp_ge (tgt := 36) hx hb dX8_wisestPassenger_13 (by decide) (fun c1 => ?_) (fun c1 => ?_)
      · have hF := it_t hF c1
        exact fr_throwN C B hlt hex hlk (pk := 43) (id := 64) (text := "no such rank") xt_X8_3 (by decide +kernel) (by rw [← Option.some.inj hF]) hl.1 (Nat.le_of_ble_eq_true rfl) (Nat.le_of_ble_eq_true rfl) (Nat.le_of_ble_eq_true rfl) (Nat.le_of_ble_eq_true rfl) (Nat.le_of_ble_eq_true rfl) (Nat.le_of_ble_eq_true rfl) dX8_wisestPassenger_36 dX8_wisestPassenger_39 (.inr ⟨dX8_wisestPassenger_40, rfl⟩) dX8_wisestPassenger_43 dX8_wisestPassenger_46
      · have hF := it_f hF c1
        refine lv_aload_n hx hb dX8_wisestPassenger_16 rfl (lv_at hl 0 rfl) ?_
        refine gf_X8_12 C B dX8_wisestPassenger_17 ?_
        refine lv_iload_n hx hb dX8_wisestPassenger_20 rfl (lv_at hl 2 rfl) ?_
        obtain ⟨r3, hf2, hF⟩ := bx_e hF
        refine fr_cVi (As := [.int x2]) (rest := []) C B (cm_X7_countWiser is7_0 hf2) (ob_7 is7_0) rfl yw_X7_countWiser wm_X8_278 rfl hl.1 rfl (Nat.le_of_ble_eq_true rfl) ⟨Nat.le_of_ble_eq_true rfl, Nat.le_of_ble_eq_true rfl⟩ ⟨Nat.le_of_ble_eq_true rfl, Nat.le_of_ble_eq_true rfl⟩ dX8_wisestPassenger_21 (fr_nx rfl) (fun r9 M9 H locs ho9 B => ?_)
        obtain ⟨rfl, rfl⟩ := oi_e ho9
        refine lv_iload_n hx hb dX8_wisestPassenger_24 rfl (lv_at hl 1 rfl) ?_
        refine lv_icmp_ne (tgt := 30) hx hb dX8_wisestPassenger_25 (by decide) (fun c5 => ?_) (fun c5 => ?_)
        · have hF := it_t hF c5
          refine lv_iinc (v := (x2 + 1)) (lv' := [(2, .int (x2 + 1)), (0, .ref (fw_ad X 352)), (1, .int a1)]) hx hb dX8_wisestPassenger_30 hl (k := 2) rfl rfl (by decide) rfl (fun ls hl => ?_)
          refine lv_goto (tgt := 2) hx hb dX8_wisestPassenger_33 (by decide) ?_
          exact ih (x2 + 1) _ _ _ hF B (lv_sub hl [1, 2, 0] rfl)
        · have hF := it_f hF (not_not_intro c5)
          refine lv_iload_n hx hb dX8_wisestPassenger_28 rfl (lv_at hl 2 rfl) ?_
          exact fr_iret C B hr rfl hlk (by rw [← Option.some.inj hF]) (Nat.le_of_ble_eq_true rfl) (Nat.le_of_ble_eq_true rfl) dX8_wisestPassenger_29
  unfold F_X8_wisestPassenger at hF
  refine lv_iconst (v := 0) hx hb dX8_wisestPassenger_0 (by decide) ?_
  refine lv_istore_n (lv' := [(2, .int 0), (0, .ref (fw_ad X 352)), (1, .int a1)]) hx hb dX8_wisestPassenger_1 rfl hl (by decide) rfl (fun ls hl => ?_)
  exact hJ2 64 0 _ _ _ hF B (lv_sub hl [1, 2, 0] rfl)
def F_X8_writePlace (M : fw_M) (a1 : Int32) : Option (fw_M) :=
  if ix_i a1 8 then
  if ¬ (fw_ri M 17 a1) = (-1) then
    bd_x (F_J4_append_cf468 M 62) fun M4 =>
    bd_x (F_J4_append_bf812 M4 (fw_ri M 17 a1)) fun M6 =>
    some M6
  else
    bd_x (F_J4_append_cf468 M 64) fun M8 =>
    bd_x (F_J4_append_bf812 M8 (fw_ri M8 16 a1)) fun M10 =>
    some M10
  else none
set_option maxHeartbeats 4000000 in
set_option maxRecDepth 100000 in
theorem cm_X8_writePlace {l : Launch} {X : fw_X} {M : fw_M} {a1 : Int32}  {o : fw_M} (hF : F_X8_writePlace M a1 = some o) : ct_v l X yX8_writePlace cX8_writePlace 3 none ({ frames := 6, cells := 2, slots := 200, locals := 226 } : Room) M [.ref (fw_ad X 352), .int a1] (.inl 0, o) := by
  refine fw_open rfl (Nat.le_of_ble_eq_true rfl) (fun p e s m below meth c ls C hr hlk hnm hex hl B => ?_)
  have C : fr_C X p c cX8_writePlace 3 RX8 s m ([.ref (fw_ad X 352), .int a1] : List Value).toArray := C
  have hx := C.1.1
  have hb := C.1.2.1
  have hl : lv_has ls 3 [(0, .ref (fw_ad X 352)), (1, .int a1)] := hl
  unfold F_X8_writePlace at hF
  refine lv_aload_n hx hb dX8_writePlace_0 rfl (lv_at hl 0 rfl) ?_
  refine gf_X8_12 C B dX8_writePlace_1 ?_
  refine gf_X8_171 C B is7_0 dX8_writePlace_4 ?_
  refine gf_X8_224 C B (is6_of is7_0) dX8_writePlace_7 ?_
  refine lv_iload_n hx hb dX8_writePlace_10 rfl (lv_at hl 1 rfl) ?_
  obtain ⟨c1, hF⟩ := of_g hF
  refine fr_ia C B (ar_6_2 (is6_of is7_0)) c1 dX8_writePlace_11 ?_
  refine lv_istore_n (lv' := [(2, .int (fw_ri M 17 a1)), (0, .ref (fw_ad X 352)), (1, .int a1)]) hx hb dX8_writePlace_12 rfl hl (by decide) rfl (fun ls hl => ?_)
  refine lv_iload_n hx hb dX8_writePlace_13 rfl (lv_at hl 0 rfl) ?_
  refine lv_iconst (v := (-1)) hx hb dX8_writePlace_14 (by decide) ?_
  refine lv_icmp_ne (tgt := 51) hx hb dX8_writePlace_15 (by decide) (fun c2 => ?_) (fun c2 => ?_)
  · have hF := it_t hF c2
    refine lv_aload_n hx hb dX8_writePlace_51 rfl (lv_at hl 1 rfl) ?_
    refine gf_X8_46 C B dX8_writePlace_52 ?_
    refine lv_bipush (v := 62) hx hb dX8_writePlace_55 (by decide) ?_
    obtain ⟨M4, hf3, hF⟩ := bx_e hF
    refine jm_Vr (As := [.int 62]) (rest := []) C B (cm_J4_append_cf468 hf3) rfl yw_J4_append_cf468 wm_X8_299 rfl hl.1 rfl (Nat.le_of_ble_eq_true rfl) ⟨Nat.le_of_ble_eq_true rfl, Nat.le_of_ble_eq_true rfl⟩ ⟨(Nat.le_of_ble_eq_true rfl), (Nat.le_of_ble_eq_true rfl)⟩ dX8_writePlace_57 (fun H locs B => ?_)
    refine lv_pop hx hb dX8_writePlace_60 rfl ?_
    refine lv_aload_n hx hb dX8_writePlace_61 rfl (lv_at hl 1 rfl) ?_
    refine gf_X8_46 C B dX8_writePlace_62 ?_
    refine lv_iload_n hx hb dX8_writePlace_65 rfl (lv_at hl 0 rfl) ?_
    obtain ⟨M6, hf5, hF⟩ := bx_e hF
    refine jm_Vr (As := [.int (fw_ri M 17 a1)]) (rest := []) C B (cm_J4_append_bf812 hf5) rfl yw_J4_append_bf812 wm_X8_303 rfl hl.1 rfl (Nat.le_of_ble_eq_true rfl) ⟨Nat.le_of_ble_eq_true rfl, Nat.le_of_ble_eq_true rfl⟩ ⟨(Nat.le_of_ble_eq_true rfl), (Nat.le_of_ble_eq_true rfl)⟩ dX8_writePlace_66 (fun H locs B => ?_)
    refine lv_pop hx hb dX8_writePlace_69 rfl ?_
    exact fr_vret C B hr hlk (by rw [← Option.some.inj hF]) (Nat.le_of_ble_eq_true rfl) (Nat.le_of_ble_eq_true rfl) dX8_writePlace_70
  · have hF := it_f hF (not_not_intro c2)
    refine lv_aload_n hx hb dX8_writePlace_18 rfl (lv_at hl 1 rfl) ?_
    refine gf_X8_46 C B dX8_writePlace_19 ?_
    refine lv_bipush (v := 64) hx hb dX8_writePlace_22 (by decide) ?_
    obtain ⟨M8, hf7, hF⟩ := bx_e hF
    refine jm_Vr (As := [.int 64]) (rest := []) C B (cm_J4_append_cf468 hf7) rfl yw_J4_append_cf468 wm_X8_299 rfl hl.1 rfl (Nat.le_of_ble_eq_true rfl) ⟨Nat.le_of_ble_eq_true rfl, Nat.le_of_ble_eq_true rfl⟩ ⟨(Nat.le_of_ble_eq_true rfl), (Nat.le_of_ble_eq_true rfl)⟩ dX8_writePlace_24 (fun H locs B => ?_)
    refine lv_pop hx hb dX8_writePlace_27 rfl ?_
    refine lv_aload_n hx hb dX8_writePlace_28 rfl (lv_at hl 1 rfl) ?_
    refine gf_X8_46 C B dX8_writePlace_29 ?_
    refine lv_aload_n hx hb dX8_writePlace_32 rfl (lv_at hl 1 rfl) ?_
    refine gf_X8_12 C B dX8_writePlace_33 ?_
    refine gf_X8_171 C B is7_0 dX8_writePlace_36 ?_
    refine gf_X8_221 C B (is6_of is7_0) dX8_writePlace_39 ?_
    refine lv_iload_n hx hb dX8_writePlace_42 rfl (lv_at hl 2 rfl) ?_
    refine fr_ia C B (ar_6_1 (is6_of is7_0)) c1 dX8_writePlace_43 ?_
    obtain ⟨M10, hf9, hF⟩ := bx_e hF
    refine jm_Vr (As := [.int (fw_ri M8 16 a1)]) (rest := []) C B (cm_J4_append_bf812 hf9) rfl yw_J4_append_bf812 wm_X8_303 rfl hl.1 rfl (Nat.le_of_ble_eq_true rfl) ⟨Nat.le_of_ble_eq_true rfl, Nat.le_of_ble_eq_true rfl⟩ ⟨(Nat.le_of_ble_eq_true rfl), (Nat.le_of_ble_eq_true rfl)⟩ dX8_writePlace_44 (fun H locs B => ?_)
    refine lv_pop hx hb dX8_writePlace_47 rfl ?_
    refine lv_goto (tgt := 70) hx hb dX8_writePlace_48 (by decide) ?_
    exact fr_vret C B hr hlk (by rw [← Option.some.inj hF]) (Nat.le_of_ble_eq_true rfl) (Nat.le_of_ble_eq_true rfl) dX8_writePlace_70
def F_X8_textAt (M : fw_M) (a1 : Int32) : Option (fw_O) :=
  if a1 < 0 then
    some (.inr 0, M)
  else
    bd_x (F_J4_length_8abf5 M) fun r3 =>
    if a1 < r3 then
      bd_x (F_J4_charAt_5068e M a1) fun r6 =>
      if fw_nc r6 = r6 then
      some (.inl r6, M)
      else none
    else
      some (.inr 0, M)
set_option maxHeartbeats 4000000 in
set_option maxRecDepth 100000 in
theorem cm_X8_textAt {l : Launch} {X : fw_X} {M : fw_M} {a1 : Int32} (hlt : l.stackTraces = false)  {o : fw_O} (hF : F_X8_textAt M a1 = some o) : ct_i l X yX8_textAt cX8_textAt 2 (some .char) ({ frames := 7, cells := 1, slots := 6, locals := 130 } : Room) M [.ref (fw_ad X 352), .int a1] o := by
  refine fw_open rfl (Nat.le_of_ble_eq_true rfl) (fun p e s m below meth c ls C hr hlk hnm hex hl B => ?_)
  have C : fr_C X p c cX8_textAt 2 RX8 s m ([.ref (fw_ad X 352), .int a1] : List Value).toArray := C
  have hx := C.1.1
  have hb := C.1.2.1
  have hl : lv_has ls 2 [(0, .ref (fw_ad X 352)), (1, .int a1)] := hl
  unfold F_X8_textAt at hF
  refine lv_iload_n hx hb dX8_textAt_0 rfl (lv_at hl 1 rfl) ?_
  refine lv_if_lt (tgt := 15) hx hb dX8_textAt_1 (by decide) (fun c1 => ?_) (fun c1 => ?_)
  · have hF := it_t hF c1
    exact fr_throwW C B hlt hex hlk (n := 0) (id := 65) (text := "no such character") xt_X8_0 (by decide +kernel) (by rw [← Option.some.inj hF]) hl.1 (Nat.le_of_ble_eq_true rfl) (Nat.le_of_ble_eq_true rfl) (Nat.le_of_ble_eq_true rfl) (Nat.le_of_ble_eq_true rfl) (Nat.le_of_ble_eq_true rfl) (Nat.le_of_ble_eq_true rfl) dX8_textAt_15 dX8_textAt_18 dX8_textAt_19 dX8_textAt_22 dX8_textAt_25
  · have hF := it_f hF c1
    refine lv_iload_n hx hb dX8_textAt_4 rfl (lv_at hl 1 rfl) ?_
    refine lv_aload_n hx hb dX8_textAt_5 rfl (lv_at hl 0 rfl) ?_
    refine gf_X8_46 C B dX8_textAt_6 ?_
    obtain ⟨r3, hf2, hF⟩ := bx_e hF
    refine jm_Vq (As := []) (rest := [.int a1]) C B (cr_J4_length_8abf5 hf2) rfl yw_J4_length_8abf5 wm_X8_306 rfl hl.1 rfl (Nat.le_of_ble_eq_true rfl) ⟨Nat.le_of_ble_eq_true rfl, Nat.le_of_ble_eq_true rfl⟩ ⟨rfl, rfl⟩ ⟨(Nat.le_of_ble_eq_true rfl), (Nat.le_of_ble_eq_true rfl)⟩ dX8_textAt_9 ?_
    refine lv_icmp_lt (tgt := 26) hx hb dX8_textAt_12 (by decide) (fun c4 => ?_) (fun c4 => ?_)
    · have hF := it_t hF c4
      refine lv_aload_n hx hb dX8_textAt_26 rfl (lv_at hl 0 rfl) ?_
      refine gf_X8_46 C B dX8_textAt_27 ?_
      refine lv_iload_n hx hb dX8_textAt_30 rfl (lv_at hl 1 rfl) ?_
      obtain ⟨r6, hf5, hF⟩ := bx_e hF
      refine jm_Vq (As := [.int a1]) (rest := []) C B (cr_J4_charAt_5068e hf5) rfl yw_J4_charAt_5068e wm_X8_317 rfl hl.1 rfl (Nat.le_of_ble_eq_true rfl) ⟨Nat.le_of_ble_eq_true rfl, Nat.le_of_ble_eq_true rfl⟩ ⟨rfl, rfl⟩ ⟨(Nat.le_of_ble_eq_true rfl), (Nat.le_of_ble_eq_true rfl)⟩ dX8_textAt_31 ?_
      obtain ⟨c7, hF⟩ := of_g hF
      exact fr_iret C B hr (nz_c c7) hlk (by rw [← Option.some.inj hF]) (Nat.le_of_ble_eq_true rfl) (Nat.le_of_ble_eq_true rfl) dX8_textAt_34
    · have hF := it_f hF c4
      exact fr_throwW C B hlt hex hlk (n := 0) (id := 65) (text := "no such character") xt_X8_0 (by decide +kernel) (by rw [← Option.some.inj hF]) hl.1 (Nat.le_of_ble_eq_true rfl) (Nat.le_of_ble_eq_true rfl) (Nat.le_of_ble_eq_true rfl) (Nat.le_of_ble_eq_true rfl) (Nat.le_of_ble_eq_true rfl) (Nat.le_of_ble_eq_true rfl) dX8_textAt_15 dX8_textAt_18 dX8_textAt_19 dX8_textAt_22 dX8_textAt_25
def F_X8_meanRides_30 (M : fw_M)  : Nat → Int32 → Int32 → Int32 → Option (fw_Od)
  | 0, _, _, _ => none
  | n + 1, x1, x2, x3 =>
    if x1 ≤ x3 then
      if vn_d (FP.ddiv (FP.i2d x2) (FP.i2d x1)) then
      some (.inl (FP.ddiv (FP.i2d x2) (FP.i2d x1)), M)
      else none
    else
      if ix_i x3 8 then
      F_X8_meanRides_30 M n x1 (x2 + (fw_ri M 18 x3)) (x3 + 1)
      else none
def F_X8_meanRides (M : fw_M) : Option (fw_Od) :=
  if ¬ (M 15 0) = 0 then
    F_X8_meanRides_30 M 64 (M 15 0) 0 0
  else
    some (.inr 5, M)
set_option maxHeartbeats 4000000 in
set_option maxRecDepth 100000 in
theorem cm_X8_meanRides {l : Launch} {X : fw_X} {M : fw_M} (hlt : l.stackTraces = false)  {o : fw_Od} (hF : F_X8_meanRides M = some o) : ct_d l X yX8_meanRides cX8_meanRides 4 (some .double) ({ frames := 7, cells := 1, slots := 6, locals := 130 } : Room) M [.ref (fw_ad X 352)] o := by
  refine fw_open rfl (Nat.le_of_ble_eq_true rfl) (fun p e s m below meth c ls C hr hlk hnm hex hl B => ?_)
  have C : fr_C X p c cX8_meanRides 4 RX8 s m ([.ref (fw_ad X 352)] : List Value).toArray := C
  have hx := C.1.1
  have hb := C.1.2.1
  have hl : lv_has ls 4 [(0, .ref (fw_ad X 352))] := hl
  have hJ30 : ∀ (n : Nat), ∀ (x1 : Int32) (x2 : Int32) (x3 : Int32) (H : Heap) (locs : List Loc) (ls : Array Slot), F_X8_meanRides_30 M n x1 x2 x3 = some o → fr_H X s M H locs → lv_has ls 4 [(0, .ref (fw_ad X 352)), (1, .int x1), (2, .int x2), (3, .int x3)] → W p l e ({ frames := 7, cells := 1, slots := 6, locals := 130 } : Room) s m ([.ref (fw_ad X 352)] : List Value).toArray below meth c H locs 0 0 (vx_MQ below (fw_Qdd X o) (fw_Qx X (dO o)) ([.ref (fw_ad X 352)] : List Value).toArray s 1 6 (fw_A X)) (F0 m 30 ls []) := by
    intro n
    induction n with
    | zero =>
      intro x1 x2 x3 H locs ls hF B hl
      exact absurd hF (by simp [F_X8_meanRides_30])
    | succ n ih =>
      intro x1 x2 x3 H locs ls hF B hl
      rw [F_X8_meanRides_30] at hF
      refine lv_iload_n hx hb dX8_meanRides_30 rfl (lv_at hl 3 rfl) ?_
      refine lv_iload_n hx hb dX8_meanRides_31 rfl (lv_at hl 1 rfl) ?_
      refine lv_icmp_ge (tgt := 56) hx hb dX8_meanRides_32 (by decide) (fun c1 => ?_) (fun c1 => ?_)
      · have hF := it_t hF c1
        refine lv_iload_n hx hb dX8_meanRides_56 rfl (lv_at hl 2 rfl) ?_
        refine lv_i2d hx hb dX8_meanRides_57 ?_
        refine lv_iload_n hx hb dX8_meanRides_58 rfl (lv_at hl 1 rfl) ?_
        refine lv_i2d hx hb dX8_meanRides_59 ?_
        obtain ⟨c2, hF⟩ := of_g hF
        refine lv_ddiv hx hb dX8_meanRides_60 c2 ?_
        exact fr_dret C B hr hlk (by rw [← Option.some.inj hF]) (Nat.le_of_ble_eq_true rfl) (Nat.le_of_ble_eq_true rfl) dX8_meanRides_61
      · have hF := it_f hF c1
        refine lv_iload_n hx hb dX8_meanRides_35 rfl (lv_at hl 2 rfl) ?_
        refine lv_aload_n hx hb dX8_meanRides_36 rfl (lv_at hl 0 rfl) ?_
        refine gf_X8_12 C B dX8_meanRides_37 ?_
        refine gf_X8_171 C B is7_0 dX8_meanRides_40 ?_
        refine gf_X8_227 C B (is6_of is7_0) dX8_meanRides_43 ?_
        refine lv_iload_n hx hb dX8_meanRides_46 rfl (lv_at hl 3 rfl) ?_
        obtain ⟨c3, hF⟩ := of_g hF
        refine fr_ia C B (ar_6_3 (is6_of is7_0)) c3 dX8_meanRides_47 ?_
        refine lv_iadd hx hb dX8_meanRides_48 ?_
        refine lv_istore_n (lv' := [(2, .int (x2 + (fw_ri M 18 x3))), (0, .ref (fw_ad X 352)), (1, .int x1), (3, .int x3)]) hx hb dX8_meanRides_49 rfl hl (by decide) rfl (fun ls hl => ?_)
        refine lv_iinc (v := (x3 + 1)) (lv' := [(3, .int (x3 + 1)), (2, .int (x2 + (fw_ri M 18 x3))), (0, .ref (fw_ad X 352)), (1, .int x1)]) hx hb dX8_meanRides_50 hl (k := 3) rfl rfl (by decide) rfl (fun ls hl => ?_)
        refine lv_goto (tgt := 30) hx hb dX8_meanRides_53 (by decide) ?_
        exact ih x1 (x2 + (fw_ri M 18 x3)) (x3 + 1) _ _ _ hF B (lv_sub hl [2, 3, 1, 0] rfl)
  unfold F_X8_meanRides at hF
  refine lv_aload_n hx hb dX8_meanRides_0 rfl (lv_at hl 0 rfl) ?_
  refine gf_X8_12 C B dX8_meanRides_1 ?_
  refine gf_X8_171 C B is7_0 dX8_meanRides_4 ?_
  refine gf_X8_217 C B (is6_of is7_0) dX8_meanRides_7 ?_
  refine lv_istore_n (lv' := [(1, .int (M 15 0)), (0, .ref (fw_ad X 352))]) hx hb dX8_meanRides_10 rfl hl (by decide) rfl (fun ls hl => ?_)
  refine lv_iload_n hx hb dX8_meanRides_11 rfl (lv_at hl 0 rfl) ?_
  refine lv_if_ne (tgt := 26) hx hb dX8_meanRides_12 (by decide) (fun c4 => ?_) (fun c4 => ?_)
  · have hF := it_t hF c4
    refine lv_iconst (v := 0) hx hb dX8_meanRides_26 (by decide) ?_
    refine lv_istore_n (lv' := [(2, .int 0), (1, .int (M 15 0)), (0, .ref (fw_ad X 352))]) hx hb dX8_meanRides_27 rfl hl (by decide) rfl (fun ls hl => ?_)
    refine lv_iconst (v := 0) hx hb dX8_meanRides_28 (by decide) ?_
    refine lv_istore_n (lv' := [(3, .int 0), (2, .int 0), (1, .int (M 15 0)), (0, .ref (fw_ad X 352))]) hx hb dX8_meanRides_29 rfl hl (by decide) rfl (fun ls hl => ?_)
    exact hJ30 64 (M 15 0) 0 0 _ _ _ hF B (lv_sub hl [3, 2, 1, 0] rfl)
  · have hF := it_f hF (not_not_intro c4)
    exact fr_throwW C B hlt hex hlk (n := 5) (id := 66) (text := "no passengers") xt_X8_5 (by decide +kernel) (by have h9 := Option.some.inj hF; subst h9; rfl) hl.1 (Nat.le_of_ble_eq_true rfl) (Nat.le_of_ble_eq_true rfl) (Nat.le_of_ble_eq_true rfl) (Nat.le_of_ble_eq_true rfl) (Nat.le_of_ble_eq_true rfl) (Nat.le_of_ble_eq_true rfl) dX8_meanRides_15 dX8_meanRides_18 dX8_meanRides_19 dX8_meanRides_22 dX8_meanRides_25
def F_X8_truthShare_30 (M : fw_M)  : Nat → Int32 → Int32 → Int32 → Option (fw_Of)
  | 0, _, _, _ => none
  | n + 1, x1, x2, x3 =>
    if x1 ≤ x3 then
      if vn_f (FP.fdiv (FP.i2f x2) (FP.i2f x1)) then
      some (.inl (FP.fdiv (FP.i2f x2) (FP.i2f x1)), M)
      else none
    else
      bd_x (F_X2_isOut M 22 x3) fun r4 =>
      if r4 = 0 then
        F_X8_truthShare_30 M n x1 x2 (x3 + 1)
      else
        F_X8_truthShare_30 M n x1 (x2 + 1) (x3 + 1)
def F_X8_truthShare (M : fw_M) : Option (fw_Of) :=
  if ¬ (M 22 0) = 0 then
    F_X8_truthShare_30 M 64 (M 22 0) 0 0
  else
    some (.inr 5, M)
set_option maxHeartbeats 4000000 in
set_option maxRecDepth 100000 in
theorem cm_X8_truthShare {l : Launch} {X : fw_X} {M : fw_M} (hlt : l.stackTraces = false)  {o : fw_Of} (hF : F_X8_truthShare M = some o) : ct_f l X yX8_truthShare cX8_truthShare 4 (some .float) ({ frames := 7, cells := 1, slots := 6, locals := 130 } : Room) M [.ref (fw_ad X 352)] o := by
  refine fw_open rfl (Nat.le_of_ble_eq_true rfl) (fun p e s m below meth c ls C hr hlk hnm hex hl B => ?_)
  have C : fr_C X p c cX8_truthShare 4 RX8 s m ([.ref (fw_ad X 352)] : List Value).toArray := C
  have hx := C.1.1
  have hb := C.1.2.1
  have hl : lv_has ls 4 [(0, .ref (fw_ad X 352))] := hl
  have hJ30 : ∀ (n : Nat), ∀ (x1 : Int32) (x2 : Int32) (x3 : Int32) (H : Heap) (locs : List Loc) (ls : Array Slot), F_X8_truthShare_30 M n x1 x2 x3 = some o → fr_H X s M H locs → lv_has ls 4 [(0, .ref (fw_ad X 352)), (1, .int x1), (2, .int x2), (3, .int x3)] → W p l e ({ frames := 7, cells := 1, slots := 6, locals := 130 } : Room) s m ([.ref (fw_ad X 352)] : List Value).toArray below meth c H locs 0 0 (vx_MQ below (fw_Qff X o) (fw_Qx X (fO o)) ([.ref (fw_ad X 352)] : List Value).toArray s 1 6 (fw_A X)) (F0 m 30 ls []) := by
    intro n
    induction n with
    | zero =>
      intro x1 x2 x3 H locs ls hF B hl
      exact absurd hF (by simp [F_X8_truthShare_30])
    | succ n ih =>
      intro x1 x2 x3 H locs ls hF B hl
      rw [F_X8_truthShare_30] at hF
      refine lv_iload_n hx hb dX8_truthShare_30 rfl (lv_at hl 3 rfl) ?_
      refine lv_iload_n hx hb dX8_truthShare_31 rfl (lv_at hl 1 rfl) ?_
      refine lv_icmp_ge (tgt := 58) hx hb dX8_truthShare_32 (by decide) (fun c1 => ?_) (fun c1 => ?_)
      · have hF := it_t hF c1
        refine lv_iload_n hx hb dX8_truthShare_58 rfl (lv_at hl 2 rfl) ?_
        refine lv_i2f hx hb dX8_truthShare_59 ?_
        refine lv_iload_n hx hb dX8_truthShare_60 rfl (lv_at hl 1 rfl) ?_
        refine lv_i2f hx hb dX8_truthShare_61 ?_
        obtain ⟨c2, hF⟩ := of_g hF
        refine lv_fdiv hx hb dX8_truthShare_62 c2 ?_
        exact fr_fret C B hr hlk (by rw [← Option.some.inj hF]) (Nat.le_of_ble_eq_true rfl) (Nat.le_of_ble_eq_true rfl) dX8_truthShare_63
      · have hF := it_f hF c1
        refine lv_aload_n hx hb dX8_truthShare_35 rfl (lv_at hl 0 rfl) ?_
        refine gf_X8_12 C B dX8_truthShare_36 ?_
        refine gf_X8_247 C B is7_0 dX8_truthShare_39 ?_
        refine lv_iload_n hx hb dX8_truthShare_42 rfl (lv_at hl 3 rfl) ?_
        obtain ⟨r4, hf3, hF⟩ := bx_e hF
        refine fr_cVi (As := [.int x3]) (rest := []) C B (cm_X2_isOut (is2_of is7_0) hf3) (ob_2 (is2_of is7_0)) rfl yw_X2_isOut wm_X8_269 rfl hl.1 rfl (Nat.le_of_ble_eq_true rfl) ⟨Nat.le_of_ble_eq_true rfl, Nat.le_of_ble_eq_true rfl⟩ ⟨Nat.le_of_ble_eq_true rfl, Nat.le_of_ble_eq_true rfl⟩ dX8_truthShare_43 (fr_nx rfl) (fun r9 M9 H locs ho9 B => ?_)
        obtain ⟨rfl, rfl⟩ := oi_e ho9
        refine lv_if_eq (tgt := 52) hx hb dX8_truthShare_46 (by decide) (fun c6 => ?_) (fun c6 => ?_)
        · have hF := it_t hF c6
          refine lv_iinc (v := (x3 + 1)) (lv' := [(3, .int (x3 + 1)), (0, .ref (fw_ad X 352)), (1, .int x1), (2, .int x2)]) hx hb dX8_truthShare_52 hl (k := 3) rfl rfl (by decide) rfl (fun ls hl => ?_)
          refine lv_goto (tgt := 30) hx hb dX8_truthShare_55 (by decide) ?_
          exact ih x1 x2 (x3 + 1) _ _ _ hF B (lv_sub hl [1, 2, 3, 0] rfl)
        · have hF := it_f hF c6
          refine lv_iinc (v := (x2 + 1)) (lv' := [(2, .int (x2 + 1)), (0, .ref (fw_ad X 352)), (1, .int x1), (3, .int x3)]) hx hb dX8_truthShare_49 hl (k := 2) rfl rfl (by decide) rfl (fun ls hl => ?_)
          refine lv_iinc (v := (x3 + 1)) (lv' := [(3, .int (x3 + 1)), (2, .int (x2 + 1)), (0, .ref (fw_ad X 352)), (1, .int x1)]) hx hb dX8_truthShare_52 hl (k := 3) rfl rfl (by decide) rfl (fun ls hl => ?_)
          refine lv_goto (tgt := 30) hx hb dX8_truthShare_55 (by decide) ?_
          exact ih x1 (x2 + 1) (x3 + 1) _ _ _ hF B (lv_sub hl [2, 3, 1, 0] rfl)
  unfold F_X8_truthShare at hF
  refine lv_aload_n hx hb dX8_truthShare_0 rfl (lv_at hl 0 rfl) ?_
  refine gf_X8_12 C B dX8_truthShare_1 ?_
  refine gf_X8_247 C B is7_0 dX8_truthShare_4 ?_
  refine gf_X8_262 C B (is2_of is7_0) dX8_truthShare_7 ?_
  refine lv_istore_n (lv' := [(1, .int (M 22 0)), (0, .ref (fw_ad X 352))]) hx hb dX8_truthShare_10 rfl hl (by decide) rfl (fun ls hl => ?_)
  refine lv_iload_n hx hb dX8_truthShare_11 rfl (lv_at hl 0 rfl) ?_
  refine lv_if_ne (tgt := 26) hx hb dX8_truthShare_12 (by decide) (fun c7 => ?_) (fun c7 => ?_)
  · have hF := it_t hF c7
    refine lv_iconst (v := 0) hx hb dX8_truthShare_26 (by decide) ?_
    refine lv_istore_n (lv' := [(2, .int 0), (1, .int (M 22 0)), (0, .ref (fw_ad X 352))]) hx hb dX8_truthShare_27 rfl hl (by decide) rfl (fun ls hl => ?_)
    refine lv_iconst (v := 0) hx hb dX8_truthShare_28 (by decide) ?_
    refine lv_istore_n (lv' := [(3, .int 0), (2, .int 0), (1, .int (M 22 0)), (0, .ref (fw_ad X 352))]) hx hb dX8_truthShare_29 rfl hl (by decide) rfl (fun ls hl => ?_)
    exact hJ30 64 (M 22 0) 0 0 _ _ _ hF B (lv_sub hl [3, 2, 1, 0] rfl)
  · have hF := it_f hF (not_not_intro c7)
    exact fr_throwW C B hlt hex hlk (n := 5) (id := 67) (text := "no secrets") xt_X8_5 (by decide +kernel) (by have h9 := Option.some.inj hF; subst h9; rfl) hl.1 (Nat.le_of_ble_eq_true rfl) (Nat.le_of_ble_eq_true rfl) (Nat.le_of_ble_eq_true rfl) (Nat.le_of_ble_eq_true rfl) (Nat.le_of_ble_eq_true rfl) (Nat.le_of_ble_eq_true rfl) dX8_truthShare_15 dX8_truthShare_18 dX8_truthShare_19 dX8_truthShare_22 dX8_truthShare_25
def F_X8_type (M : fw_M) (a1 : Int32) : Option (fw_O) :=
  if a1 < 32 then
    some (.inr 1, M)
  else
    if a1 ≤ 126 then
      if (M 360 0) < 60 then
        bd_p (F_X0_append M a1) fun r5 M6 =>
        some (.inl r5, M6)
      else
        some (.inr 2, M)
    else
      some (.inr 1, M)
set_option maxHeartbeats 4000000 in
set_option maxRecDepth 100000 in
theorem cm_X8_type {l : Launch} {X : fw_X} {M : fw_M} {a1 : Int32} (hlt : l.stackTraces = false)  {o : fw_O} (hF : F_X8_type M a1 = some o) : ct_i l X yX8_type cX8_type 2 (some .int) ({ frames := 7, cells := 1, slots := 6, locals := 130 } : Room) M [.ref (fw_ad X 352), .int a1] o := by
  refine fw_open rfl (Nat.le_of_ble_eq_true rfl) (fun p e s m below meth c ls C hr hlk hnm hex hl B => ?_)
  have C : fr_C X p c cX8_type 2 RX8 s m ([.ref (fw_ad X 352), .int a1] : List Value).toArray := C
  have hx := C.1.1
  have hb := C.1.2.1
  have hl : lv_has ls 2 [(0, .ref (fw_ad X 352)), (1, .int a1)] := hl
  unfold F_X8_type at hF
  refine lv_iload_n hx hb dX8_type_0 rfl (lv_at hl 1 rfl) ?_
  refine lv_bipush (v := 32) hx hb dX8_type_1 (by decide) ?_
  refine lv_icmp_lt (tgt := 12) hx hb dX8_type_3 (by decide) (fun c1 => ?_) (fun c1 => ?_)
  · have hF := it_t hF c1
    exact fr_throwW C B hlt hex hlk (n := 1) (id := 68) (text := "not a printable character") xt_X8_1 (by decide +kernel) (by rw [← Option.some.inj hF]) hl.1 (Nat.le_of_ble_eq_true rfl) (Nat.le_of_ble_eq_true rfl) (Nat.le_of_ble_eq_true rfl) (Nat.le_of_ble_eq_true rfl) (Nat.le_of_ble_eq_true rfl) (Nat.le_of_ble_eq_true rfl) dX8_type_12 dX8_type_15 dX8_type_16 dX8_type_19 dX8_type_22
  · have hF := it_f hF c1
    refine lv_iload_n hx hb dX8_type_6 rfl (lv_at hl 1 rfl) ?_
    refine lv_bipush (v := 126) hx hb dX8_type_7 (by decide) ?_
    refine lv_icmp_le (tgt := 23) hx hb dX8_type_9 (by decide) (fun c2 => ?_) (fun c2 => ?_)
    · have hF := it_t hF c2
      refine lv_aload_n hx hb dX8_type_23 rfl (lv_at hl 0 rfl) ?_
      refine gf_X8_39 C B dX8_type_24 ?_
      refine gf_X8_338 C B dX8_type_27 ?_
      refine lv_bipush (v := 60) hx hb dX8_type_30 (by decide) ?_
      refine lv_icmp_lt (tgt := 46) hx hb dX8_type_32 (by decide) (fun c3 => ?_) (fun c3 => ?_)
      · have hF := it_t hF c3
        refine lv_aload_n hx hb dX8_type_46 rfl (lv_at hl 0 rfl) ?_
        refine gf_X8_39 C B dX8_type_47 ?_
        refine lv_iload_n hx hb dX8_type_50 rfl (lv_at hl 1 rfl) ?_
        obtain ⟨r5, M6, hf4, hF⟩ := bp_e hF
        refine fr_cVi (As := [.int a1]) (rest := []) C B (cm_X0_append hf4) ob_0 rfl yw_X0_append wm_X8_345 rfl hl.1 rfl (Nat.le_of_ble_eq_true rfl) ⟨Nat.le_of_ble_eq_true rfl, Nat.le_of_ble_eq_true rfl⟩ ⟨Nat.le_of_ble_eq_true rfl, Nat.le_of_ble_eq_true rfl⟩ dX8_type_51 (fr_nx rfl) (fun r9 M9 H locs ho9 B => ?_)
        obtain ⟨rfl, rfl⟩ := oi_e ho9
        exact fr_iret C B hr rfl hlk (by rw [← Option.some.inj hF]) (Nat.le_of_ble_eq_true rfl) (Nat.le_of_ble_eq_true rfl) dX8_type_54
      · have hF := it_f hF c3
        exact fr_throwW C B hlt hex hlk (n := 2) (id := 69) (text := "the buffer is full") xt_X8_2 (by decide +kernel) (by rw [← Option.some.inj hF]) hl.1 (Nat.le_of_ble_eq_true rfl) (Nat.le_of_ble_eq_true rfl) (Nat.le_of_ble_eq_true rfl) (Nat.le_of_ble_eq_true rfl) (Nat.le_of_ble_eq_true rfl) (Nat.le_of_ble_eq_true rfl) dX8_type_35 dX8_type_38 dX8_type_39 dX8_type_42 dX8_type_45
    · have hF := it_f hF c2
      exact fr_throwW C B hlt hex hlk (n := 1) (id := 68) (text := "not a printable character") xt_X8_1 (by decide +kernel) (by rw [← Option.some.inj hF]) hl.1 (Nat.le_of_ble_eq_true rfl) (Nat.le_of_ble_eq_true rfl) (Nat.le_of_ble_eq_true rfl) (Nat.le_of_ble_eq_true rfl) (Nat.le_of_ble_eq_true rfl) (Nat.le_of_ble_eq_true rfl) dX8_type_12 dX8_type_15 dX8_type_16 dX8_type_19 dX8_type_22
def F_X8_save (M : fw_M) : Option (Int32 × fw_M) :=
  bd_x (F_X7_copyFrom M 64 0) fun M3 =>
  lt_x (fw_up M3 352 7 1) fun M4 =>
  some ((M4 15 0), M4)
set_option maxHeartbeats 4000000 in
set_option maxRecDepth 100000 in
theorem cm_X8_save {l : Launch} {X : fw_X} {M : fw_M}  {o : Int32 × fw_M} (hF : F_X8_save M = some o) : ct_i l X yX8_save cX8_save 1 (some .int) ({ frames := 3, cells := 0, slots := 0, locals := 103 } : Room) M [.ref (fw_ad X 352)] (.inl o.1, o.2) := by
  refine fw_open rfl (Nat.le_of_ble_eq_true rfl) (fun p e s m below meth c ls C hr hlk hnm hex hl B => ?_)
  have C : fr_C X p c cX8_save 1 RX8 s m ([.ref (fw_ad X 352)] : List Value).toArray := C
  have hx := C.1.1
  have hb := C.1.2.1
  have hl : lv_has ls 1 [(0, .ref (fw_ad X 352))] := hl
  unfold F_X8_save at hF
  refine lv_aload_n hx hb dX8_save_0 rfl (lv_at hl 0 rfl) ?_
  refine gf_X8_19 C B dX8_save_1 ?_
  refine lv_aload_n hx hb dX8_save_4 rfl (lv_at hl 0 rfl) ?_
  refine gf_X8_12 C B dX8_save_5 ?_
  obtain ⟨M3, hf1, hF⟩ := bx_e hF
  refine fr_cVv (As := [.ref (fw_ad X 0)]) (rest := []) C B (cm_X7_copyFrom is7_64 is7_0 hf1) (ob_7 is7_64) rfl yw_X7_copyFrom wm_X8_359 rfl hl.1 rfl (Nat.le_of_ble_eq_true rfl) ⟨Nat.le_of_ble_eq_true rfl, Nat.le_of_ble_eq_true rfl⟩ ⟨Nat.le_of_ble_eq_true rfl, Nat.le_of_ble_eq_true rfl⟩ dX8_save_8 (fr_nx rfl) (fun M9 H locs ho9 B => ?_)
  obtain ⟨-, rfl⟩ := oi_e ho9
  refine lv_aload_n hx hb dX8_save_11 rfl (lv_at hl 0 rfl) ?_
  refine lv_iconst (v := 1) hx hb dX8_save_12 (by decide) ?_
  refine pf_X8_50 C B (by decide) dX8_save_13 (fun H locs B => ?_)
  obtain ⟨M4, eM4, hF⟩ := lt_e hF
  rw [← eM4] at B
  refine lv_aload_n hx hb dX8_save_16 rfl (lv_at hl 0 rfl) ?_
  refine gf_X8_12 C B dX8_save_17 ?_
  refine gf_X8_171 C B is7_0 dX8_save_20 ?_
  refine gf_X8_217 C B (is6_of is7_0) dX8_save_23 ?_
  exact fr_iret C B hr rfl hlk (by rw [← Option.some.inj hF]) (Nat.le_of_ble_eq_true rfl) (Nat.le_of_ble_eq_true rfl) dX8_save_26
def F_X8_restore (M : fw_M) : Option (fw_O) :=
  if ¬ (M 352 7) = 0 then
    bd_x (F_X7_copyFrom M 0 64) fun M4 =>
    bd_x (F_X4_forget M4) fun M7 =>
    some (.inl (M7 15 0), M7)
  else
    some (.inr 2, M)
set_option maxHeartbeats 4000000 in
set_option maxRecDepth 100000 in
theorem cm_X8_restore {l : Launch} {X : fw_X} {M : fw_M} (hlt : l.stackTraces = false)  {o : fw_O} (hF : F_X8_restore M = some o) : ct_i l X yX8_restore cX8_restore 1 (some .int) ({ frames := 7, cells := 1, slots := 6, locals := 130 } : Room) M [.ref (fw_ad X 352)] o := by
  refine fw_open rfl (Nat.le_of_ble_eq_true rfl) (fun p e s m below meth c ls C hr hlk hnm hex hl B => ?_)
  have C : fr_C X p c cX8_restore 1 RX8 s m ([.ref (fw_ad X 352)] : List Value).toArray := C
  have hx := C.1.1
  have hb := C.1.2.1
  have hl : lv_has ls 1 [(0, .ref (fw_ad X 352))] := hl
  unfold F_X8_restore at hF
  refine lv_aload_n hx hb dX8_restore_0 rfl (lv_at hl 0 rfl) ?_
  refine gf_X8_50 C B dX8_restore_1 ?_
  refine lv_if_ne (tgt := 18) hx hb dX8_restore_4 (by decide) (fun c1 => ?_) (fun c1 => ?_)
  · have hF := it_t hF c1
    refine lv_aload_n hx hb dX8_restore_18 rfl (lv_at hl 0 rfl) ?_
    refine gf_X8_12 C B dX8_restore_19 ?_
    refine lv_aload_n hx hb dX8_restore_22 rfl (lv_at hl 0 rfl) ?_
    refine gf_X8_19 C B dX8_restore_23 ?_
    obtain ⟨M4, hf2, hF⟩ := bx_e hF
    refine fr_cVv (As := [.ref (fw_ad X 64)]) (rest := []) C B (cm_X7_copyFrom is7_0 is7_64 hf2) (ob_7 is7_0) rfl yw_X7_copyFrom wm_X8_359 rfl hl.1 rfl (Nat.le_of_ble_eq_true rfl) ⟨Nat.le_of_ble_eq_true rfl, Nat.le_of_ble_eq_true rfl⟩ ⟨Nat.le_of_ble_eq_true rfl, Nat.le_of_ble_eq_true rfl⟩ dX8_restore_26 (fr_nx rfl) (fun M9 H locs ho9 B => ?_)
    obtain ⟨-, rfl⟩ := oi_e ho9
    refine lv_aload_n hx hb dX8_restore_29 rfl (lv_at hl 0 rfl) ?_
    refine gf_X8_25 C B dX8_restore_30 ?_
    obtain ⟨M7, hf5, hF⟩ := bx_e hF
    refine fr_cVv (As := []) (rest := []) C B (cm_X4_forget hf5) ob_4 rfl yw_X4_forget wm_X8_376 rfl hl.1 rfl (Nat.le_of_ble_eq_true rfl) ⟨Nat.le_of_ble_eq_true rfl, Nat.le_of_ble_eq_true rfl⟩ ⟨Nat.le_of_ble_eq_true rfl, Nat.le_of_ble_eq_true rfl⟩ dX8_restore_33 (fr_nx rfl) (fun M9 H locs ho9 B => ?_)
    obtain ⟨-, rfl⟩ := oi_e ho9
    refine lv_aload_n hx hb dX8_restore_36 rfl (lv_at hl 0 rfl) ?_
    refine gf_X8_12 C B dX8_restore_37 ?_
    refine gf_X8_171 C B is7_0 dX8_restore_40 ?_
    refine gf_X8_217 C B (is6_of is7_0) dX8_restore_43 ?_
    exact fr_iret C B hr rfl hlk (by rw [← Option.some.inj hF]) (Nat.le_of_ble_eq_true rfl) (Nat.le_of_ble_eq_true rfl) dX8_restore_46
  · have hF := it_f hF (not_not_intro c1)
    exact fr_throwW C B hlt hex hlk (n := 2) (id := 73) (text := "no snapshot") xt_X8_2 (by decide +kernel) (by rw [← Option.some.inj hF]) hl.1 (Nat.le_of_ble_eq_true rfl) (Nat.le_of_ble_eq_true rfl) (Nat.le_of_ble_eq_true rfl) (Nat.le_of_ble_eq_true rfl) (Nat.le_of_ble_eq_true rfl) (Nat.le_of_ble_eq_true rfl) dX8_restore_7 dX8_restore_10 dX8_restore_11 dX8_restore_14 dX8_restore_17
def F_X8_requireStop (M : fw_M) (a1 : Int32) : Option (fw_O) :=
  bd_x (F_X3_hasStop M 1 a1) fun r2 =>
  if ¬ r2 = 0 then
    some (.inl 0, M)
  else
    some (.inr 0, M)
set_option maxHeartbeats 4000000 in
set_option maxRecDepth 100000 in
theorem cm_X8_requireStop {l : Launch} {X : fw_X} {M : fw_M} {a1 : Int32} (hlt : l.stackTraces = false)  {o : fw_O} (hF : F_X8_requireStop M a1 = some o) : ct_v l X yX8_requireStop cX8_requireStop 2 none ({ frames := 7, cells := 1, slots := 6, locals := 130 } : Room) M [.ref (fw_ad X 352), .int a1] o := by
  refine fw_open rfl (Nat.le_of_ble_eq_true rfl) (fun p e s m below meth c ls C hr hlk hnm hex hl B => ?_)
  have C : fr_C X p c cX8_requireStop 2 RX8 s m ([.ref (fw_ad X 352), .int a1] : List Value).toArray := C
  have hx := C.1.1
  have hb := C.1.2.1
  have hl : lv_has ls 2 [(0, .ref (fw_ad X 352)), (1, .int a1)] := hl
  unfold F_X8_requireStop at hF
  refine lv_aload_n hx hb dX8_requireStop_0 rfl (lv_at hl 0 rfl) ?_
  refine gf_X8_12 C B dX8_requireStop_1 ?_
  refine gf_X8_73 C B is7_0 dX8_requireStop_4 ?_
  refine lv_iload_n hx hb dX8_requireStop_7 rfl (lv_at hl 1 rfl) ?_
  obtain ⟨r2, hf1, hF⟩ := bx_e hF
  refine fr_cVi (As := [.int a1]) (rest := []) C B (cm_X3_hasStop (is3_of is7_0) hf1) (ob_3 (is3_of is7_0)) rfl yw_X3_hasStop wm_X8_404 rfl hl.1 rfl (Nat.le_of_ble_eq_true rfl) ⟨Nat.le_of_ble_eq_true rfl, Nat.le_of_ble_eq_true rfl⟩ ⟨Nat.le_of_ble_eq_true rfl, Nat.le_of_ble_eq_true rfl⟩ dX8_requireStop_8 (fr_nx rfl) (fun r9 M9 H locs ho9 B => ?_)
  obtain ⟨rfl, rfl⟩ := oi_e ho9
  refine lv_if_ne (tgt := 25) hx hb dX8_requireStop_11 (by decide) (fun c4 => ?_) (fun c4 => ?_)
  · have hF := it_t hF c4
    exact fr_vret C B hr hlk (by rw [← Option.some.inj hF]) (Nat.le_of_ble_eq_true rfl) (Nat.le_of_ble_eq_true rfl) dX8_requireStop_25
  · have hF := it_f hF (not_not_intro c4)
    exact fr_throwW C B hlt hex hlk (n := 0) (id := 55) (text := "no such stop") xt_X8_0 (by decide +kernel) (by rw [← Option.some.inj hF]) hl.1 (Nat.le_of_ble_eq_true rfl) (Nat.le_of_ble_eq_true rfl) (Nat.le_of_ble_eq_true rfl) (Nat.le_of_ble_eq_true rfl) (Nat.le_of_ble_eq_true rfl) (Nat.le_of_ble_eq_true rfl) dX8_requireStop_14 dX8_requireStop_17 dX8_requireStop_18 dX8_requireStop_21 dX8_requireStop_24
def F_X8_requireLine (M : fw_M) (a1 : Int32) : Option (fw_O) :=
  bd_x (F_X3_hasLine M 1 a1) fun r2 =>
  if ¬ r2 = 0 then
    some (.inl 0, M)
  else
    some (.inr 0, M)
set_option maxHeartbeats 4000000 in
set_option maxRecDepth 100000 in
theorem cm_X8_requireLine {l : Launch} {X : fw_X} {M : fw_M} {a1 : Int32} (hlt : l.stackTraces = false)  {o : fw_O} (hF : F_X8_requireLine M a1 = some o) : ct_v l X yX8_requireLine cX8_requireLine 2 none ({ frames := 7, cells := 1, slots := 6, locals := 130 } : Room) M [.ref (fw_ad X 352), .int a1] o := by
  refine fw_open rfl (Nat.le_of_ble_eq_true rfl) (fun p e s m below meth c ls C hr hlk hnm hex hl B => ?_)
  have C : fr_C X p c cX8_requireLine 2 RX8 s m ([.ref (fw_ad X 352), .int a1] : List Value).toArray := C
  have hx := C.1.1
  have hb := C.1.2.1
  have hl : lv_has ls 2 [(0, .ref (fw_ad X 352)), (1, .int a1)] := hl
  unfold F_X8_requireLine at hF
  refine lv_aload_n hx hb dX8_requireLine_0 rfl (lv_at hl 0 rfl) ?_
  refine gf_X8_12 C B dX8_requireLine_1 ?_
  refine gf_X8_73 C B is7_0 dX8_requireLine_4 ?_
  refine lv_iload_n hx hb dX8_requireLine_7 rfl (lv_at hl 1 rfl) ?_
  obtain ⟨r2, hf1, hF⟩ := bx_e hF
  refine fr_cVi (As := [.int a1]) (rest := []) C B (cm_X3_hasLine (is3_of is7_0) hf1) (ob_3 (is3_of is7_0)) rfl yw_X3_hasLine wm_X8_409 rfl hl.1 rfl (Nat.le_of_ble_eq_true rfl) ⟨Nat.le_of_ble_eq_true rfl, Nat.le_of_ble_eq_true rfl⟩ ⟨Nat.le_of_ble_eq_true rfl, Nat.le_of_ble_eq_true rfl⟩ dX8_requireLine_8 (fr_nx rfl) (fun r9 M9 H locs ho9 B => ?_)
  obtain ⟨rfl, rfl⟩ := oi_e ho9
  refine lv_if_ne (tgt := 25) hx hb dX8_requireLine_11 (by decide) (fun c4 => ?_) (fun c4 => ?_)
  · have hF := it_t hF c4
    exact fr_vret C B hr hlk (by rw [← Option.some.inj hF]) (Nat.le_of_ble_eq_true rfl) (Nat.le_of_ble_eq_true rfl) dX8_requireLine_25
  · have hF := it_f hF (not_not_intro c4)
    exact fr_throwW C B hlt hex hlk (n := 0) (id := 56) (text := "no such line") xt_X8_0 (by decide +kernel) (by rw [← Option.some.inj hF]) hl.1 (Nat.le_of_ble_eq_true rfl) (Nat.le_of_ble_eq_true rfl) (Nat.le_of_ble_eq_true rfl) (Nat.le_of_ble_eq_true rfl) (Nat.le_of_ble_eq_true rfl) (Nat.le_of_ble_eq_true rfl) dX8_requireLine_14 dX8_requireLine_17 dX8_requireLine_18 dX8_requireLine_21 dX8_requireLine_24
def F_X8_requireTram (M : fw_M) (a1 : Int32) : Option (fw_O) :=
  bd_x (F_X1_hasTram M 11 a1) fun r2 =>
  if ¬ r2 = 0 then
    some (.inl 0, M)
  else
    some (.inr 0, M)
set_option maxHeartbeats 4000000 in
set_option maxRecDepth 100000 in
theorem cm_X8_requireTram {l : Launch} {X : fw_X} {M : fw_M} {a1 : Int32} (hlt : l.stackTraces = false)  {o : fw_O} (hF : F_X8_requireTram M a1 = some o) : ct_v l X yX8_requireTram cX8_requireTram 2 none ({ frames := 7, cells := 1, slots := 6, locals := 130 } : Room) M [.ref (fw_ad X 352), .int a1] o := by
  refine fw_open rfl (Nat.le_of_ble_eq_true rfl) (fun p e s m below meth c ls C hr hlk hnm hex hl B => ?_)
  have C : fr_C X p c cX8_requireTram 2 RX8 s m ([.ref (fw_ad X 352), .int a1] : List Value).toArray := C
  have hx := C.1.1
  have hb := C.1.2.1
  have hl : lv_has ls 2 [(0, .ref (fw_ad X 352)), (1, .int a1)] := hl
  unfold F_X8_requireTram at hF
  refine lv_aload_n hx hb dX8_requireTram_0 rfl (lv_at hl 0 rfl) ?_
  refine gf_X8_12 C B dX8_requireTram_1 ?_
  refine gf_X8_140 C B is7_0 dX8_requireTram_4 ?_
  refine lv_iload_n hx hb dX8_requireTram_7 rfl (lv_at hl 1 rfl) ?_
  obtain ⟨r2, hf1, hF⟩ := bx_e hF
  refine fr_cVi (As := [.int a1]) (rest := []) C B (cm_X1_hasTram (is1_of is7_0) hf1) (ob_1 (is1_of is7_0)) rfl yw_X1_hasTram wm_X8_414 rfl hl.1 rfl (Nat.le_of_ble_eq_true rfl) ⟨Nat.le_of_ble_eq_true rfl, Nat.le_of_ble_eq_true rfl⟩ ⟨Nat.le_of_ble_eq_true rfl, Nat.le_of_ble_eq_true rfl⟩ dX8_requireTram_8 (fr_nx rfl) (fun r9 M9 H locs ho9 B => ?_)
  obtain ⟨rfl, rfl⟩ := oi_e ho9
  refine lv_if_ne (tgt := 25) hx hb dX8_requireTram_11 (by decide) (fun c4 => ?_) (fun c4 => ?_)
  · have hF := it_t hF c4
    exact fr_vret C B hr hlk (by rw [← Option.some.inj hF]) (Nat.le_of_ble_eq_true rfl) (Nat.le_of_ble_eq_true rfl) dX8_requireTram_25
  · have hF := it_f hF (not_not_intro c4)
    exact fr_throwW C B hlt hex hlk (n := 0) (id := 58) (text := "no such tram") xt_X8_0 (by decide +kernel) (by rw [← Option.some.inj hF]) hl.1 (Nat.le_of_ble_eq_true rfl) (Nat.le_of_ble_eq_true rfl) (Nat.le_of_ble_eq_true rfl) (Nat.le_of_ble_eq_true rfl) (Nat.le_of_ble_eq_true rfl) (Nat.le_of_ble_eq_true rfl) dX8_requireTram_14 dX8_requireTram_17 dX8_requireTram_18 dX8_requireTram_21 dX8_requireTram_24
def F_X8_requirePassenger (M : fw_M) (a1 : Int32) : Option (fw_O) :=
  bd_x (F_X6_hasPassenger M 15 a1) fun r2 =>
  if ¬ r2 = 0 then
    some (.inl 0, M)
  else
    some (.inr 0, M)
set_option maxHeartbeats 4000000 in
set_option maxRecDepth 100000 in
theorem cm_X8_requirePassenger {l : Launch} {X : fw_X} {M : fw_M} {a1 : Int32} (hlt : l.stackTraces = false)  {o : fw_O} (hF : F_X8_requirePassenger M a1 = some o) : ct_v l X yX8_requirePassenger cX8_requirePassenger 2 none ({ frames := 7, cells := 1, slots := 6, locals := 130 } : Room) M [.ref (fw_ad X 352), .int a1] o := by
  refine fw_open rfl (Nat.le_of_ble_eq_true rfl) (fun p e s m below meth c ls C hr hlk hnm hex hl B => ?_)
  have C : fr_C X p c cX8_requirePassenger 2 RX8 s m ([.ref (fw_ad X 352), .int a1] : List Value).toArray := C
  have hx := C.1.1
  have hb := C.1.2.1
  have hl : lv_has ls 2 [(0, .ref (fw_ad X 352)), (1, .int a1)] := hl
  unfold F_X8_requirePassenger at hF
  refine lv_aload_n hx hb dX8_requirePassenger_0 rfl (lv_at hl 0 rfl) ?_
  refine gf_X8_12 C B dX8_requirePassenger_1 ?_
  refine gf_X8_171 C B is7_0 dX8_requirePassenger_4 ?_
  refine lv_iload_n hx hb dX8_requirePassenger_7 rfl (lv_at hl 1 rfl) ?_
  obtain ⟨r2, hf1, hF⟩ := bx_e hF
  refine fr_cVi (As := [.int a1]) (rest := []) C B (cm_X6_hasPassenger (is6_of is7_0) hf1) (ob_6 (is6_of is7_0)) rfl yw_X6_hasPassenger wm_X8_419 rfl hl.1 rfl (Nat.le_of_ble_eq_true rfl) ⟨Nat.le_of_ble_eq_true rfl, Nat.le_of_ble_eq_true rfl⟩ ⟨Nat.le_of_ble_eq_true rfl, Nat.le_of_ble_eq_true rfl⟩ dX8_requirePassenger_8 (fr_nx rfl) (fun r9 M9 H locs ho9 B => ?_)
  obtain ⟨rfl, rfl⟩ := oi_e ho9
  refine lv_if_ne (tgt := 25) hx hb dX8_requirePassenger_11 (by decide) (fun c4 => ?_) (fun c4 => ?_)
  · have hF := it_t hF c4
    exact fr_vret C B hr hlk (by rw [← Option.some.inj hF]) (Nat.le_of_ble_eq_true rfl) (Nat.le_of_ble_eq_true rfl) dX8_requirePassenger_25
  · have hF := it_f hF (not_not_intro c4)
    exact fr_throwW C B hlt hex hlk (n := 0) (id := 61) (text := "no such passenger") xt_X8_0 (by decide +kernel) (by rw [← Option.some.inj hF]) hl.1 (Nat.le_of_ble_eq_true rfl) (Nat.le_of_ble_eq_true rfl) (Nat.le_of_ble_eq_true rfl) (Nat.le_of_ble_eq_true rfl) (Nat.le_of_ble_eq_true rfl) (Nat.le_of_ble_eq_true rfl) dX8_requirePassenger_14 dX8_requirePassenger_17 dX8_requirePassenger_18 dX8_requirePassenger_21 dX8_requirePassenger_24
def F_X8_requireSecret (M : fw_M) (a1 : Int32) : Option (fw_O) :=
  bd_x (F_X2_hasSecret M 22 a1) fun r2 =>
  if ¬ r2 = 0 then
    some (.inl 0, M)
  else
    some (.inr 0, M)
set_option maxHeartbeats 4000000 in
set_option maxRecDepth 100000 in
theorem cm_X8_requireSecret {l : Launch} {X : fw_X} {M : fw_M} {a1 : Int32} (hlt : l.stackTraces = false)  {o : fw_O} (hF : F_X8_requireSecret M a1 = some o) : ct_v l X yX8_requireSecret cX8_requireSecret 2 none ({ frames := 7, cells := 1, slots := 6, locals := 130 } : Room) M [.ref (fw_ad X 352), .int a1] o := by
  refine fw_open rfl (Nat.le_of_ble_eq_true rfl) (fun p e s m below meth c ls C hr hlk hnm hex hl B => ?_)
  have C : fr_C X p c cX8_requireSecret 2 RX8 s m ([.ref (fw_ad X 352), .int a1] : List Value).toArray := C
  have hx := C.1.1
  have hb := C.1.2.1
  have hl : lv_has ls 2 [(0, .ref (fw_ad X 352)), (1, .int a1)] := hl
  unfold F_X8_requireSecret at hF
  refine lv_aload_n hx hb dX8_requireSecret_0 rfl (lv_at hl 0 rfl) ?_
  refine gf_X8_12 C B dX8_requireSecret_1 ?_
  refine gf_X8_247 C B is7_0 dX8_requireSecret_4 ?_
  refine lv_iload_n hx hb dX8_requireSecret_7 rfl (lv_at hl 1 rfl) ?_
  obtain ⟨r2, hf1, hF⟩ := bx_e hF
  refine fr_cVi (As := [.int a1]) (rest := []) C B (cm_X2_hasSecret (is2_of is7_0) hf1) (ob_2 (is2_of is7_0)) rfl yw_X2_hasSecret wm_X8_424 rfl hl.1 rfl (Nat.le_of_ble_eq_true rfl) ⟨Nat.le_of_ble_eq_true rfl, Nat.le_of_ble_eq_true rfl⟩ ⟨Nat.le_of_ble_eq_true rfl, Nat.le_of_ble_eq_true rfl⟩ dX8_requireSecret_8 (fr_nx rfl) (fun r9 M9 H locs ho9 B => ?_)
  obtain ⟨rfl, rfl⟩ := oi_e ho9
  refine lv_if_ne (tgt := 25) hx hb dX8_requireSecret_11 (by decide) (fun c4 => ?_) (fun c4 => ?_)
  · have hF := it_t hF c4
    exact fr_vret C B hr hlk (by rw [← Option.some.inj hF]) (Nat.le_of_ble_eq_true rfl) (Nat.le_of_ble_eq_true rfl) dX8_requireSecret_25
  · have hF := it_f hF (not_not_intro c4)
    exact fr_throwW C B hlt hex hlk (n := 0) (id := 63) (text := "no such secret") xt_X8_0 (by decide +kernel) (by rw [← Option.some.inj hF]) hl.1 (Nat.le_of_ble_eq_true rfl) (Nat.le_of_ble_eq_true rfl) (Nat.le_of_ble_eq_true rfl) (Nat.le_of_ble_eq_true rfl) (Nat.le_of_ble_eq_true rfl) (Nat.le_of_ble_eq_true rfl) dX8_requireSecret_14 dX8_requireSecret_17 dX8_requireSecret_18 dX8_requireSecret_21 dX8_requireSecret_24
def F_X8_addStop (M : fw_M) (a1 : Int32) : Option (fw_O) :=
  bd_x (F_X7_faultOfStop M 0 a1) fun r2 =>
  bd_t (F_X8_refuse M r2) fun _ M6 =>
  bd_x (F_X4_remember M6 0) fun M9 =>
  bd_p (F_X3_putStop M9 1 a1) fun r11 M12 =>
  some (.inl r11, M12)
set_option maxHeartbeats 4000000 in
set_option maxRecDepth 100000 in
theorem cm_X8_addStop {l : Launch} {X : fw_X} {M : fw_M} {a1 : Int32} (hlt : l.stackTraces = false)  {o : fw_O} (hF : F_X8_addStop M a1 = some o) : ct_i l X yX8_addStop cX8_addStop 2 (some .int) ({ frames := 8, cells := 1, slots := 6, locals := 150 } : Room) M [.ref (fw_ad X 352), .int a1] o := by
  refine fw_open rfl (Nat.le_of_ble_eq_true rfl) (fun p e s m below meth c ls C hr hlk hnm hex hl B => ?_)
  have C : fr_C X p c cX8_addStop 2 RX8 s m ([.ref (fw_ad X 352), .int a1] : List Value).toArray := C
  have hx := C.1.1
  have hb := C.1.2.1
  have hl : lv_has ls 2 [(0, .ref (fw_ad X 352)), (1, .int a1)] := hl
  unfold F_X8_addStop at hF
  refine lv_aload_n hx hb dX8_addStop_0 rfl (lv_at hl 0 rfl) ?_
  refine gf_X8_12 C B dX8_addStop_1 ?_
  refine lv_iload_n hx hb dX8_addStop_4 rfl (lv_at hl 1 rfl) ?_
  obtain ⟨r2, hf1, hF⟩ := bx_e hF
  refine fr_cVi (As := [.int a1]) (rest := []) C B (cm_X7_faultOfStop is7_0 hf1) (ob_7 is7_0) rfl yw_X7_faultOfStop wm_X8_61 rfl hl.1 rfl (Nat.le_of_ble_eq_true rfl) ⟨Nat.le_of_ble_eq_true rfl, Nat.le_of_ble_eq_true rfl⟩ ⟨Nat.le_of_ble_eq_true rfl, Nat.le_of_ble_eq_true rfl⟩ dX8_addStop_5 (fr_nx rfl) (fun r9 M9 H locs ho9 B => ?_)
  obtain ⟨rfl, rfl⟩ := oi_e ho9
  obtain ⟨oc, hf4, hF⟩ := bt_e hF
  refine fr_cSv (As := [.int r2]) (rest := []) C B (cm_X8_refuse hlt hf4) yw_X8_refuse wm_X8_65 rfl hl.1 rfl (Nat.le_of_ble_eq_true rfl) ⟨Nat.le_of_ble_eq_true rfl, Nat.le_of_ble_eq_true rfl⟩ ⟨Nat.le_of_ble_eq_true rfl, Nat.le_of_ble_eq_true rfl⟩ dX8_addStop_8 (fr_thru C hex hlk (fun e9 M1 h => by subst h; exact (Option.some.inj hF).symm) (Nat.le_of_ble_eq_true rfl) (Nat.le_of_ble_eq_true rfl)) (fun M6 H locs ho9 B => ?_)
  subst ho9
  rw [bt_i] at hF
  refine lv_aload_n hx hb dX8_addStop_11 rfl (lv_at hl 0 rfl) ?_
  refine gf_X8_25 C B dX8_addStop_12 ?_
  refine lv_aload_n hx hb dX8_addStop_15 rfl (lv_at hl 0 rfl) ?_
  refine gf_X8_12 C B dX8_addStop_16 ?_
  obtain ⟨M9, hf7, hF⟩ := bx_e hF
  refine fr_cVv (As := [.ref (fw_ad X 0)]) (rest := []) C B (cm_X4_remember is7_0 hf7) ob_4 rfl yw_X4_remember wm_X8_69 rfl hl.1 rfl (Nat.le_of_ble_eq_true rfl) ⟨Nat.le_of_ble_eq_true rfl, Nat.le_of_ble_eq_true rfl⟩ ⟨Nat.le_of_ble_eq_true rfl, Nat.le_of_ble_eq_true rfl⟩ dX8_addStop_19 (fr_nx rfl) (fun M9 H locs ho9 B => ?_)
  obtain ⟨-, rfl⟩ := oi_e ho9
  refine lv_aload_n hx hb dX8_addStop_22 rfl (lv_at hl 0 rfl) ?_
  refine gf_X8_12 C B dX8_addStop_23 ?_
  refine gf_X8_73 C B is7_0 dX8_addStop_26 ?_
  refine lv_iload_n hx hb dX8_addStop_29 rfl (lv_at hl 1 rfl) ?_
  obtain ⟨r11, M12, hf10, hF⟩ := bp_e hF
  refine fr_cVi (As := [.int a1]) (rest := []) C B (cm_X3_putStop (is3_of is7_0) hf10) (ob_3 (is3_of is7_0)) rfl yw_X3_putStop wm_X8_77 rfl hl.1 rfl (Nat.le_of_ble_eq_true rfl) ⟨Nat.le_of_ble_eq_true rfl, Nat.le_of_ble_eq_true rfl⟩ ⟨Nat.le_of_ble_eq_true rfl, Nat.le_of_ble_eq_true rfl⟩ dX8_addStop_30 (fr_nx rfl) (fun r9 M9 H locs ho9 B => ?_)
  obtain ⟨rfl, rfl⟩ := oi_e ho9
  exact fr_iret C B hr rfl hlk (by rw [← Option.some.inj hF]) (Nat.le_of_ble_eq_true rfl) (Nat.le_of_ble_eq_true rfl) dX8_addStop_33
def F_X8_addLine (M : fw_M) (a1 : Int32) (a2 : Int32) : Option (fw_O) :=
  bd_x (F_X7_faultOfLine M 0 a1 a2) fun r2 =>
  bd_t (F_X8_refuse M r2) fun _ M6 =>
  bd_x (F_X4_remember M6 0) fun M9 =>
  bd_p (F_X3_putLine M9 1 a1 a2) fun r11 M12 =>
  some (.inl r11, M12)
set_option maxHeartbeats 4000000 in
set_option maxRecDepth 100000 in
theorem cm_X8_addLine {l : Launch} {X : fw_X} {M : fw_M} {a1 : Int32} {a2 : Int32} (hlt : l.stackTraces = false)  {o : fw_O} (hF : F_X8_addLine M a1 a2 = some o) : ct_i l X yX8_addLine cX8_addLine 3 (some .int) ({ frames := 8, cells := 1, slots := 6, locals := 150 } : Room) M [.ref (fw_ad X 352), .int a1, .int a2] o := by
  refine fw_open rfl (Nat.le_of_ble_eq_true rfl) (fun p e s m below meth c ls C hr hlk hnm hex hl B => ?_)
  have C : fr_C X p c cX8_addLine 3 RX8 s m ([.ref (fw_ad X 352), .int a1, .int a2] : List Value).toArray := C
  have hx := C.1.1
  have hb := C.1.2.1
  have hl : lv_has ls 3 [(0, .ref (fw_ad X 352)), (1, .int a1), (2, .int a2)] := hl
  unfold F_X8_addLine at hF
  refine lv_aload_n hx hb dX8_addLine_0 rfl (lv_at hl 0 rfl) ?_
  refine gf_X8_12 C B dX8_addLine_1 ?_
  refine lv_iload_n hx hb dX8_addLine_4 rfl (lv_at hl 1 rfl) ?_
  refine lv_iload_n hx hb dX8_addLine_5 rfl (lv_at hl 2 rfl) ?_
  obtain ⟨r2, hf1, hF⟩ := bx_e hF
  refine fr_cVi (As := [.int a1, .int a2]) (rest := []) C B (cm_X7_faultOfLine is7_0 hf1) (ob_7 is7_0) rfl yw_X7_faultOfLine wm_X8_82 rfl hl.1 rfl (Nat.le_of_ble_eq_true rfl) ⟨Nat.le_of_ble_eq_true rfl, Nat.le_of_ble_eq_true rfl⟩ ⟨Nat.le_of_ble_eq_true rfl, Nat.le_of_ble_eq_true rfl⟩ dX8_addLine_6 (fr_nx rfl) (fun r9 M9 H locs ho9 B => ?_)
  obtain ⟨rfl, rfl⟩ := oi_e ho9
  obtain ⟨oc, hf4, hF⟩ := bt_e hF
  refine fr_cSv (As := [.int r2]) (rest := []) C B (cm_X8_refuse hlt hf4) yw_X8_refuse wm_X8_65 rfl hl.1 rfl (Nat.le_of_ble_eq_true rfl) ⟨Nat.le_of_ble_eq_true rfl, Nat.le_of_ble_eq_true rfl⟩ ⟨Nat.le_of_ble_eq_true rfl, Nat.le_of_ble_eq_true rfl⟩ dX8_addLine_9 (fr_thru C hex hlk (fun e9 M1 h => by subst h; exact (Option.some.inj hF).symm) (Nat.le_of_ble_eq_true rfl) (Nat.le_of_ble_eq_true rfl)) (fun M6 H locs ho9 B => ?_)
  subst ho9
  rw [bt_i] at hF
  refine lv_aload_n hx hb dX8_addLine_12 rfl (lv_at hl 0 rfl) ?_
  refine gf_X8_25 C B dX8_addLine_13 ?_
  refine lv_aload_n hx hb dX8_addLine_16 rfl (lv_at hl 0 rfl) ?_
  refine gf_X8_12 C B dX8_addLine_17 ?_
  obtain ⟨M9, hf7, hF⟩ := bx_e hF
  refine fr_cVv (As := [.ref (fw_ad X 0)]) (rest := []) C B (cm_X4_remember is7_0 hf7) ob_4 rfl yw_X4_remember wm_X8_69 rfl hl.1 rfl (Nat.le_of_ble_eq_true rfl) ⟨Nat.le_of_ble_eq_true rfl, Nat.le_of_ble_eq_true rfl⟩ ⟨Nat.le_of_ble_eq_true rfl, Nat.le_of_ble_eq_true rfl⟩ dX8_addLine_20 (fr_nx rfl) (fun M9 H locs ho9 B => ?_)
  obtain ⟨-, rfl⟩ := oi_e ho9
  refine lv_aload_n hx hb dX8_addLine_23 rfl (lv_at hl 0 rfl) ?_
  refine gf_X8_12 C B dX8_addLine_24 ?_
  refine gf_X8_73 C B is7_0 dX8_addLine_27 ?_
  refine lv_iload_n hx hb dX8_addLine_30 rfl (lv_at hl 1 rfl) ?_
  refine lv_iload_n hx hb dX8_addLine_31 rfl (lv_at hl 2 rfl) ?_
  obtain ⟨r11, M12, hf10, hF⟩ := bp_e hF
  refine fr_cVi (As := [.int a1, .int a2]) (rest := []) C B (cm_X3_putLine (is3_of is7_0) hf10) (ob_3 (is3_of is7_0)) rfl yw_X3_putLine wm_X8_86 rfl hl.1 rfl (Nat.le_of_ble_eq_true rfl) ⟨Nat.le_of_ble_eq_true rfl, Nat.le_of_ble_eq_true rfl⟩ ⟨Nat.le_of_ble_eq_true rfl, Nat.le_of_ble_eq_true rfl⟩ dX8_addLine_32 (fr_nx rfl) (fun r9 M9 H locs ho9 B => ?_)
  obtain ⟨rfl, rfl⟩ := oi_e ho9
  exact fr_iret C B hr rfl hlk (by rw [← Option.some.inj hF]) (Nat.le_of_ble_eq_true rfl) (Nat.le_of_ble_eq_true rfl) dX8_addLine_35
def F_X8_extendLine (M : fw_M) (a1 : Int32) (a2 : Int32) : Option (fw_O) :=
  bd_x (F_X7_faultOfExtension M 0 a1 a2) fun r2 =>
  bd_t (F_X8_refuse M r2) fun _ M6 =>
  bd_x (F_X4_remember M6 0) fun M9 =>
  bd_p (F_X3_appendStop M9 1 a1 a2) fun r11 M12 =>
  some (.inl r11, M12)
set_option maxHeartbeats 4000000 in
set_option maxRecDepth 100000 in
theorem cm_X8_extendLine {l : Launch} {X : fw_X} {M : fw_M} {a1 : Int32} {a2 : Int32} (hlt : l.stackTraces = false)  {o : fw_O} (hF : F_X8_extendLine M a1 a2 = some o) : ct_i l X yX8_extendLine cX8_extendLine 3 (some .int) ({ frames := 8, cells := 1, slots := 6, locals := 150 } : Room) M [.ref (fw_ad X 352), .int a1, .int a2] o := by
  refine fw_open rfl (Nat.le_of_ble_eq_true rfl) (fun p e s m below meth c ls C hr hlk hnm hex hl B => ?_)
  have C : fr_C X p c cX8_extendLine 3 RX8 s m ([.ref (fw_ad X 352), .int a1, .int a2] : List Value).toArray := C
  have hx := C.1.1
  have hb := C.1.2.1
  have hl : lv_has ls 3 [(0, .ref (fw_ad X 352)), (1, .int a1), (2, .int a2)] := hl
  unfold F_X8_extendLine at hF
  refine lv_aload_n hx hb dX8_extendLine_0 rfl (lv_at hl 0 rfl) ?_
  refine gf_X8_12 C B dX8_extendLine_1 ?_
  refine lv_iload_n hx hb dX8_extendLine_4 rfl (lv_at hl 1 rfl) ?_
  refine lv_iload_n hx hb dX8_extendLine_5 rfl (lv_at hl 2 rfl) ?_
  obtain ⟨r2, hf1, hF⟩ := bx_e hF
  refine fr_cVi (As := [.int a1, .int a2]) (rest := []) C B (cm_X7_faultOfExtension is7_0 hf1) (ob_7 is7_0) rfl yw_X7_faultOfExtension wm_X8_89 rfl hl.1 rfl (Nat.le_of_ble_eq_true rfl) ⟨Nat.le_of_ble_eq_true rfl, Nat.le_of_ble_eq_true rfl⟩ ⟨Nat.le_of_ble_eq_true rfl, Nat.le_of_ble_eq_true rfl⟩ dX8_extendLine_6 (fr_nx rfl) (fun r9 M9 H locs ho9 B => ?_)
  obtain ⟨rfl, rfl⟩ := oi_e ho9
  obtain ⟨oc, hf4, hF⟩ := bt_e hF
  refine fr_cSv (As := [.int r2]) (rest := []) C B (cm_X8_refuse hlt hf4) yw_X8_refuse wm_X8_65 rfl hl.1 rfl (Nat.le_of_ble_eq_true rfl) ⟨Nat.le_of_ble_eq_true rfl, Nat.le_of_ble_eq_true rfl⟩ ⟨Nat.le_of_ble_eq_true rfl, Nat.le_of_ble_eq_true rfl⟩ dX8_extendLine_9 (fr_thru C hex hlk (fun e9 M1 h => by subst h; exact (Option.some.inj hF).symm) (Nat.le_of_ble_eq_true rfl) (Nat.le_of_ble_eq_true rfl)) (fun M6 H locs ho9 B => ?_)
  subst ho9
  rw [bt_i] at hF
  refine lv_aload_n hx hb dX8_extendLine_12 rfl (lv_at hl 0 rfl) ?_
  refine gf_X8_25 C B dX8_extendLine_13 ?_
  refine lv_aload_n hx hb dX8_extendLine_16 rfl (lv_at hl 0 rfl) ?_
  refine gf_X8_12 C B dX8_extendLine_17 ?_
  obtain ⟨M9, hf7, hF⟩ := bx_e hF
  refine fr_cVv (As := [.ref (fw_ad X 0)]) (rest := []) C B (cm_X4_remember is7_0 hf7) ob_4 rfl yw_X4_remember wm_X8_69 rfl hl.1 rfl (Nat.le_of_ble_eq_true rfl) ⟨Nat.le_of_ble_eq_true rfl, Nat.le_of_ble_eq_true rfl⟩ ⟨Nat.le_of_ble_eq_true rfl, Nat.le_of_ble_eq_true rfl⟩ dX8_extendLine_20 (fr_nx rfl) (fun M9 H locs ho9 B => ?_)
  obtain ⟨-, rfl⟩ := oi_e ho9
  refine lv_aload_n hx hb dX8_extendLine_23 rfl (lv_at hl 0 rfl) ?_
  refine gf_X8_12 C B dX8_extendLine_24 ?_
  refine gf_X8_73 C B is7_0 dX8_extendLine_27 ?_
  refine lv_iload_n hx hb dX8_extendLine_30 rfl (lv_at hl 1 rfl) ?_
  refine lv_iload_n hx hb dX8_extendLine_31 rfl (lv_at hl 2 rfl) ?_
  obtain ⟨r11, M12, hf10, hF⟩ := bp_e hF
  refine fr_cVi (As := [.int a1, .int a2]) (rest := []) C B (cm_X3_appendStop (is3_of is7_0) hf10) (ob_3 (is3_of is7_0)) rfl yw_X3_appendStop wm_X8_92 rfl hl.1 rfl (Nat.le_of_ble_eq_true rfl) ⟨Nat.le_of_ble_eq_true rfl, Nat.le_of_ble_eq_true rfl⟩ ⟨Nat.le_of_ble_eq_true rfl, Nat.le_of_ble_eq_true rfl⟩ dX8_extendLine_32 (fr_nx rfl) (fun r9 M9 H locs ho9 B => ?_)
  obtain ⟨rfl, rfl⟩ := oi_e ho9
  exact fr_iret C B hr rfl hlk (by rw [← Option.some.inj hF]) (Nat.le_of_ble_eq_true rfl) (Nat.le_of_ble_eq_true rfl) dX8_extendLine_35
def F_X8_zoneOf (M : fw_M) (a1 : Int32) : Option (fw_O) :=
  bd_t (F_X8_requireStop M a1) fun _ M3 =>
  if ix_i a1 10 then
  some (.inl (fw_ri M3 2 a1), M3)
  else none
set_option maxHeartbeats 4000000 in
set_option maxRecDepth 100000 in
theorem cm_X8_zoneOf {l : Launch} {X : fw_X} {M : fw_M} {a1 : Int32} (hlt : l.stackTraces = false)  {o : fw_O} (hF : F_X8_zoneOf M a1 = some o) : ct_i l X yX8_zoneOf cX8_zoneOf 2 (some .int) ({ frames := 8, cells := 1, slots := 6, locals := 151 } : Room) M [.ref (fw_ad X 352), .int a1] o := by
  refine fw_open rfl (Nat.le_of_ble_eq_true rfl) (fun p e s m below meth c ls C hr hlk hnm hex hl B => ?_)
  have C : fr_C X p c cX8_zoneOf 2 RX8 s m ([.ref (fw_ad X 352), .int a1] : List Value).toArray := C
  have hx := C.1.1
  have hb := C.1.2.1
  have hl : lv_has ls 2 [(0, .ref (fw_ad X 352)), (1, .int a1)] := hl
  unfold F_X8_zoneOf at hF
  refine lv_aload_n hx hb dX8_zoneOf_0 rfl (lv_at hl 0 rfl) ?_
  refine lv_iload_n hx hb dX8_zoneOf_1 rfl (lv_at hl 1 rfl) ?_
  obtain ⟨oc, hf1, hF⟩ := bt_e hF
  refine fr_cVv (As := [.int a1]) (rest := []) C B (cm_X8_requireStop hlt hf1) ob_8 rfl yw_X8_requireStop wm_X8_98 rfl hl.1 rfl (Nat.le_of_ble_eq_true rfl) ⟨Nat.le_of_ble_eq_true rfl, Nat.le_of_ble_eq_true rfl⟩ ⟨Nat.le_of_ble_eq_true rfl, Nat.le_of_ble_eq_true rfl⟩ dX8_zoneOf_2 (fr_thru C hex hlk (fun e9 M1 h => by subst h; exact (Option.some.inj hF).symm) (Nat.le_of_ble_eq_true rfl) (Nat.le_of_ble_eq_true rfl)) (fun M3 H locs ho9 B => ?_)
  subst ho9
  rw [bt_i] at hF
  refine lv_aload_n hx hb dX8_zoneOf_5 rfl (lv_at hl 0 rfl) ?_
  refine gf_X8_12 C B dX8_zoneOf_6 ?_
  refine gf_X8_73 C B is7_0 dX8_zoneOf_9 ?_
  refine gf_X8_101 C B (is3_of is7_0) dX8_zoneOf_12 ?_
  refine lv_iload_n hx hb dX8_zoneOf_15 rfl (lv_at hl 1 rfl) ?_
  obtain ⟨c4, hF⟩ := of_g hF
  refine fr_ia C B (ar_3_1 (is3_of is7_0)) c4 dX8_zoneOf_16 ?_
  exact fr_iret C B hr rfl hlk (by rw [← Option.some.inj hF]) (Nat.le_of_ble_eq_true rfl) (Nat.le_of_ble_eq_true rfl) dX8_zoneOf_17
