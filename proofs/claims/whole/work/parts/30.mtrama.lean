def F_X8_stopCount (M : fw_M) : Option (Int32) :=
  some (M 1 0)
set_option maxHeartbeats 4000000 in
set_option maxRecDepth 100000 in
theorem cm_X8_stopCount {l : Launch} {X : fw_X} {M : fw_M}  {o : Int32} (hF : F_X8_stopCount M = some o) : ct_i l X yX8_stopCount cX8_stopCount 1 (some .int) ({ frames := 0, cells := 0, slots := 0, locals := 0 } : Room) M [.ref (fw_ad X 352)] (.inl o, M) := by
  refine fw_open rfl (Nat.le_of_ble_eq_true rfl) (fun p e s m below meth c ls C hr hlk hnm hex hl B => ?_)
  have C : fr_C X p c cX8_stopCount 1 RX8 s m ([.ref (fw_ad X 352)] : List Value).toArray := C
  have hx := C.1.1
  have hb := C.1.2.1
  have hl : lv_has ls 1 [(0, .ref (fw_ad X 352))] := hl
  unfold F_X8_stopCount at hF
  refine lv_aload_n hx hb dX8_stopCount_0 rfl (lv_at hl 0 rfl) ?_
  refine gf_X8_12 C B dX8_stopCount_1 ?_
  refine gf_X8_73 C B is7_0 dX8_stopCount_4 ?_
  refine gf_X8_95 C B (is3_of is7_0) dX8_stopCount_7 ?_
  exact fr_iret C B hr rfl hlk (by rw [← Option.some.inj hF]) (Nat.le_of_ble_eq_true rfl) (Nat.le_of_ble_eq_true rfl) dX8_stopCount_10
def F_X8_lineCount (M : fw_M) : Option (Int32) :=
  some (M 1 1)
set_option maxHeartbeats 4000000 in
set_option maxRecDepth 100000 in
theorem cm_X8_lineCount {l : Launch} {X : fw_X} {M : fw_M}  {o : Int32} (hF : F_X8_lineCount M = some o) : ct_i l X yX8_lineCount cX8_lineCount 1 (some .int) ({ frames := 0, cells := 0, slots := 0, locals := 0 } : Room) M [.ref (fw_ad X 352)] (.inl o, M) := by
  refine fw_open rfl (Nat.le_of_ble_eq_true rfl) (fun p e s m below meth c ls C hr hlk hnm hex hl B => ?_)
  have C : fr_C X p c cX8_lineCount 1 RX8 s m ([.ref (fw_ad X 352)] : List Value).toArray := C
  have hx := C.1.1
  have hb := C.1.2.1
  have hl : lv_has ls 1 [(0, .ref (fw_ad X 352))] := hl
  unfold F_X8_lineCount at hF
  refine lv_aload_n hx hb dX8_lineCount_0 rfl (lv_at hl 0 rfl) ?_
  refine gf_X8_12 C B dX8_lineCount_1 ?_
  refine gf_X8_73 C B is7_0 dX8_lineCount_4 ?_
  refine gf_X8_109 C B (is3_of is7_0) dX8_lineCount_7 ?_
  exact fr_iret C B hr rfl hlk (by rw [← Option.some.inj hF]) (Nat.le_of_ble_eq_true rfl) (Nat.le_of_ble_eq_true rfl) dX8_lineCount_10
def F_X8_tickCount (M : fw_M) : Option (Int32) :=
  some (M 0 4)
set_option maxHeartbeats 4000000 in
set_option maxRecDepth 100000 in
theorem cm_X8_tickCount {l : Launch} {X : fw_X} {M : fw_M}  {o : Int32} (hF : F_X8_tickCount M = some o) : ct_i l X yX8_tickCount cX8_tickCount 1 (some .int) ({ frames := 0, cells := 0, slots := 0, locals := 0 } : Room) M [.ref (fw_ad X 352)] (.inl o, M) := by
  refine fw_open rfl (Nat.le_of_ble_eq_true rfl) (fun p e s m below meth c ls C hr hlk hnm hex hl B => ?_)
  have C : fr_C X p c cX8_tickCount 1 RX8 s m ([.ref (fw_ad X 352)] : List Value).toArray := C
  have hx := C.1.1
  have hb := C.1.2.1
  have hl : lv_has ls 1 [(0, .ref (fw_ad X 352))] := hl
  unfold F_X8_tickCount at hF
  refine lv_aload_n hx hb dX8_tickCount_0 rfl (lv_at hl 0 rfl) ?_
  refine gf_X8_12 C B dX8_tickCount_1 ?_
  refine gf_X8_153 C B is7_0 dX8_tickCount_4 ?_
  exact fr_iret C B hr rfl hlk (by rw [← Option.some.inj hF]) (Nat.le_of_ble_eq_true rfl) (Nat.le_of_ble_eq_true rfl) dX8_tickCount_7
def F_X8_tramCount (M : fw_M) : Option (Int32) :=
  some (M 11 0)
set_option maxHeartbeats 4000000 in
set_option maxRecDepth 100000 in
theorem cm_X8_tramCount {l : Launch} {X : fw_X} {M : fw_M}  {o : Int32} (hF : F_X8_tramCount M = some o) : ct_i l X yX8_tramCount cX8_tramCount 1 (some .int) ({ frames := 0, cells := 0, slots := 0, locals := 0 } : Room) M [.ref (fw_ad X 352)] (.inl o, M) := by
  refine fw_open rfl (Nat.le_of_ble_eq_true rfl) (fun p e s m below meth c ls C hr hlk hnm hex hl B => ?_)
  have C : fr_C X p c cX8_tramCount 1 RX8 s m ([.ref (fw_ad X 352)] : List Value).toArray := C
  have hx := C.1.1
  have hb := C.1.2.1
  have hl : lv_has ls 1 [(0, .ref (fw_ad X 352))] := hl
  unfold F_X8_tramCount at hF
  refine lv_aload_n hx hb dX8_tramCount_0 rfl (lv_at hl 0 rfl) ?_
  refine gf_X8_12 C B dX8_tramCount_1 ?_
  refine gf_X8_140 C B is7_0 dX8_tramCount_4 ?_
  refine gf_X8_156 C B (is1_of is7_0) dX8_tramCount_7 ?_
  exact fr_iret C B hr rfl hlk (by rw [← Option.some.inj hF]) (Nat.le_of_ble_eq_true rfl) (Nat.le_of_ble_eq_true rfl) dX8_tramCount_10
def F_X8_fullestTram_27 (M : fw_M)  : Nat → Int32 → Int32 → Option (fw_O)
  | 0, _, _ => none
  | n + 1, x1, x2 =>
    if (M 11 0) ≤ x2 then
      some (.inl x1, M)
    else
      bd_x (F_X6_countOn M 15 x2) fun r3 =>
      bd_x (F_X6_countOn M 15 x1) fun r6 =>
      if r3 ≤ r6 then
        F_X8_fullestTram_27 M n x1 (x2 + 1)
      else
        F_X8_fullestTram_27 M n x2 (x2 + 1)
def F_X8_fullestTram (M : fw_M) : Option (fw_O) :=
  if ¬ (M 11 0) = 0 then
    F_X8_fullestTram_27 M 64 0 1
  else
    some (.inr 3, M)
set_option maxHeartbeats 4000000 in
set_option maxRecDepth 100000 in
theorem cm_X8_fullestTram {l : Launch} {X : fw_X} {M : fw_M} (hlt : l.stackTraces = false)  {o : fw_O} (hF : F_X8_fullestTram M = some o) : ct_i l X yX8_fullestTram cX8_fullestTram 3 (some .int) ({ frames := 7, cells := 1, slots := 6, locals := 130 } : Room) M [.ref (fw_ad X 352)] o := by
  refine fw_open rfl (Nat.le_of_ble_eq_true rfl) (fun p e s m below meth c ls C hr hlk hnm hex hl B => ?_)
  have C : fr_C X p c cX8_fullestTram 3 RX8 s m ([.ref (fw_ad X 352)] : List Value).toArray := C
  have hx := C.1.1
  have hb := C.1.2.1
  have hl : lv_has ls 3 [(0, .ref (fw_ad X 352))] := hl
  have hJ27 : ∀ (n : Nat), ∀ (x1 : Int32) (x2 : Int32) (H : Heap) (locs : List Loc) (ls : Array Slot), F_X8_fullestTram_27 M n x1 x2 = some o → fr_H X s M H locs → lv_has ls 3 [(0, .ref (fw_ad X 352)), (1, .int x1), (2, .int x2)] → W p l e ({ frames := 7, cells := 1, slots := 6, locals := 130 } : Room) s m ([.ref (fw_ad X 352)] : List Value).toArray below meth c H locs 0 0 (vx_MQ below (fw_Qi X o) (fw_Qx X o) ([.ref (fw_ad X 352)] : List Value).toArray s 1 6 (fw_A X)) (F0 m 27 ls []) := by
    intro n
    induction n with
    | zero =>
      intro x1 x2 H locs ls hF B hl
      exact absurd hF (by simp [F_X8_fullestTram_27])
    | succ n ih =>
      intro x1 x2 H locs ls hF B hl
      rw [F_X8_fullestTram_27] at hF
      refine lv_iload_n hx hb dX8_fullestTram_27 rfl (lv_at hl 2 rfl) ?_
      refine lv_aload_n hx hb dX8_fullestTram_28 rfl (lv_at hl 0 rfl) ?_
      refine gf_X8_12 C B dX8_fullestTram_29 ?_
      refine gf_X8_140 C B is7_0 dX8_fullestTram_32 ?_
      refine gf_X8_156 C B (is1_of is7_0) dX8_fullestTram_35 ?_
      refine lv_icmp_ge (tgt := 74) hx hb dX8_fullestTram_38 (by decide) (fun c1 => ?_) (fun c1 => ?_)
      · have hF := it_t hF c1
        refine lv_iload_n hx hb dX8_fullestTram_74 rfl (lv_at hl 1 rfl) ?_
        exact fr_iret C B hr rfl hlk (by rw [← Option.some.inj hF]) (Nat.le_of_ble_eq_true rfl) (Nat.le_of_ble_eq_true rfl) dX8_fullestTram_75
      · have hF := it_f hF c1
        refine lv_aload_n hx hb dX8_fullestTram_41 rfl (lv_at hl 0 rfl) ?_
        refine gf_X8_12 C B dX8_fullestTram_42 ?_
        refine gf_X8_171 C B is7_0 dX8_fullestTram_45 ?_
        refine lv_iload_n hx hb dX8_fullestTram_48 rfl (lv_at hl 2 rfl) ?_
        obtain ⟨r3, hf2, hF⟩ := bx_e hF
        refine fr_cVi (As := [.int x2]) (rest := []) C B (cm_X6_countOn (is6_of is7_0) hf2) (ob_6 (is6_of is7_0)) rfl yw_X6_countOn wm_X8_175 rfl hl.1 rfl (Nat.le_of_ble_eq_true rfl) ⟨Nat.le_of_ble_eq_true rfl, Nat.le_of_ble_eq_true rfl⟩ ⟨Nat.le_of_ble_eq_true rfl, Nat.le_of_ble_eq_true rfl⟩ dX8_fullestTram_49 (fr_nx rfl) (fun r9 M9 H locs ho9 B => ?_)
        obtain ⟨rfl, rfl⟩ := oi_e ho9
        refine lv_aload_n hx hb dX8_fullestTram_52 rfl (lv_at hl 0 rfl) ?_
        refine gf_X8_12 C B dX8_fullestTram_53 ?_
        refine gf_X8_171 C B is7_0 dX8_fullestTram_56 ?_
        refine lv_iload_n hx hb dX8_fullestTram_59 rfl (lv_at hl 1 rfl) ?_
        obtain ⟨r6, hf5, hF⟩ := bx_e hF
        refine fr_cVi (As := [.int x1]) (rest := [.int r3]) C B (cm_X6_countOn (is6_of is7_0) hf5) (ob_6 (is6_of is7_0)) rfl yw_X6_countOn wm_X8_175 rfl hl.1 rfl (Nat.le_of_ble_eq_true rfl) ⟨Nat.le_of_ble_eq_true rfl, Nat.le_of_ble_eq_true rfl⟩ ⟨Nat.le_of_ble_eq_true rfl, Nat.le_of_ble_eq_true rfl⟩ dX8_fullestTram_60 (fr_nx rfl) (fun r9 M9 H locs ho9 B => ?_)
        obtain ⟨rfl, rfl⟩ := oi_e ho9
        refine lv_icmp_le (tgt := 68) hx hb dX8_fullestTram_63 (by decide) (fun c8 => ?_) (fun c8 => ?_)
        · have hF := it_t hF c8
          refine lv_iinc (v := (x2 + 1)) (lv' := [(2, .int (x2 + 1)), (0, .ref (fw_ad X 352)), (1, .int x1)]) hx hb dX8_fullestTram_68 hl (k := 2) rfl rfl (by decide) rfl (fun ls hl => ?_)
          refine lv_goto (tgt := 27) hx hb dX8_fullestTram_71 (by decide) ?_
          exact ih x1 (x2 + 1) _ _ _ hF B (lv_sub hl [1, 2, 0] rfl)
        · have hF := it_f hF c8
          refine lv_iload_n hx hb dX8_fullestTram_66 rfl (lv_at hl 2 rfl) ?_
          refine lv_istore_n (lv' := [(1, .int x2), (0, .ref (fw_ad X 352)), (2, .int x2)]) hx hb dX8_fullestTram_67 rfl hl (by decide) rfl (fun ls hl => ?_)
          refine lv_iinc (v := (x2 + 1)) (lv' := [(2, .int (x2 + 1)), (1, .int x2), (0, .ref (fw_ad X 352))]) hx hb dX8_fullestTram_68 hl (k := 2) rfl rfl (by decide) rfl (fun ls hl => ?_)
          refine lv_goto (tgt := 27) hx hb dX8_fullestTram_71 (by decide) ?_
          exact ih x2 (x2 + 1) _ _ _ hF B (lv_sub hl [2, 1, 0] rfl)
  unfold F_X8_fullestTram at hF
  refine lv_aload_n hx hb dX8_fullestTram_0 rfl (lv_at hl 0 rfl) ?_
  refine gf_X8_12 C B dX8_fullestTram_1 ?_
  refine gf_X8_140 C B is7_0 dX8_fullestTram_4 ?_
  refine gf_X8_156 C B (is1_of is7_0) dX8_fullestTram_7 ?_
  refine lv_if_ne (tgt := 23) hx hb dX8_fullestTram_10 (by decide) (fun c9 => ?_) (fun c9 => ?_)
  · have hF := it_t hF c9
    refine lv_iconst (v := 0) hx hb dX8_fullestTram_23 (by decide) ?_
    refine lv_istore_n (lv' := [(1, .int 0), (0, .ref (fw_ad X 352))]) hx hb dX8_fullestTram_24 rfl hl (by decide) rfl (fun ls hl => ?_)
    refine lv_iconst (v := 1) hx hb dX8_fullestTram_25 (by decide) ?_
    refine lv_istore_n (lv' := [(2, .int 1), (1, .int 0), (0, .ref (fw_ad X 352))]) hx hb dX8_fullestTram_26 rfl hl (by decide) rfl (fun ls hl => ?_)
    exact hJ27 64 0 1 _ _ _ hF B (lv_sub hl [2, 1, 0] rfl)
  · have hF := it_f hF (not_not_intro c9)
    exact fr_throwN C B hlt hex hlk (pk := 19) (id := 59) (text := "no trams") xt_X8_3 (by decide +kernel) (by rw [← Option.some.inj hF]) hl.1 (Nat.le_of_ble_eq_true rfl) (Nat.le_of_ble_eq_true rfl) (Nat.le_of_ble_eq_true rfl) (Nat.le_of_ble_eq_true rfl) (Nat.le_of_ble_eq_true rfl) (Nat.le_of_ble_eq_true rfl) dX8_fullestTram_13 dX8_fullestTram_16 (.inl ⟨dX8_fullestTram_17, rfl⟩) dX8_fullestTram_19 dX8_fullestTram_22
def F_X8_passengerCount (M : fw_M) : Option (Int32) :=
  some (M 15 0)
set_option maxHeartbeats 4000000 in
set_option maxRecDepth 100000 in
theorem cm_X8_passengerCount {l : Launch} {X : fw_X} {M : fw_M}  {o : Int32} (hF : F_X8_passengerCount M = some o) : ct_i l X yX8_passengerCount cX8_passengerCount 1 (some .int) ({ frames := 0, cells := 0, slots := 0, locals := 0 } : Room) M [.ref (fw_ad X 352)] (.inl o, M) := by
  refine fw_open rfl (Nat.le_of_ble_eq_true rfl) (fun p e s m below meth c ls C hr hlk hnm hex hl B => ?_)
  have C : fr_C X p c cX8_passengerCount 1 RX8 s m ([.ref (fw_ad X 352)] : List Value).toArray := C
  have hx := C.1.1
  have hb := C.1.2.1
  have hl : lv_has ls 1 [(0, .ref (fw_ad X 352))] := hl
  unfold F_X8_passengerCount at hF
  refine lv_aload_n hx hb dX8_passengerCount_0 rfl (lv_at hl 0 rfl) ?_
  refine gf_X8_12 C B dX8_passengerCount_1 ?_
  refine gf_X8_171 C B is7_0 dX8_passengerCount_4 ?_
  refine gf_X8_217 C B (is6_of is7_0) dX8_passengerCount_7 ?_
  exact fr_iret C B hr rfl hlk (by rw [← Option.some.inj hF]) (Nat.le_of_ble_eq_true rfl) (Nat.le_of_ble_eq_true rfl) dX8_passengerCount_10
def F_X8_secretCount (M : fw_M) : Option (Int32) :=
  some (M 22 0)
set_option maxHeartbeats 4000000 in
set_option maxRecDepth 100000 in
theorem cm_X8_secretCount {l : Launch} {X : fw_X} {M : fw_M}  {o : Int32} (hF : F_X8_secretCount M = some o) : ct_i l X yX8_secretCount cX8_secretCount 1 (some .int) ({ frames := 0, cells := 0, slots := 0, locals := 0 } : Room) M [.ref (fw_ad X 352)] (.inl o, M) := by
  refine fw_open rfl (Nat.le_of_ble_eq_true rfl) (fun p e s m below meth c ls C hr hlk hnm hex hl B => ?_)
  have C : fr_C X p c cX8_secretCount 1 RX8 s m ([.ref (fw_ad X 352)] : List Value).toArray := C
  have hx := C.1.1
  have hb := C.1.2.1
  have hl : lv_has ls 1 [(0, .ref (fw_ad X 352))] := hl
  unfold F_X8_secretCount at hF
  refine lv_aload_n hx hb dX8_secretCount_0 rfl (lv_at hl 0 rfl) ?_
  refine gf_X8_12 C B dX8_secretCount_1 ?_
  refine gf_X8_247 C B is7_0 dX8_secretCount_4 ?_
  refine gf_X8_262 C B (is2_of is7_0) dX8_secretCount_7 ?_
  exact fr_iret C B hr rfl hlk (by rw [← Option.some.inj hF]) (Nat.le_of_ble_eq_true rfl) (Nat.le_of_ble_eq_true rfl) dX8_secretCount_10
def F_X8_wisestPassenger_2 (M : fw_M) (a1 : Int32)  : Nat → Int32 → Option (fw_O)
  | 0, _ => none
  | n + 1, x2 =>
    if (M 15 0) ≤ x2 then
      some (.inr 3, M)
    else
      bd_x (F_X7_countWiser M 0 x2) fun r3 =>
      if ¬ r3 = a1 then
        F_X8_wisestPassenger_2 M a1 n (x2 + 1)
      else
        some (.inl x2, M)
def F_X8_wisestPassenger (M : fw_M) (a1 : Int32) : Option (fw_O) :=
  F_X8_wisestPassenger_2 M a1 64 0
set_option maxHeartbeats 4000000 in
set_option maxRecDepth 100000 in
theorem cm_X8_wisestPassenger {l : Launch} {X : fw_X} {M : fw_M} {a1 : Int32} (hlt : l.stackTraces = false)  {o : fw_O} (hF : F_X8_wisestPassenger M a1 = some o) : ct_i l X yX8_wisestPassenger cX8_wisestPassenger 3 (some .int) ({ frames := 7, cells := 1, slots := 6, locals := 130 } : Room) M [.ref (fw_ad X 352), .int a1] o := by
  refine fw_open rfl (Nat.le_of_ble_eq_true rfl) (fun p e s m below meth c ls C hr hlk hnm hex hl B => ?_)
  have C : fr_C X p c cX8_wisestPassenger 3 RX8 s m ([.ref (fw_ad X 352), .int a1] : List Value).toArray := C
  have hx := C.1.1
  have hb := C.1.2.1
  have hl : lv_has ls 3 [(0, .ref (fw_ad X 352)), (1, .int a1)] := hl
  have hJ2 : ∀ (n : Nat), ∀ (x2 : Int32) (H : Heap) (locs : List Loc) (ls : Array Slot), F_X8_wisestPassenger_2 M a1 n x2 = some o → fr_H X s M H locs → lv_has ls 3 [(0, .ref (fw_ad X 352)), (1, .int a1), (2, .int x2)] → W p l e ({ frames := 7, cells := 1, slots := 6, locals := 130 } : Room) s m ([.ref (fw_ad X 352), .int a1] : List Value).toArray below meth c H locs 0 0 (vx_MQ below (fw_Qi X o) (fw_Qx X o) ([.ref (fw_ad X 352), .int a1] : List Value).toArray s 1 6 (fw_A X)) (F0 m 2 ls []) := by
    intro n
    induction n with
    | zero =>
      intro x2 H locs ls hF B hl
      exact absurd hF (by simp [F_X8_wisestPassenger_2])
    | succ n ih =>
      intro x2 H locs ls hF B hl
      rw [F_X8_wisestPassenger_2] at hF
      refine lv_iload_n hx hb dX8_wisestPassenger_2 rfl (lv_at hl 2 rfl) ?_
      refine lv_aload_n hx hb dX8_wisestPassenger_3 rfl (lv_at hl 0 rfl) ?_
      refine gf_X8_12 C B dX8_wisestPassenger_4 ?_
      refine gf_X8_171 C B is7_0 dX8_wisestPassenger_7 ?_
      refine gf_X8_217 C B (is6_of is7_0) dX8_wisestPassenger_10 ?_
      refine lv_icmp_ge (tgt := 36) hx hb dX8_wisestPassenger_13 (by decide) (fun c1 => ?_) (fun c1 => ?_)
      · have hF := it_t hF c1
        exact fr_throwN C B hlt hex hlk (pk := 43) (id := 64) (text := "no such rank") xt_X8_3 (by decide +kernel) (by rw [← Option.some.inj hF]) hl.1 (Nat.le_of_ble_eq_true rfl) (Nat.le_of_ble_eq_true rfl) (Nat.le_of_ble_eq_true rfl) (Nat.le_of_ble_eq_true rfl) (Nat.le_of_ble_eq_true rfl) (Nat.le_of_ble_eq_true rfl) dX8_wisestPassenger_36 dX8_wisestPassenger_39 (.inr ⟨dX8_wisestPassenger_40, rfl⟩) dX8_wisestPassenger_43 dX8_wisestPassenger_46
      · have hF := it_f hF c1
        refine lv_aload_n hx hb dX8_wisestPassenger_16 rfl (lv_at hl 0 rfl) ?_
        refine gf_X8_12 C B dX8_wisestPassenger_17 ?_
        refine lv_iload_n hx hb dX8_wisestPassenger_20 rfl (lv_at hl 2 rfl) ?_
        obtain ⟨r3, hf2, hF⟩ := bx_e hF
        refine fr_cVi (As := [.int x2]) (rest := []) C B (cm_X7_countWiser is7_0 hf2) (ob_7 is7_0) rfl yw_X7_countWiser wm_X8_278 rfl hl.1 rfl (Nat.le_of_ble_eq_true rfl) ⟨Nat.le_of_ble_eq_true rfl, Nat.le_of_ble_eq_true rfl⟩ ⟨Nat.le_of_ble_eq_true rfl, Nat.le_of_ble_eq_true rfl⟩ dX8_wisestPassenger_21 (fr_nx rfl) (fun r9 M9 H locs ho9 B => ?_)
        obtain ⟨rfl, rfl⟩ := oi_e ho9
        refine lv_iload_n hx hb dX8_wisestPassenger_24 rfl (lv_at hl 1 rfl) ?_
        refine lv_icmp_ne (tgt := 30) hx hb dX8_wisestPassenger_25 (by decide) (fun c5 => ?_) (fun c5 => ?_)
        · have hF := it_t hF c5
          refine lv_iinc (v := (x2 + 1)) (lv' := [(2, .int (x2 + 1)), (0, .ref (fw_ad X 352)), (1, .int a1)]) hx hb dX8_wisestPassenger_30 hl (k := 2) rfl rfl (by decide) rfl (fun ls hl => ?_)
          refine lv_goto (tgt := 2) hx hb dX8_wisestPassenger_33 (by decide) ?_
          exact ih (x2 + 1) _ _ _ hF B (lv_sub hl [1, 2, 0] rfl)
        · have hF := it_f hF (not_not_intro c5)
          refine lv_iload_n hx hb dX8_wisestPassenger_28 rfl (lv_at hl 2 rfl) ?_
          exact fr_iret C B hr rfl hlk (by rw [← Option.some.inj hF]) (Nat.le_of_ble_eq_true rfl) (Nat.le_of_ble_eq_true rfl) dX8_wisestPassenger_29
  unfold F_X8_wisestPassenger at hF
  refine lv_iconst (v := 0) hx hb dX8_wisestPassenger_0 (by decide) ?_
  refine lv_istore_n (lv' := [(2, .int 0), (0, .ref (fw_ad X 352)), (1, .int a1)]) hx hb dX8_wisestPassenger_1 rfl hl (by decide) rfl (fun ls hl => ?_)
  exact hJ2 64 0 _ _ _ hF B (lv_sub hl [1, 2, 0] rfl)
def F_X8_type (M : fw_M) (a1 : Int32) : Option (fw_O) :=
  if a1 < 32 then
    some (.inr 1, M)
  else
    if a1 ≤ 126 then
      if (M 360 0) < 60 then
        bd_p (F_X0_append M a1) fun r5 M6 =>
        some (.inl r5, M6)
      else
        some (.inr 2, M)
    else
      some (.inr 1, M)
set_option maxHeartbeats 4000000 in
set_option maxRecDepth 100000 in
theorem cm_X8_type {l : Launch} {X : fw_X} {M : fw_M} {a1 : Int32} (hlt : l.stackTraces = false)  {o : fw_O} (hF : F_X8_type M a1 = some o) : ct_i l X yX8_type cX8_type 2 (some .int) ({ frames := 7, cells := 1, slots := 6, locals := 130 } : Room) M [.ref (fw_ad X 352), .int a1] o := by
  refine fw_open rfl (Nat.le_of_ble_eq_true rfl) (fun p e s m below meth c ls C hr hlk hnm hex hl B => ?_)
  have C : fr_C X p c cX8_type 2 RX8 s m ([.ref (fw_ad X 352), .int a1] : List Value).toArray := C
  have hx := C.1.1
  have hb := C.1.2.1
  have hl : lv_has ls 2 [(0, .ref (fw_ad X 352)), (1, .int a1)] := hl
  unfold F_X8_type at hF
  refine lv_iload_n hx hb dX8_type_0 rfl (lv_at hl 1 rfl) ?_
  refine lv_bipush (v := 32) hx hb dX8_type_1 (by decide) ?_
  refine lv_icmp_lt (tgt := 12) hx hb dX8_type_3 (by decide) (fun c1 => ?_) (fun c1 => ?_)
  · have hF := it_t hF c1
    exact fr_throwW C B hlt hex hlk (n := 1) (id := 68) (text := "not a printable character") xt_X8_1 (by decide +kernel) (by rw [← Option.some.inj hF]) hl.1 (Nat.le_of_ble_eq_true rfl) (Nat.le_of_ble_eq_true rfl) (Nat.le_of_ble_eq_true rfl) (Nat.le_of_ble_eq_true rfl) (Nat.le_of_ble_eq_true rfl) (Nat.le_of_ble_eq_true rfl) dX8_type_12 dX8_type_15 dX8_type_16 dX8_type_19 dX8_type_22
  · have hF := it_f hF c1
    refine lv_iload_n hx hb dX8_type_6 rfl (lv_at hl 1 rfl) ?_
    refine lv_bipush (v := 126) hx hb dX8_type_7 (by decide) ?_
    refine lv_icmp_le (tgt := 23) hx hb dX8_type_9 (by decide) (fun c2 => ?_) (fun c2 => ?_)
    · have hF := it_t hF c2
      refine lv_aload_n hx hb dX8_type_23 rfl (lv_at hl 0 rfl) ?_
      refine gf_X8_39 C B dX8_type_24 ?_
      refine gf_X8_338 C B dX8_type_27 ?_
      refine lv_bipush (v := 60) hx hb dX8_type_30 (by decide) ?_
      refine lv_icmp_lt (tgt := 46) hx hb dX8_type_32 (by decide) (fun c3 => ?_) (fun c3 => ?_)
      · have hF := it_t hF c3
        refine lv_aload_n hx hb dX8_type_46 rfl (lv_at hl 0 rfl) ?_
        refine gf_X8_39 C B dX8_type_47 ?_
        refine lv_iload_n hx hb dX8_type_50 rfl (lv_at hl 1 rfl) ?_
        obtain ⟨r5, M6, hf4, hF⟩ := bp_e hF
        refine fr_cVi (As := [.int a1]) (rest := []) C B (cm_X0_append hf4) ob_0 rfl yw_X0_append wm_X8_345 rfl hl.1 rfl (Nat.le_of_ble_eq_true rfl) ⟨Nat.le_of_ble_eq_true rfl, Nat.le_of_ble_eq_true rfl⟩ ⟨Nat.le_of_ble_eq_true rfl, Nat.le_of_ble_eq_true rfl⟩ dX8_type_51 (fr_nx rfl) (fun r9 M9 H locs ho9 B => ?_)
        obtain ⟨rfl, rfl⟩ := oi_e ho9
        exact fr_iret C B hr rfl hlk (by rw [← Option.some.inj hF]) (Nat.le_of_ble_eq_true rfl) (Nat.le_of_ble_eq_true rfl) dX8_type_54
      · have hF := it_f hF c3
        exact fr_throwW C B hlt hex hlk (n := 2) (id := 69) (text := "the buffer is full") xt_X8_2 (by decide +kernel) (by rw [← Option.some.inj hF]) hl.1 (Nat.le_of_ble_eq_true rfl) (Nat.le_of_ble_eq_true rfl) (Nat.le_of_ble_eq_true rfl) (Nat.le_of_ble_eq_true rfl) (Nat.le_of_ble_eq_true rfl) (Nat.le_of_ble_eq_true rfl) dX8_type_35 dX8_type_38 dX8_type_39 dX8_type_42 dX8_type_45
    · have hF := it_f hF c2
      exact fr_throwW C B hlt hex hlk (n := 1) (id := 68) (text := "not a printable character") xt_X8_1 (by decide +kernel) (by rw [← Option.some.inj hF]) hl.1 (Nat.le_of_ble_eq_true rfl) (Nat.le_of_ble_eq_true rfl) (Nat.le_of_ble_eq_true rfl) (Nat.le_of_ble_eq_true rfl) (Nat.le_of_ble_eq_true rfl) (Nat.le_of_ble_eq_true rfl) dX8_type_12 dX8_type_15 dX8_type_16 dX8_type_19 dX8_type_22
def F_X8_save (M : fw_M) : Option (Int32 × fw_M) :=
  bd_x (F_X7_copyFrom M 64 0) fun M3 =>
  lt_x (fw_up M3 352 7 1) fun M4 =>
  some ((M4 15 0), M4)
set_option maxHeartbeats 4000000 in
set_option maxRecDepth 100000 in
theorem cm_X8_save {l : Launch} {X : fw_X} {M : fw_M}  {o : Int32 × fw_M} (hF : F_X8_save M = some o) : ct_i l X yX8_save cX8_save 1 (some .int) ({ frames := 3, cells := 0, slots := 0, locals := 103 } : Room) M [.ref (fw_ad X 352)] (.inl o.1, o.2) := by
  refine fw_open rfl (Nat.le_of_ble_eq_true rfl) (fun p e s m below meth c ls C hr hlk hnm hex hl B => ?_)
  have C : fr_C X p c cX8_save 1 RX8 s m ([.ref (fw_ad X 352)] : List Value).toArray := C
  have hx := C.1.1
  have hb := C.1.2.1
  have hl : lv_has ls 1 [(0, .ref (fw_ad X 352))] := hl
  unfold F_X8_save at hF
  refine lv_aload_n hx hb dX8_save_0 rfl (lv_at hl 0 rfl) ?_
  refine gf_X8_19 C B dX8_save_1 ?_
  refine lv_aload_n hx hb dX8_save_4 rfl (lv_at hl 0 rfl) ?_
  refine gf_X8_12 C B dX8_save_5 ?_
  obtain ⟨M3, hf1, hF⟩ := bx_e hF
  refine fr_cVv (As := [.ref (fw_ad X 0)]) (rest := []) C B (cm_X7_copyFrom is7_64 is7_0 hf1) (ob_7 is7_64) rfl yw_X7_copyFrom wm_X8_359 rfl hl.1 rfl (Nat.le_of_ble_eq_true rfl) ⟨Nat.le_of_ble_eq_true rfl, Nat.le_of_ble_eq_true rfl⟩ ⟨Nat.le_of_ble_eq_true rfl, Nat.le_of_ble_eq_true rfl⟩ dX8_save_8 (fr_nx rfl) (fun M9 H locs ho9 B => ?_)
  obtain ⟨-, rfl⟩ := oi_e ho9
  refine lv_aload_n hx hb dX8_save_11 rfl (lv_at hl 0 rfl) ?_
  refine lv_iconst (v := 1) hx hb dX8_save_12 (by decide) ?_
  refine pf_X8_50 C B (by decide) dX8_save_13 (fun H locs B => ?_)
  obtain ⟨M4, eM4, hF⟩ := lt_e hF
  rw [← eM4] at B
  refine lv_aload_n hx hb dX8_save_16 rfl (lv_at hl 0 rfl) ?_
  refine gf_X8_12 C B dX8_save_17 ?_
  refine gf_X8_171 C B is7_0 dX8_save_20 ?_
  refine gf_X8_217 C B (is6_of is7_0) dX8_save_23 ?_
  exact fr_iret C B hr rfl hlk (by rw [← Option.some.inj hF]) (Nat.le_of_ble_eq_true rfl) (Nat.le_of_ble_eq_true rfl) dX8_save_26
def F_X8_restore (M : fw_M) : Option (fw_O) :=
  if ¬ (M 352 7) = 0 then
    bd_x (F_X7_copyFrom M 0 64) fun M4 =>
    bd_x (F_X4_forget M4) fun M7 =>
    some (.inl (M7 15 0), M7)
  else
    some (.inr 2, M)
set_option maxHeartbeats 4000000 in
set_option maxRecDepth 100000 in
theorem cm_X8_restore {l : Launch} {X : fw_X} {M : fw_M} (hlt : l.stackTraces = false)  {o : fw_O} (hF : F_X8_restore M = some o) : ct_i l X yX8_restore cX8_restore 1 (some .int) ({ frames := 7, cells := 1, slots := 6, locals := 130 } : Room) M [.ref (fw_ad X 352)] o := by
  refine fw_open rfl (Nat.le_of_ble_eq_true rfl) (fun p e s m below meth c ls C hr hlk hnm hex hl B => ?_)
  have C : fr_C X p c cX8_restore 1 RX8 s m ([.ref (fw_ad X 352)] : List Value).toArray := C
  have hx := C.1.1
  have hb := C.1.2.1
  have hl : lv_has ls 1 [(0, .ref (fw_ad X 352))] := hl
  unfold F_X8_restore at hF
  refine lv_aload_n hx hb dX8_restore_0 rfl (lv_at hl 0 rfl) ?_
  refine gf_X8_50 C B dX8_restore_1 ?_
  refine lv_if_ne (tgt := 18) hx hb dX8_restore_4 (by decide) (fun c1 => ?_) (fun c1 => ?_)
  · have hF := it_t hF c1
    refine lv_aload_n hx hb dX8_restore_18 rfl (lv_at hl 0 rfl) ?_
    refine gf_X8_12 C B dX8_restore_19 ?_
    refine lv_aload_n hx hb dX8_restore_22 rfl (lv_at hl 0 rfl) ?_
    refine gf_X8_19 C B dX8_restore_23 ?_
    obtain ⟨M4, hf2, hF⟩ := bx_e hF
    refine fr_cVv (As := [.ref (fw_ad X 64)]) (rest := []) C B (cm_X7_copyFrom is7_0 is7_64 hf2) (ob_7 is7_0) rfl yw_X7_copyFrom wm_X8_359 rfl hl.1 rfl (Nat.le_of_ble_eq_true rfl) ⟨Nat.le_of_ble_eq_true rfl, Nat.le_of_ble_eq_true rfl⟩ ⟨Nat.le_of_ble_eq_true rfl, Nat.le_of_ble_eq_true rfl⟩ dX8_restore_26 (fr_nx rfl) (fun M9 H locs ho9 B => ?_)
    obtain ⟨-, rfl⟩ := oi_e ho9
    refine lv_aload_n hx hb dX8_restore_29 rfl (lv_at hl 0 rfl) ?_
    refine gf_X8_25 C B dX8_restore_30 ?_
    obtain ⟨M7, hf5, hF⟩ := bx_e hF
    refine fr_cVv (As := []) (rest := []) C B (cm_X4_forget hf5) ob_4 rfl yw_X4_forget wm_X8_376 rfl hl.1 rfl (Nat.le_of_ble_eq_true rfl) ⟨Nat.le_of_ble_eq_true rfl, Nat.le_of_ble_eq_true rfl⟩ ⟨Nat.le_of_ble_eq_true rfl, Nat.le_of_ble_eq_true rfl⟩ dX8_restore_33 (fr_nx rfl) (fun M9 H locs ho9 B => ?_)
    obtain ⟨-, rfl⟩ := oi_e ho9
    refine lv_aload_n hx hb dX8_restore_36 rfl (lv_at hl 0 rfl) ?_
    refine gf_X8_12 C B dX8_restore_37 ?_
    refine gf_X8_171 C B is7_0 dX8_restore_40 ?_
    refine gf_X8_217 C B (is6_of is7_0) dX8_restore_43 ?_
    exact fr_iret C B hr rfl hlk (by rw [← Option.some.inj hF]) (Nat.le_of_ble_eq_true rfl) (Nat.le_of_ble_eq_true rfl) dX8_restore_46
  · have hF := it_f hF (not_not_intro c1)
    exact fr_throwW C B hlt hex hlk (n := 2) (id := 73) (text := "no snapshot") xt_X8_2 (by decide +kernel) (by rw [← Option.some.inj hF]) hl.1 (Nat.le_of_ble_eq_true rfl) (Nat.le_of_ble_eq_true rfl) (Nat.le_of_ble_eq_true rfl) (Nat.le_of_ble_eq_true rfl) (Nat.le_of_ble_eq_true rfl) (Nat.le_of_ble_eq_true rfl) dX8_restore_7 dX8_restore_10 dX8_restore_11 dX8_restore_14 dX8_restore_17
def F_X8_requireStop (M : fw_M) (a1 : Int32) : Option (fw_O) :=
  bd_x (F_X3_hasStop M 1 a1) fun r2 =>
  if ¬ r2 = 0 then
    some (.inl 0, M)
  else
    some (.inr 0, M)
set_option maxHeartbeats 4000000 in
set_option maxRecDepth 100000 in
theorem cm_X8_requireStop {l : Launch} {X : fw_X} {M : fw_M} {a1 : Int32} (hlt : l.stackTraces = false)  {o : fw_O} (hF : F_X8_requireStop M a1 = some o) : ct_v l X yX8_requireStop cX8_requireStop 2 none ({ frames := 7, cells := 1, slots := 6, locals := 130 } : Room) M [.ref (fw_ad X 352), .int a1] o := by
  refine fw_open rfl (Nat.le_of_ble_eq_true rfl) (fun p e s m below meth c ls C hr hlk hnm hex hl B => ?_)
  have C : fr_C X p c cX8_requireStop 2 RX8 s m ([.ref (fw_ad X 352), .int a1] : List Value).toArray := C
  have hx := C.1.1
  have hb := C.1.2.1
  have hl : lv_has ls 2 [(0, .ref (fw_ad X 352)), (1, .int a1)] := hl
  unfold F_X8_requireStop at hF
  refine lv_aload_n hx hb dX8_requireStop_0 rfl (lv_at hl 0 rfl) ?_
  refine gf_X8_12 C B dX8_requireStop_1 ?_
  refine gf_X8_73 C B is7_0 dX8_requireStop_4 ?_
  refine lv_iload_n hx hb dX8_requireStop_7 rfl (lv_at hl 1 rfl) ?_
  obtain ⟨r2, hf1, hF⟩ := bx_e hF
  refine fr_cVi (As := [.int a1]) (rest := []) C B (cm_X3_hasStop (is3_of is7_0) hf1) (ob_3 (is3_of is7_0)) rfl yw_X3_hasStop wm_X8_404 rfl hl.1 rfl (Nat.le_of_ble_eq_true rfl) ⟨Nat.le_of_ble_eq_true rfl, Nat.le_of_ble_eq_true rfl⟩ ⟨Nat.le_of_ble_eq_true rfl, Nat.le_of_ble_eq_true rfl⟩ dX8_requireStop_8 (fr_nx rfl) (fun r9 M9 H locs ho9 B => ?_)
  obtain ⟨rfl, rfl⟩ := oi_e ho9
  refine lv_if_ne (tgt := 25) hx hb dX8_requireStop_11 (by decide) (fun c4 => ?_) (fun c4 => ?_)
  · have hF := it_t hF c4
    exact fr_vret C B hr hlk (by rw [← Option.some.inj hF]) (Nat.le_of_ble_eq_true rfl) (Nat.le_of_ble_eq_true rfl) dX8_requireStop_25
  · have hF := it_f hF (not_not_intro c4)
    exact fr_throwW C B hlt hex hlk (n := 0) (id := 55) (text := "no such stop") xt_X8_0 (by decide +kernel) (by rw [← Option.some.inj hF]) hl.1 (Nat.le_of_ble_eq_true rfl) (Nat.le_of_ble_eq_true rfl) (Nat.le_of_ble_eq_true rfl) (Nat.le_of_ble_eq_true rfl) (Nat.le_of_ble_eq_true rfl) (Nat.le_of_ble_eq_true rfl) dX8_requireStop_14 dX8_requireStop_17 dX8_requireStop_18 dX8_requireStop_21 dX8_requireStop_24
def F_X8_requireLine (M : fw_M) (a1 : Int32) : Option (fw_O) :=
  bd_x (F_X3_hasLine M 1 a1) fun r2 =>
  if ¬ r2 = 0 then
    some (.inl 0, M)
  else
    some (.inr 0, M)
set_option maxHeartbeats 4000000 in
set_option maxRecDepth 100000 in
theorem cm_X8_requireLine {l : Launch} {X : fw_X} {M : fw_M} {a1 : Int32} (hlt : l.stackTraces = false)  {o : fw_O} (hF : F_X8_requireLine M a1 = some o) : ct_v l X yX8_requireLine cX8_requireLine 2 none ({ frames := 7, cells := 1, slots := 6, locals := 130 } : Room) M [.ref (fw_ad X 352), .int a1] o := by
  refine fw_open rfl (Nat.le_of_ble_eq_true rfl) (fun p e s m below meth c ls C hr hlk hnm hex hl B => ?_)
  have C : fr_C X p c cX8_requireLine 2 RX8 s m ([.ref (fw_ad X 352), .int a1] : List Value).toArray := C
  have hx := C.1.1
  have hb := C.1.2.1
  have hl : lv_has ls 2 [(0, .ref (fw_ad X 352)), (1, .int a1)] := hl
  unfold F_X8_requireLine at hF
  refine lv_aload_n hx hb dX8_requireLine_0 rfl (lv_at hl 0 rfl) ?_
  refine gf_X8_12 C B dX8_requireLine_1 ?_
  refine gf_X8_73 C B is7_0 dX8_requireLine_4 ?_
  refine lv_iload_n hx hb dX8_requireLine_7 rfl (lv_at hl 1 rfl) ?_
  obtain ⟨r2, hf1, hF⟩ := bx_e hF
  refine fr_cVi (As := [.int a1]) (rest := []) C B (cm_X3_hasLine (is3_of is7_0) hf1) (ob_3 (is3_of is7_0)) rfl yw_X3_hasLine wm_X8_409 rfl hl.1 rfl (Nat.le_of_ble_eq_true rfl) ⟨Nat.le_of_ble_eq_true rfl, Nat.le_of_ble_eq_true rfl⟩ ⟨Nat.le_of_ble_eq_true rfl, Nat.le_of_ble_eq_true rfl⟩ dX8_requireLine_8 (fr_nx rfl) (fun r9 M9 H locs ho9 B => ?_)
  obtain ⟨rfl, rfl⟩ := oi_e ho9
  refine lv_if_ne (tgt := 25) hx hb dX8_requireLine_11 (by decide) (fun c4 => ?_) (fun c4 => ?_)
  · have hF := it_t hF c4
    exact fr_vret C B hr hlk (by rw [← Option.some.inj hF]) (Nat.le_of_ble_eq_true rfl) (Nat.le_of_ble_eq_true rfl) dX8_requireLine_25
  · have hF := it_f hF (not_not_intro c4)
    exact fr_throwW C B hlt hex hlk (n := 0) (id := 56) (text := "no such line") xt_X8_0 (by decide +kernel) (by rw [← Option.some.inj hF]) hl.1 (Nat.le_of_ble_eq_true rfl) (Nat.le_of_ble_eq_true rfl) (Nat.le_of_ble_eq_true rfl) (Nat.le_of_ble_eq_true rfl) (Nat.le_of_ble_eq_true rfl) (Nat.le_of_ble_eq_true rfl) dX8_requireLine_14 dX8_requireLine_17 dX8_requireLine_18 dX8_requireLine_21 dX8_requireLine_24
def F_X8_requireTram (M : fw_M) (a1 : Int32) : Option (fw_O) :=
  bd_x (F_X1_hasTram M 11 a1) fun r2 =>
  if ¬ r2 = 0 then
    some (.inl 0, M)
  else
    some (.inr 0, M)
set_option maxHeartbeats 4000000 in
set_option maxRecDepth 100000 in
theorem cm_X8_requireTram {l : Launch} {X : fw_X} {M : fw_M} {a1 : Int32} (hlt : l.stackTraces = false)  {o : fw_O} (hF : F_X8_requireTram M a1 = some o) : ct_v l X yX8_requireTram cX8_requireTram 2 none ({ frames := 7, cells := 1, slots := 6, locals := 130 } : Room) M [.ref (fw_ad X 352), .int a1] o := by
  refine fw_open rfl (Nat.le_of_ble_eq_true rfl) (fun p e s m below meth c ls C hr hlk hnm hex hl B => ?_)
  have C : fr_C X p c cX8_requireTram 2 RX8 s m ([.ref (fw_ad X 352), .int a1] : List Value).toArray := C
  have hx := C.1.1
  have hb := C.1.2.1
  have hl : lv_has ls 2 [(0, .ref (fw_ad X 352)), (1, .int a1)] := hl
  unfold F_X8_requireTram at hF
  refine lv_aload_n hx hb dX8_requireTram_0 rfl (lv_at hl 0 rfl) ?_
  refine gf_X8_12 C B dX8_requireTram_1 ?_
  refine gf_X8_140 C B is7_0 dX8_requireTram_4 ?_
  refine lv_iload_n hx hb dX8_requireTram_7 rfl (lv_at hl 1 rfl) ?_
  obtain ⟨r2, hf1, hF⟩ := bx_e hF
  refine fr_cVi (As := [.int a1]) (rest := []) C B (cm_X1_hasTram (is1_of is7_0) hf1) (ob_1 (is1_of is7_0)) rfl yw_X1_hasTram wm_X8_414 rfl hl.1 rfl (Nat.le_of_ble_eq_true rfl) ⟨Nat.le_of_ble_eq_true rfl, Nat.le_of_ble_eq_true rfl⟩ ⟨Nat.le_of_ble_eq_true rfl, Nat.le_of_ble_eq_true rfl⟩ dX8_requireTram_8 (fr_nx rfl) (fun r9 M9 H locs ho9 B => ?_)
  obtain ⟨rfl, rfl⟩ := oi_e ho9
  refine lv_if_ne (tgt := 25) hx hb dX8_requireTram_11 (by decide) (fun c4 => ?_) (fun c4 => ?_)
  · have hF := it_t hF c4
    exact fr_vret C B hr hlk (by rw [← Option.some.inj hF]) (Nat.le_of_ble_eq_true rfl) (Nat.le_of_ble_eq_true rfl) dX8_requireTram_25
  · have hF := it_f hF (not_not_intro c4)
    exact fr_throwW C B hlt hex hlk (n := 0) (id := 58) (text := "no such tram") xt_X8_0 (by decide +kernel) (by rw [← Option.some.inj hF]) hl.1 (Nat.le_of_ble_eq_true rfl) (Nat.le_of_ble_eq_true rfl) (Nat.le_of_ble_eq_true rfl) (Nat.le_of_ble_eq_true rfl) (Nat.le_of_ble_eq_true rfl) (Nat.le_of_ble_eq_true rfl) dX8_requireTram_14 dX8_requireTram_17 dX8_requireTram_18 dX8_requireTram_21 dX8_requireTram_24
def F_X8_requirePassenger (M : fw_M) (a1 : Int32) : Option (fw_O) :=
  bd_x (F_X6_hasPassenger M 15 a1) fun r2 =>
  if ¬ r2 = 0 then
    some (.inl 0, M)
  else
    some (.inr 0, M)
set_option maxHeartbeats 4000000 in
set_option maxRecDepth 100000 in
theorem cm_X8_requirePassenger {l : Launch} {X : fw_X} {M : fw_M} {a1 : Int32} (hlt : l.stackTraces = false)  {o : fw_O} (hF : F_X8_requirePassenger M a1 = some o) : ct_v l X yX8_requirePassenger cX8_requirePassenger 2 none ({ frames := 7, cells := 1, slots := 6, locals := 130 } : Room) M [.ref (fw_ad X 352), .int a1] o := by
  refine fw_open rfl (Nat.le_of_ble_eq_true rfl) (fun p e s m below meth c ls C hr hlk hnm hex hl B => ?_)
  have C : fr_C X p c cX8_requirePassenger 2 RX8 s m ([.ref (fw_ad X 352), .int a1] : List Value).toArray := C
  have hx := C.1.1
  have hb := C.1.2.1
  have hl : lv_has ls 2 [(0, .ref (fw_ad X 352)), (1, .int a1)] := hl
  unfold F_X8_requirePassenger at hF
  refine lv_aload_n hx hb dX8_requirePassenger_0 rfl (lv_at hl 0 rfl) ?_
  refine gf_X8_12 C B dX8_requirePassenger_1 ?_
  refine gf_X8_171 C B is7_0 dX8_requirePassenger_4 ?_
  refine lv_iload_n hx hb dX8_requirePassenger_7 rfl (lv_at hl 1 rfl) ?_
  obtain ⟨r2, hf1, hF⟩ := bx_e hF
  refine fr_cVi (As := [.int a1]) (rest := []) C B (cm_X6_hasPassenger (is6_of is7_0) hf1) (ob_6 (is6_of is7_0)) rfl yw_X6_hasPassenger wm_X8_419 rfl hl.1 rfl (Nat.le_of_ble_eq_true rfl) ⟨Nat.le_of_ble_eq_true rfl, Nat.le_of_ble_eq_true rfl⟩ ⟨Nat.le_of_ble_eq_true rfl, Nat.le_of_ble_eq_true rfl⟩ dX8_requirePassenger_8 (fr_nx rfl) (fun r9 M9 H locs ho9 B => ?_)
  obtain ⟨rfl, rfl⟩ := oi_e ho9
  refine lv_if_ne (tgt := 25) hx hb dX8_requirePassenger_11 (by decide) (fun c4 => ?_) (fun c4 => ?_)
  · have hF := it_t hF c4
    exact fr_vret C B hr hlk (by rw [← Option.some.inj hF]) (Nat.le_of_ble_eq_true rfl) (Nat.le_of_ble_eq_true rfl) dX8_requirePassenger_25
  · have hF := it_f hF (not_not_intro c4)
    exact fr_throwW C B hlt hex hlk (n := 0) (id := 61) (text := "no such passenger") xt_X8_0 (by decide +kernel) (by rw [← Option.some.inj hF]) hl.1 (Nat.le_of_ble_eq_true rfl) (Nat.le_of_ble_eq_true rfl) (Nat.le_of_ble_eq_true rfl) (Nat.le_of_ble_eq_true rfl) (Nat.le_of_ble_eq_true rfl) (Nat.le_of_ble_eq_true rfl) dX8_requirePassenger_14 dX8_requirePassenger_17 dX8_requirePassenger_18 dX8_requirePassenger_21 dX8_requirePassenger_24
def F_X8_requireSecret (M : fw_M) (a1 : Int32) : Option (fw_O) :=
  bd_x (F_X2_hasSecret M 22 a1) fun r2 =>
  if ¬ r2 = 0 then
    some (.inl 0, M)
  else
    some (.inr 0, M)
set_option maxHeartbeats 4000000 in
set_option maxRecDepth 100000 in
theorem cm_X8_requireSecret {l : Launch} {X : fw_X} {M : fw_M} {a1 : Int32} (hlt : l.stackTraces = false)  {o : fw_O} (hF : F_X8_requireSecret M a1 = some o) : ct_v l X yX8_requireSecret cX8_requireSecret 2 none ({ frames := 7, cells := 1, slots := 6, locals := 130 } : Room) M [.ref (fw_ad X 352), .int a1] o := by
  refine fw_open rfl (Nat.le_of_ble_eq_true rfl) (fun p e s m below meth c ls C hr hlk hnm hex hl B => ?_)
  have C : fr_C X p c cX8_requireSecret 2 RX8 s m ([.ref (fw_ad X 352), .int a1] : List Value).toArray := C
  have hx := C.1.1
  have hb := C.1.2.1
  have hl : lv_has ls 2 [(0, .ref (fw_ad X 352)), (1, .int a1)] := hl
  unfold F_X8_requireSecret at hF
  refine lv_aload_n hx hb dX8_requireSecret_0 rfl (lv_at hl 0 rfl) ?_
  refine gf_X8_12 C B dX8_requireSecret_1 ?_
  refine gf_X8_247 C B is7_0 dX8_requireSecret_4 ?_
  refine lv_iload_n hx hb dX8_requireSecret_7 rfl (lv_at hl 1 rfl) ?_
  obtain ⟨r2, hf1, hF⟩ := bx_e hF
  refine fr_cVi (As := [.int a1]) (rest := []) C B (cm_X2_hasSecret (is2_of is7_0) hf1) (ob_2 (is2_of is7_0)) rfl yw_X2_hasSecret wm_X8_424 rfl hl.1 rfl (Nat.le_of_ble_eq_true rfl) ⟨Nat.le_of_ble_eq_true rfl, Nat.le_of_ble_eq_true rfl⟩ ⟨Nat.le_of_ble_eq_true rfl, Nat.le_of_ble_eq_true rfl⟩ dX8_requireSecret_8 (fr_nx rfl) (fun r9 M9 H locs ho9 B => ?_)
  obtain ⟨rfl, rfl⟩ := oi_e ho9
  refine lv_if_ne (tgt := 25) hx hb dX8_requireSecret_11 (by decide) (fun c4 => ?_) (fun c4 => ?_)
  · have hF := it_t hF c4
    exact fr_vret C B hr hlk (by rw [← Option.some.inj hF]) (Nat.le_of_ble_eq_true rfl) (Nat.le_of_ble_eq_true rfl) dX8_requireSecret_25
  · have hF := it_f hF (not_not_intro c4)
    exact fr_throwW C B hlt hex hlk (n := 0) (id := 63) (text := "no such secret") xt_X8_0 (by decide +kernel) (by rw [← Option.some.inj hF]) hl.1 (Nat.le_of_ble_eq_true rfl) (Nat.le_of_ble_eq_true rfl) (Nat.le_of_ble_eq_true rfl) (Nat.le_of_ble_eq_true rfl) (Nat.le_of_ble_eq_true rfl) (Nat.le_of_ble_eq_true rfl) dX8_requireSecret_14 dX8_requireSecret_17 dX8_requireSecret_18 dX8_requireSecret_21 dX8_requireSecret_24
def F_X8_addStop (M : fw_M) (a1 : Int32) : Option (fw_O) :=
  bd_x (F_X7_faultOfStop M 0 a1) fun r2 =>
  bd_t (F_X8_refuse M r2) fun _ M6 =>
  bd_x (F_X4_remember M6 0) fun M9 =>
  bd_p (F_X3_putStop M9 1 a1) fun r11 M12 =>
  some (.inl r11, M12)
set_option maxHeartbeats 4000000 in
set_option maxRecDepth 100000 in
theorem cm_X8_addStop {l : Launch} {X : fw_X} {M : fw_M} {a1 : Int32} (hlt : l.stackTraces = false)  {o : fw_O} (hF : F_X8_addStop M a1 = some o) : ct_i l X yX8_addStop cX8_addStop 2 (some .int) ({ frames := 8, cells := 1, slots := 6, locals := 150 } : Room) M [.ref (fw_ad X 352), .int a1] o := by
  refine fw_open rfl (Nat.le_of_ble_eq_true rfl) (fun p e s m below meth c ls C hr hlk hnm hex hl B => ?_)
  have C : fr_C X p c cX8_addStop 2 RX8 s m ([.ref (fw_ad X 352), .int a1] : List Value).toArray := C
  have hx := C.1.1
  have hb := C.1.2.1
  have hl : lv_has ls 2 [(0, .ref (fw_ad X 352)), (1, .int a1)] := hl
  unfold F_X8_addStop at hF
  refine lv_aload_n hx hb dX8_addStop_0 rfl (lv_at hl 0 rfl) ?_
  refine gf_X8_12 C B dX8_addStop_1 ?_
  refine lv_iload_n hx hb dX8_addStop_4 rfl (lv_at hl 1 rfl) ?_
  obtain ⟨r2, hf1, hF⟩ := bx_e hF
  refine fr_cVi (As := [.int a1]) (rest := []) C B (cm_X7_faultOfStop is7_0 hf1) (ob_7 is7_0) rfl yw_X7_faultOfStop wm_X8_61 rfl hl.1 rfl (Nat.le_of_ble_eq_true rfl) ⟨Nat.le_of_ble_eq_true rfl, Nat.le_of_ble_eq_true rfl⟩ ⟨Nat.le_of_ble_eq_true rfl, Nat.le_of_ble_eq_true rfl⟩ dX8_addStop_5 (fr_nx rfl) (fun r9 M9 H locs ho9 B => ?_)
  obtain ⟨rfl, rfl⟩ := oi_e ho9
  obtain ⟨oc, hf4, hF⟩ := bt_e hF
  refine fr_cSv (As := [.int r2]) (rest := []) C B (cm_X8_refuse hlt hf4) yw_X8_refuse wm_X8_65 rfl hl.1 rfl (Nat.le_of_ble_eq_true rfl) ⟨Nat.le_of_ble_eq_true rfl, Nat.le_of_ble_eq_true rfl⟩ ⟨Nat.le_of_ble_eq_true rfl, Nat.le_of_ble_eq_true rfl⟩ dX8_addStop_8 (fr_thru C hex hlk (fun e9 M1 h => by subst h; exact (Option.some.inj hF).symm) (Nat.le_of_ble_eq_true rfl) (Nat.le_of_ble_eq_true rfl)) (fun M6 H locs ho9 B => ?_)
  subst ho9
  rw [bt_i] at hF
  refine lv_aload_n hx hb dX8_addStop_11 rfl (lv_at hl 0 rfl) ?_
  refine gf_X8_25 C B dX8_addStop_12 ?_
  refine lv_aload_n hx hb dX8_addStop_15 rfl (lv_at hl 0 rfl) ?_
  refine gf_X8_12 C B dX8_addStop_16 ?_
  obtain ⟨M9, hf7, hF⟩ := bx_e hF
  refine fr_cVv (As := [.ref (fw_ad X 0)]) (rest := []) C B (cm_X4_remember is7_0 hf7) ob_4 rfl yw_X4_remember wm_X8_69 rfl hl.1 rfl (Nat.le_of_ble_eq_true rfl) ⟨Nat.le_of_ble_eq_true rfl, Nat.le_of_ble_eq_true rfl⟩ ⟨Nat.le_of_ble_eq_true rfl, Nat.le_of_ble_eq_true rfl⟩ dX8_addStop_19 (fr_nx rfl) (fun M9 H locs ho9 B => ?_)
  obtain ⟨-, rfl⟩ := oi_e ho9
  refine lv_aload_n hx hb dX8_addStop_22 rfl (lv_at hl 0 rfl) ?_
  refine gf_X8_12 C B dX8_addStop_23 ?_
  refine gf_X8_73 C B is7_0 dX8_addStop_26 ?_
  refine lv_iload_n hx hb dX8_addStop_29 rfl (lv_at hl 1 rfl) ?_
  obtain ⟨r11, M12, hf10, hF⟩ := bp_e hF
  refine fr_cVi (As := [.int a1]) (rest := []) C B (cm_X3_putStop (is3_of is7_0) hf10) (ob_3 (is3_of is7_0)) rfl yw_X3_putStop wm_X8_77 rfl hl.1 rfl (Nat.le_of_ble_eq_true rfl) ⟨Nat.le_of_ble_eq_true rfl, Nat.le_of_ble_eq_true rfl⟩ ⟨Nat.le_of_ble_eq_true rfl, Nat.le_of_ble_eq_true rfl⟩ dX8_addStop_30 (fr_nx rfl) (fun r9 M9 H locs ho9 B => ?_)
  obtain ⟨rfl, rfl⟩ := oi_e ho9
  exact fr_iret C B hr rfl hlk (by rw [← Option.some.inj hF]) (Nat.le_of_ble_eq_true rfl) (Nat.le_of_ble_eq_true rfl) dX8_addStop_33
def F_X8_addLine (M : fw_M) (a1 : Int32) (a2 : Int32) : Option (fw_O) :=
  bd_x (F_X7_faultOfLine M 0 a1 a2) fun r2 =>
  bd_t (F_X8_refuse M r2) fun _ M6 =>
  bd_x (F_X4_remember M6 0) fun M9 =>
  bd_p (F_X3_putLine M9 1 a1 a2) fun r11 M12 =>
  some (.inl r11, M12)
set_option maxHeartbeats 4000000 in
set_option maxRecDepth 100000 in
theorem cm_X8_addLine {l : Launch} {X : fw_X} {M : fw_M} {a1 : Int32} {a2 : Int32} (hlt : l.stackTraces = false)  {o : fw_O} (hF : F_X8_addLine M a1 a2 = some o) : ct_i l X yX8_addLine cX8_addLine 3 (some .int) ({ frames := 8, cells := 1, slots := 6, locals := 150 } : Room) M [.ref (fw_ad X 352), .int a1, .int a2] o := by
  refine fw_open rfl (Nat.le_of_ble_eq_true rfl) (fun p e s m below meth c ls C hr hlk hnm hex hl B => ?_)
  have C : fr_C X p c cX8_addLine 3 RX8 s m ([.ref (fw_ad X 352), .int a1, .int a2] : List Value).toArray := C
  have hx := C.1.1
  have hb := C.1.2.1
  have hl : lv_has ls 3 [(0, .ref (fw_ad X 352)), (1, .int a1), (2, .int a2)] := hl
  unfold F_X8_addLine at hF
  refine lv_aload_n hx hb dX8_addLine_0 rfl (lv_at hl 0 rfl) ?_
  refine gf_X8_12 C B dX8_addLine_1 ?_
  refine lv_iload_n hx hb dX8_addLine_4 rfl (lv_at hl 1 rfl) ?_
  refine lv_iload_n hx hb dX8_addLine_5 rfl (lv_at hl 2 rfl) ?_
  obtain ⟨r2, hf1, hF⟩ := bx_e hF
  refine fr_cVi (As := [.int a1, .int a2]) (rest := []) C B (cm_X7_faultOfLine is7_0 hf1) (ob_7 is7_0) rfl yw_X7_faultOfLine wm_X8_82 rfl hl.1 rfl (Nat.le_of_ble_eq_true rfl) ⟨Nat.le_of_ble_eq_true rfl, Nat.le_of_ble_eq_true rfl⟩ ⟨Nat.le_of_ble_eq_true rfl, Nat.le_of_ble_eq_true rfl⟩ dX8_addLine_6 (fr_nx rfl) (fun r9 M9 H locs ho9 B => ?_)
  obtain ⟨rfl, rfl⟩ := oi_e ho9
  obtain ⟨oc, hf4, hF⟩ := bt_e hF
  refine fr_cSv (As := [.int r2]) (rest := []) C B (cm_X8_refuse hlt hf4) yw_X8_refuse wm_X8_65 rfl hl.1 rfl (Nat.le_of_ble_eq_true rfl) ⟨Nat.le_of_ble_eq_true rfl, Nat.le_of_ble_eq_true rfl⟩ ⟨Nat.le_of_ble_eq_true rfl, Nat.le_of_ble_eq_true rfl⟩ dX8_addLine_9 (fr_thru C hex hlk (fun e9 M1 h => by subst h; exact (Option.some.inj hF).symm) (Nat.le_of_ble_eq_true rfl) (Nat.le_of_ble_eq_true rfl)) (fun M6 H locs ho9 B => ?_)
  subst ho9
  rw [bt_i] at hF
  refine lv_aload_n hx hb dX8_addLine_12 rfl (lv_at hl 0 rfl) ?_
  refine gf_X8_25 C B dX8_addLine_13 ?_
  refine lv_aload_n hx hb dX8_addLine_16 rfl (lv_at hl 0 rfl) ?_
  refine gf_X8_12 C B dX8_addLine_17 ?_
  obtain ⟨M9, hf7, hF⟩ := bx_e hF
  refine fr_cVv (As := [.ref (fw_ad X 0)]) (rest := []) C B (cm_X4_remember is7_0 hf7) ob_4 rfl yw_X4_remember wm_X8_69 rfl hl.1 rfl (Nat.le_of_ble_eq_true rfl) ⟨Nat.le_of_ble_eq_true rfl, Nat.le_of_ble_eq_true rfl⟩ ⟨Nat.le_of_ble_eq_true rfl, Nat.le_of_ble_eq_true rfl⟩ dX8_addLine_20 (fr_nx rfl) (fun M9 H locs ho9 B => ?_)
  obtain ⟨-, rfl⟩ := oi_e ho9
  refine lv_aload_n hx hb dX8_addLine_23 rfl (lv_at hl 0 rfl) ?_
  refine gf_X8_12 C B dX8_addLine_24 ?_
  refine gf_X8_73 C B is7_0 dX8_addLine_27 ?_
  refine lv_iload_n hx hb dX8_addLine_30 rfl (lv_at hl 1 rfl) ?_
  refine lv_iload_n hx hb dX8_addLine_31 rfl (lv_at hl 2 rfl) ?_
  obtain ⟨r11, M12, hf10, hF⟩ := bp_e hF
  refine fr_cVi (As := [.int a1, .int a2]) (rest := []) C B (cm_X3_putLine (is3_of is7_0) hf10) (ob_3 (is3_of is7_0)) rfl yw_X3_putLine wm_X8_86 rfl hl.1 rfl (Nat.le_of_ble_eq_true rfl) ⟨Nat.le_of_ble_eq_true rfl, Nat.le_of_ble_eq_true rfl⟩ ⟨Nat.le_of_ble_eq_true rfl, Nat.le_of_ble_eq_true rfl⟩ dX8_addLine_32 (fr_nx rfl) (fun r9 M9 H locs ho9 B => ?_)
  obtain ⟨rfl, rfl⟩ := oi_e ho9
  exact fr_iret C B hr rfl hlk (by rw [← Option.some.inj hF]) (Nat.le_of_ble_eq_true rfl) (Nat.le_of_ble_eq_true rfl) dX8_addLine_35
def F_X8_extendLine (M : fw_M) (a1 : Int32) (a2 : Int32) : Option (fw_O) :=
  bd_x (F_X7_faultOfExtension M 0 a1 a2) fun r2 =>
  bd_t (F_X8_refuse M r2) fun _ M6 =>
  bd_x (F_X4_remember M6 0) fun M9 =>
  bd_p (F_X3_appendStop M9 1 a1 a2) fun r11 M12 =>
  some (.inl r11, M12)
set_option maxHeartbeats 4000000 in
set_option maxRecDepth 100000 in
theorem cm_X8_extendLine {l : Launch} {X : fw_X} {M : fw_M} {a1 : Int32} {a2 : Int32} (hlt : l.stackTraces = false)  {o : fw_O} (hF : F_X8_extendLine M a1 a2 = some o) : ct_i l X yX8_extendLine cX8_extendLine 3 (some .int) ({ frames := 8, cells := 1, slots := 6, locals := 150 } : Room) M [.ref (fw_ad X 352), .int a1, .int a2] o := by
  refine fw_open rfl (Nat.le_of_ble_eq_true rfl) (fun p e s m below meth c ls C hr hlk hnm hex hl B => ?_)
  have C : fr_C X p c cX8_extendLine 3 RX8 s m ([.ref (fw_ad X 352), .int a1, .int a2] : List Value).toArray := C
  have hx := C.1.1
  have hb := C.1.2.1
  have hl : lv_has ls 3 [(0, .ref (fw_ad X 352)), (1, .int a1), (2, .int a2)] := hl
  unfold F_X8_extendLine at hF
  refine lv_aload_n hx hb dX8_extendLine_0 rfl (lv_at hl 0 rfl) ?_
  refine gf_X8_12 C B dX8_extendLine_1 ?_
  refine lv_iload_n hx hb dX8_extendLine_4 rfl (lv_at hl 1 rfl) ?_
  refine lv_iload_n hx hb dX8_extendLine_5 rfl (lv_at hl 2 rfl) ?_
  obtain ⟨r2, hf1, hF⟩ := bx_e hF
  refine fr_cVi (As := [.int a1, .int a2]) (rest := []) C B (cm_X7_faultOfExtension is7_0 hf1) (ob_7 is7_0) rfl yw_X7_faultOfExtension wm_X8_89 rfl hl.1 rfl (Nat.le_of_ble_eq_true rfl) ⟨Nat.le_of_ble_eq_true rfl, Nat.le_of_ble_eq_true rfl⟩ ⟨Nat.le_of_ble_eq_true rfl, Nat.le_of_ble_eq_true rfl⟩ dX8_extendLine_6 (fr_nx rfl) (fun r9 M9 H locs ho9 B => ?_)
  obtain ⟨rfl, rfl⟩ := oi_e ho9
  obtain ⟨oc, hf4, hF⟩ := bt_e hF
  refine fr_cSv (As := [.int r2]) (rest := []) C B (cm_X8_refuse hlt hf4) yw_X8_refuse wm_X8_65 rfl hl.1 rfl (Nat.le_of_ble_eq_true rfl) ⟨Nat.le_of_ble_eq_true rfl, Nat.le_of_ble_eq_true rfl⟩ ⟨Nat.le_of_ble_eq_true rfl, Nat.le_of_ble_eq_true rfl⟩ dX8_extendLine_9 (fr_thru C hex hlk (fun e9 M1 h => by subst h; exact (Option.some.inj hF).symm) (Nat.le_of_ble_eq_true rfl) (Nat.le_of_ble_eq_true rfl)) (fun M6 H locs ho9 B => ?_)
  subst ho9
  rw [bt_i] at hF
  refine lv_aload_n hx hb dX8_extendLine_12 rfl (lv_at hl 0 rfl) ?_
  refine gf_X8_25 C B dX8_extendLine_13 ?_
  refine lv_aload_n hx hb dX8_extendLine_16 rfl (lv_at hl 0 rfl) ?_
  refine gf_X8_12 C B dX8_extendLine_17 ?_
  obtain ⟨M9, hf7, hF⟩ := bx_e hF
  refine fr_cVv (As := [.ref (fw_ad X 0)]) (rest := []) C B (cm_X4_remember is7_0 hf7) ob_4 rfl yw_X4_remember wm_X8_69 rfl hl.1 rfl (Nat.le_of_ble_eq_true rfl) ⟨Nat.le_of_ble_eq_true rfl, Nat.le_of_ble_eq_true rfl⟩ ⟨Nat.le_of_ble_eq_true rfl, Nat.le_of_ble_eq_true rfl⟩ dX8_extendLine_20 (fr_nx rfl) (fun M9 H locs ho9 B => ?_)
  obtain ⟨-, rfl⟩ := oi_e ho9
  refine lv_aload_n hx hb dX8_extendLine_23 rfl (lv_at hl 0 rfl) ?_
  refine gf_X8_12 C B dX8_extendLine_24 ?_
  refine gf_X8_73 C B is7_0 dX8_extendLine_27 ?_
  refine lv_iload_n hx hb dX8_extendLine_30 rfl (lv_at hl 1 rfl) ?_
  refine lv_iload_n hx hb dX8_extendLine_31 rfl (lv_at hl 2 rfl) ?_
  obtain ⟨r11, M12, hf10, hF⟩ := bp_e hF
  refine fr_cVi (As := [.int a1, .int a2]) (rest := []) C B (cm_X3_appendStop (is3_of is7_0) hf10) (ob_3 (is3_of is7_0)) rfl yw_X3_appendStop wm_X8_92 rfl hl.1 rfl (Nat.le_of_ble_eq_true rfl) ⟨Nat.le_of_ble_eq_true rfl, Nat.le_of_ble_eq_true rfl⟩ ⟨Nat.le_of_ble_eq_true rfl, Nat.le_of_ble_eq_true rfl⟩ dX8_extendLine_32 (fr_nx rfl) (fun r9 M9 H locs ho9 B => ?_)
  obtain ⟨rfl, rfl⟩ := oi_e ho9
  exact fr_iret C B hr rfl hlk (by rw [← Option.some.inj hF]) (Nat.le_of_ble_eq_true rfl) (Nat.le_of_ble_eq_true rfl) dX8_extendLine_35
def F_X8_zoneOf (M : fw_M) (a1 : Int32) : Option (fw_O) :=
  bd_t (F_X8_requireStop M a1) fun _ M3 =>
  if ix_i a1 10 then
  some (.inl (fw_ri M3 2 a1), M3)
  else none
set_option maxHeartbeats 4000000 in
set_option maxRecDepth 100000 in
theorem cm_X8_zoneOf {l : Launch} {X : fw_X} {M : fw_M} {a1 : Int32} (hlt : l.stackTraces = false)  {o : fw_O} (hF : F_X8_zoneOf M a1 = some o) : ct_i l X yX8_zoneOf cX8_zoneOf 2 (some .int) ({ frames := 8, cells := 1, slots := 6, locals := 151 } : Room) M [.ref (fw_ad X 352), .int a1] o := by
  refine fw_open rfl (Nat.le_of_ble_eq_true rfl) (fun p e s m below meth c ls C hr hlk hnm hex hl B => ?_)
  have C : fr_C X p c cX8_zoneOf 2 RX8 s m ([.ref (fw_ad X 352), .int a1] : List Value).toArray := C
  have hx := C.1.1
  have hb := C.1.2.1
  have hl : lv_has ls 2 [(0, .ref (fw_ad X 352)), (1, .int a1)] := hl
  unfold F_X8_zoneOf at hF
  refine lv_aload_n hx hb dX8_zoneOf_0 rfl (lv_at hl 0 rfl) ?_
  refine lv_iload_n hx hb dX8_zoneOf_1 rfl (lv_at hl 1 rfl) ?_
  obtain ⟨oc, hf1, hF⟩ := bt_e hF
  refine fr_cVv (As := [.int a1]) (rest := []) C B (cm_X8_requireStop hlt hf1) ob_8 rfl yw_X8_requireStop wm_X8_98 rfl hl.1 rfl (Nat.le_of_ble_eq_true rfl) ⟨Nat.le_of_ble_eq_true rfl, Nat.le_of_ble_eq_true rfl⟩ ⟨Nat.le_of_ble_eq_true rfl, Nat.le_of_ble_eq_true rfl⟩ dX8_zoneOf_2 (fr_thru C hex hlk (fun e9 M1 h => by subst h; exact (Option.some.inj hF).symm) (Nat.le_of_ble_eq_true rfl) (Nat.le_of_ble_eq_true rfl)) (fun M3 H locs ho9 B => ?_)
  subst ho9
  rw [bt_i] at hF
  refine lv_aload_n hx hb dX8_zoneOf_5 rfl (lv_at hl 0 rfl) ?_
  refine gf_X8_12 C B dX8_zoneOf_6 ?_
  refine gf_X8_73 C B is7_0 dX8_zoneOf_9 ?_
  refine gf_X8_101 C B (is3_of is7_0) dX8_zoneOf_12 ?_
  refine lv_iload_n hx hb dX8_zoneOf_15 rfl (lv_at hl 1 rfl) ?_
  obtain ⟨c4, hF⟩ := of_g hF
  refine fr_ia C B (ar_3_1 (is3_of is7_0)) c4 dX8_zoneOf_16 ?_
  exact fr_iret C B hr rfl hlk (by rw [← Option.some.inj hF]) (Nat.le_of_ble_eq_true rfl) (Nat.le_of_ble_eq_true rfl) dX8_zoneOf_17
def F_X8_isTerminus (M : fw_M) (a1 : Int32) : Option (fw_O) :=
  bd_t (F_X8_requireStop M a1) fun _ M3 =>
  bd_x (F_X3_isEnd M3 1 a1) fun r5 =>
  if (r5 = 0 ∨ r5 = 1) then
  some (.inl r5, M3)
  else none
set_option maxHeartbeats 4000000 in
set_option maxRecDepth 100000 in
theorem cm_X8_isTerminus {l : Launch} {X : fw_X} {M : fw_M} {a1 : Int32} (hlt : l.stackTraces = false)  {o : fw_O} (hF : F_X8_isTerminus M a1 = some o) : ct_i l X yX8_isTerminus cX8_isTerminus 2 (some .boolean) ({ frames := 8, cells := 1, slots := 6, locals := 151 } : Room) M [.ref (fw_ad X 352), .int a1] o := by
  refine fw_open rfl (Nat.le_of_ble_eq_true rfl) (fun p e s m below meth c ls C hr hlk hnm hex hl B => ?_)
  have C : fr_C X p c cX8_isTerminus 2 RX8 s m ([.ref (fw_ad X 352), .int a1] : List Value).toArray := C
  have hx := C.1.1
  have hb := C.1.2.1
  have hl : lv_has ls 2 [(0, .ref (fw_ad X 352)), (1, .int a1)] := hl
  unfold F_X8_isTerminus at hF
  refine lv_aload_n hx hb dX8_isTerminus_0 rfl (lv_at hl 0 rfl) ?_
  refine lv_iload_n hx hb dX8_isTerminus_1 rfl (lv_at hl 1 rfl) ?_
  obtain ⟨oc, hf1, hF⟩ := bt_e hF
  refine fr_cVv (As := [.int a1]) (rest := []) C B (cm_X8_requireStop hlt hf1) ob_8 rfl yw_X8_requireStop wm_X8_98 rfl hl.1 rfl (Nat.le_of_ble_eq_true rfl) ⟨Nat.le_of_ble_eq_true rfl, Nat.le_of_ble_eq_true rfl⟩ ⟨Nat.le_of_ble_eq_true rfl, Nat.le_of_ble_eq_true rfl⟩ dX8_isTerminus_2 (fr_thru C hex hlk (fun e9 M1 h => by subst h; exact (Option.some.inj hF).symm) (Nat.le_of_ble_eq_true rfl) (Nat.le_of_ble_eq_true rfl)) (fun M3 H locs ho9 B => ?_)
  subst ho9
  rw [bt_i] at hF
  refine lv_aload_n hx hb dX8_isTerminus_5 rfl (lv_at hl 0 rfl) ?_
  refine gf_X8_12 C B dX8_isTerminus_6 ?_
  refine gf_X8_73 C B is7_0 dX8_isTerminus_9 ?_
  refine lv_iload_n hx hb dX8_isTerminus_12 rfl (lv_at hl 1 rfl) ?_
  obtain ⟨r5, hf4, hF⟩ := bx_e hF
  refine fr_cVi (As := [.int a1]) (rest := []) C B (cm_X3_isEnd (is3_of is7_0) hf4) (ob_3 (is3_of is7_0)) rfl yw_X3_isEnd wm_X8_105 rfl hl.1 rfl (Nat.le_of_ble_eq_true rfl) ⟨Nat.le_of_ble_eq_true rfl, Nat.le_of_ble_eq_true rfl⟩ ⟨Nat.le_of_ble_eq_true rfl, Nat.le_of_ble_eq_true rfl⟩ dX8_isTerminus_13 (fr_nx rfl) (fun r9 M9 H locs ho9 B => ?_)
  obtain ⟨rfl, rfl⟩ := oi_e ho9
  obtain ⟨c7, hF⟩ := of_g hF
  exact fr_iret C B hr (nz_b c7) hlk (by rw [← Option.some.inj hF]) (Nat.le_of_ble_eq_true rfl) (Nat.le_of_ble_eq_true rfl) dX8_isTerminus_16
def F_X8_lineLength (M : fw_M) (a1 : Int32) : Option (fw_O) :=
  bd_t (F_X8_requireLine M a1) fun _ M3 =>
  if ix_i a1 5 then
  some (.inl (fw_ri M3 3 a1), M3)
  else none
set_option maxHeartbeats 4000000 in
set_option maxRecDepth 100000 in
theorem cm_X8_lineLength {l : Launch} {X : fw_X} {M : fw_M} {a1 : Int32} (hlt : l.stackTraces = false)  {o : fw_O} (hF : F_X8_lineLength M a1 = some o) : ct_i l X yX8_lineLength cX8_lineLength 2 (some .int) ({ frames := 8, cells := 1, slots := 6, locals := 151 } : Room) M [.ref (fw_ad X 352), .int a1] o := by
  refine fw_open rfl (Nat.le_of_ble_eq_true rfl) (fun p e s m below meth c ls C hr hlk hnm hex hl B => ?_)
  have C : fr_C X p c cX8_lineLength 2 RX8 s m ([.ref (fw_ad X 352), .int a1] : List Value).toArray := C
  have hx := C.1.1
  have hb := C.1.2.1
  have hl : lv_has ls 2 [(0, .ref (fw_ad X 352)), (1, .int a1)] := hl
  unfold F_X8_lineLength at hF
  refine lv_aload_n hx hb dX8_lineLength_0 rfl (lv_at hl 0 rfl) ?_
  refine lv_iload_n hx hb dX8_lineLength_1 rfl (lv_at hl 1 rfl) ?_
  obtain ⟨oc, hf1, hF⟩ := bt_e hF
  refine fr_cVv (As := [.int a1]) (rest := []) C B (cm_X8_requireLine hlt hf1) ob_8 rfl yw_X8_requireLine wm_X8_112 rfl hl.1 rfl (Nat.le_of_ble_eq_true rfl) ⟨Nat.le_of_ble_eq_true rfl, Nat.le_of_ble_eq_true rfl⟩ ⟨Nat.le_of_ble_eq_true rfl, Nat.le_of_ble_eq_true rfl⟩ dX8_lineLength_2 (fr_thru C hex hlk (fun e9 M1 h => by subst h; exact (Option.some.inj hF).symm) (Nat.le_of_ble_eq_true rfl) (Nat.le_of_ble_eq_true rfl)) (fun M3 H locs ho9 B => ?_)
  subst ho9
  rw [bt_i] at hF
  refine lv_aload_n hx hb dX8_lineLength_5 rfl (lv_at hl 0 rfl) ?_
  refine gf_X8_12 C B dX8_lineLength_6 ?_
  refine gf_X8_73 C B is7_0 dX8_lineLength_9 ?_
  refine gf_X8_115 C B (is3_of is7_0) dX8_lineLength_12 ?_
  refine lv_iload_n hx hb dX8_lineLength_15 rfl (lv_at hl 1 rfl) ?_
  obtain ⟨c4, hF⟩ := of_g hF
  refine fr_ia C B (ar_3_2 (is3_of is7_0)) c4 dX8_lineLength_16 ?_
  exact fr_iret C B hr rfl hlk (by rw [← Option.some.inj hF]) (Nat.le_of_ble_eq_true rfl) (Nat.le_of_ble_eq_true rfl) dX8_lineLength_17
def F_X8_stopAt (M : fw_M) (a1 : Int32) (a2 : Int32) : Option (fw_O) :=
  bd_t (F_X8_requireLine M a1) fun _ M3 =>
  if a2 < 0 then
    some (.inr 3, M3)
  else
    if ix_i a1 5 then
    if a2 < (fw_ri M3 3 a1) then
      if ix_i a2 6 then
      some (.inl (fw_ri M3 (1 + 4 + a1.toNatClampNeg) a2), M3)
      else none
    else
      some (.inr 3, M3)
    else none
set_option maxHeartbeats 4000000 in
set_option maxRecDepth 100000 in
theorem cm_X8_stopAt {l : Launch} {X : fw_X} {M : fw_M} {a1 : Int32} {a2 : Int32} (hlt : l.stackTraces = false)  {o : fw_O} (hF : F_X8_stopAt M a1 a2 = some o) : ct_i l X yX8_stopAt cX8_stopAt 3 (some .int) ({ frames := 8, cells := 2, slots := 12, locals := 151 } : Room) M [.ref (fw_ad X 352), .int a1, .int a2] o := by
  refine fw_open rfl (Nat.le_of_ble_eq_true rfl) (fun p e s m below meth c ls C hr hlk hnm hex hl B => ?_)
  have C : fr_C X p c cX8_stopAt 3 RX8 s m ([.ref (fw_ad X 352), .int a1, .int a2] : List Value).toArray := C
  have hx := C.1.1
  have hb := C.1.2.1
  have hl : lv_has ls 3 [(0, .ref (fw_ad X 352)), (1, .int a1), (2, .int a2)] := hl
  unfold F_X8_stopAt at hF
  refine lv_aload_n hx hb dX8_stopAt_0 rfl (lv_at hl 0 rfl) ?_
  refine lv_iload_n hx hb dX8_stopAt_1 rfl (lv_at hl 1 rfl) ?_
  obtain ⟨oc, hf1, hF⟩ := bt_e hF
  refine fr_cVv (As := [.int a1]) (rest := []) C B (cm_X8_requireLine hlt hf1) ob_8 rfl yw_X8_requireLine wm_X8_112 rfl hl.1 rfl (Nat.le_of_ble_eq_true rfl) ⟨Nat.le_of_ble_eq_true rfl, Nat.le_of_ble_eq_true rfl⟩ ⟨Nat.le_of_ble_eq_true rfl, Nat.le_of_ble_eq_true rfl⟩ dX8_stopAt_2 (fr_thru C hex hlk (fun e9 M1 h => by subst h; exact (Option.some.inj hF).symm) (Nat.le_of_ble_eq_true rfl) (Nat.le_of_ble_eq_true rfl)) (fun M3 H locs ho9 B => ?_)
  subst ho9
  rw [bt_i] at hF
  refine lv_iload_n hx hb dX8_stopAt_5 rfl (lv_at hl 2 rfl) ?_
  refine lv_if_lt (tgt := 25) hx hb dX8_stopAt_6 (by decide) (fun c4 => ?_) (fun c4 => ?_)
  · have hF := it_t hF c4
    exact fr_throwN C B hlt hex hlk (pk := 31) (id := 57) (text := "no such position") xt_X8_3 (by decide +kernel) (by rw [← Option.some.inj hF]) hl.1 (Nat.le_of_ble_eq_true rfl) (Nat.le_of_ble_eq_true rfl) (Nat.le_of_ble_eq_true rfl) (Nat.le_of_ble_eq_true rfl) (Nat.le_of_ble_eq_true rfl) (Nat.le_of_ble_eq_true rfl) dX8_stopAt_25 dX8_stopAt_28 (.inl ⟨dX8_stopAt_29, rfl⟩) dX8_stopAt_31 dX8_stopAt_34
  · have hF := it_f hF c4
    refine lv_iload_n hx hb dX8_stopAt_9 rfl (lv_at hl 2 rfl) ?_
    refine lv_aload_n hx hb dX8_stopAt_10 rfl (lv_at hl 0 rfl) ?_
    refine gf_X8_12 C B dX8_stopAt_11 ?_
    refine gf_X8_73 C B is7_0 dX8_stopAt_14 ?_
    refine gf_X8_115 C B (is3_of is7_0) dX8_stopAt_17 ?_
    refine lv_iload_n hx hb dX8_stopAt_20 rfl (lv_at hl 1 rfl) ?_
    obtain ⟨c5, hF⟩ := of_g hF
    refine fr_ia C B (ar_3_2 (is3_of is7_0)) c5 dX8_stopAt_21 ?_
    refine lv_icmp_lt (tgt := 35) hx hb dX8_stopAt_22 (by decide) (fun c6 => ?_) (fun c6 => ?_)
    · have hF := it_t hF c6
      refine lv_aload_n hx hb dX8_stopAt_35 rfl (lv_at hl 0 rfl) ?_
      refine gf_X8_12 C B dX8_stopAt_36 ?_
      refine gf_X8_73 C B is7_0 dX8_stopAt_39 ?_
      refine gf_X8_125 C B (is3_of is7_0) dX8_stopAt_42 ?_
      refine lv_iload_n hx hb dX8_stopAt_45 rfl (lv_at hl 1 rfl) ?_
      refine fr_aa C B (aq_3 (is3_of is7_0)) c5 dX8_stopAt_46 ?_
      refine lv_iload_n hx hb dX8_stopAt_47 rfl (lv_at hl 2 rfl) ?_
      obtain ⟨c7, hF⟩ := of_g hF
      refine fr_ia C B (ar_3_row (is3_of is7_0) (ix_lt c5)) c7 dX8_stopAt_48 ?_
      exact fr_iret C B hr rfl hlk (by rw [← Option.some.inj hF]) (Nat.le_of_ble_eq_true rfl) (Nat.le_of_ble_eq_true rfl) dX8_stopAt_49
    · have hF := it_f hF c6
      exact fr_throwN C B hlt hex hlk (pk := 31) (id := 57) (text := "no such position") xt_X8_3 (by decide +kernel) (by rw [← Option.some.inj hF]) hl.1 (Nat.le_of_ble_eq_true rfl) (Nat.le_of_ble_eq_true rfl) (Nat.le_of_ble_eq_true rfl) (Nat.le_of_ble_eq_true rfl) (Nat.le_of_ble_eq_true rfl) (Nat.le_of_ble_eq_true rfl) dX8_stopAt_25 dX8_stopAt_28 (.inl ⟨dX8_stopAt_29, rfl⟩) dX8_stopAt_31 dX8_stopAt_34
def F_X8_commonStops (M : fw_M) (a1 : Int32) (a2 : Int32) : Option (fw_O) :=
  bd_t (F_X8_requireLine M a1) fun _ M3 =>
  bd_t (F_X8_requireLine M3 a2) fun _ M6 =>
  if ix_i a1 5 then
  if ix_i a2 5 then
  bd_x (F_J6_bitCount_0f7a4 M6 ((fw_ri M6 10 a1) &&& (fw_ri M6 10 a2))) fun r10 =>
  some (.inl r10, M6)
  else none
  else none
set_option maxHeartbeats 4000000 in
set_option maxRecDepth 100000 in
theorem cm_X8_commonStops {l : Launch} {X : fw_X} {M : fw_M} {a1 : Int32} {a2 : Int32} (hlt : l.stackTraces = false)  {o : fw_O} (hF : F_X8_commonStops M a1 a2 = some o) : ct_i l X yX8_commonStops cX8_commonStops 3 (some .int) ({ frames := 8, cells := 2, slots := 12, locals := 151 } : Room) M [.ref (fw_ad X 352), .int a1, .int a2] o := by
  refine fw_open rfl (Nat.le_of_ble_eq_true rfl) (fun p e s m below meth c ls C hr hlk hnm hex hl B => ?_)
  have C : fr_C X p c cX8_commonStops 3 RX8 s m ([.ref (fw_ad X 352), .int a1, .int a2] : List Value).toArray := C
  have hx := C.1.1
  have hb := C.1.2.1
  have hl : lv_has ls 3 [(0, .ref (fw_ad X 352)), (1, .int a1), (2, .int a2)] := hl
  unfold F_X8_commonStops at hF
  refine lv_aload_n hx hb dX8_commonStops_0 rfl (lv_at hl 0 rfl) ?_
  refine lv_iload_n hx hb dX8_commonStops_1 rfl (lv_at hl 1 rfl) ?_
  obtain ⟨oc, hf1, hF⟩ := bt_e hF
  refine fr_cVv (As := [.int a1]) (rest := []) C B (cm_X8_requireLine hlt hf1) ob_8 rfl yw_X8_requireLine wm_X8_112 rfl hl.1 rfl (Nat.le_of_ble_eq_true rfl) ⟨Nat.le_of_ble_eq_true rfl, Nat.le_of_ble_eq_true rfl⟩ ⟨Nat.le_of_ble_eq_true rfl, Nat.le_of_ble_eq_true rfl⟩ dX8_commonStops_2 (fr_thru C hex hlk (fun e9 M1 h => by subst h; exact (Option.some.inj hF).symm) (Nat.le_of_ble_eq_true rfl) (Nat.le_of_ble_eq_true rfl)) (fun M3 H locs ho9 B => ?_)
  subst ho9
  rw [bt_i] at hF
  refine lv_aload_n hx hb dX8_commonStops_5 rfl (lv_at hl 0 rfl) ?_
  refine lv_iload_n hx hb dX8_commonStops_6 rfl (lv_at hl 2 rfl) ?_
  obtain ⟨oc, hf4, hF⟩ := bt_e hF
  refine fr_cVv (As := [.int a2]) (rest := []) C B (cm_X8_requireLine hlt hf4) ob_8 rfl yw_X8_requireLine wm_X8_112 rfl hl.1 rfl (Nat.le_of_ble_eq_true rfl) ⟨Nat.le_of_ble_eq_true rfl, Nat.le_of_ble_eq_true rfl⟩ ⟨Nat.le_of_ble_eq_true rfl, Nat.le_of_ble_eq_true rfl⟩ dX8_commonStops_7 (fr_thru C hex hlk (fun e9 M1 h => by subst h; exact (Option.some.inj hF).symm) (Nat.le_of_ble_eq_true rfl) (Nat.le_of_ble_eq_true rfl)) (fun M6 H locs ho9 B => ?_)
  subst ho9
  rw [bt_i] at hF
  refine lv_aload_n hx hb dX8_commonStops_10 rfl (lv_at hl 0 rfl) ?_
  refine gf_X8_12 C B dX8_commonStops_11 ?_
  refine gf_X8_73 C B is7_0 dX8_commonStops_14 ?_
  refine gf_X8_129 C B (is3_of is7_0) dX8_commonStops_17 ?_
  refine lv_iload_n hx hb dX8_commonStops_20 rfl (lv_at hl 1 rfl) ?_
  obtain ⟨c7, hF⟩ := of_g hF
  refine fr_ia C B (ar_3_9 (is3_of is7_0)) c7 dX8_commonStops_21 ?_
  refine lv_aload_n hx hb dX8_commonStops_22 rfl (lv_at hl 0 rfl) ?_
  refine gf_X8_12 C B dX8_commonStops_23 ?_
  refine gf_X8_73 C B is7_0 dX8_commonStops_26 ?_
  refine gf_X8_129 C B (is3_of is7_0) dX8_commonStops_29 ?_
  refine lv_iload_n hx hb dX8_commonStops_32 rfl (lv_at hl 2 rfl) ?_
  obtain ⟨c8, hF⟩ := of_g hF
  refine fr_ia C B (ar_3_9 (is3_of is7_0)) c8 dX8_commonStops_33 ?_
  refine lv_iand hx hb dX8_commonStops_34 ?_
  obtain ⟨r10, hf9, hF⟩ := bx_e hF
  refine fr_cSi (As := [.int ((fw_ri M6 10 a1) &&& (fw_ri M6 10 a2))]) (rest := []) C B (cm_J6_bitCount_0f7a4 hf9) yw_J6_bitCount_0f7a4 wm_X8_132 rfl hl.1 rfl (Nat.le_of_ble_eq_true rfl) ⟨Nat.le_of_ble_eq_true rfl, Nat.le_of_ble_eq_true rfl⟩ ⟨Nat.le_of_ble_eq_true rfl, Nat.le_of_ble_eq_true rfl⟩ dX8_commonStops_35 (fr_nx rfl) (fun r9 M9 H locs ho9 B => ?_)
  obtain ⟨rfl, rfl⟩ := oi_e ho9
  exact fr_iret C B hr rfl hlk (by rw [← Option.some.inj hF]) (Nat.le_of_ble_eq_true rfl) (Nat.le_of_ble_eq_true rfl) dX8_commonStops_38
