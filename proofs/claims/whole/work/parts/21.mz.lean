def F_X8_isZone (M : fw_M) (a1 : Int32) : Option (Int32) :=
  if a1 < 0 then
    some 0
  else
    if 4 ≤ a1 then
      some 0
    else
      some 1
set_option maxHeartbeats 4000000 in
set_option maxRecDepth 100000 in
theorem cm_X8_isZone {l : Launch} {X : fw_X} {M : fw_M} {a1 : Int32}  {o : Int32} (hF : F_X8_isZone M a1 = some o) : ct_i l X yX8_isZone cX8_isZone 1 (some .boolean) ({ frames := 0, cells := 0, slots := 0, locals := 0 } : Room) M [.int a1] (.inl o, M) := by
  refine fw_open rfl (Nat.le_of_ble_eq_true rfl) (fun p e s m below meth c ls C hr hlk hnm hex hl B => ?_)
  have C : fr_C X p c cX8_isZone 1 RX8 s m ([.int a1] : List Value).toArray := C
  have hx := C.1.1
  have hb := C.1.2.1
  have hl : lv_has ls 1 [(0, .int a1)] := hl
  unfold F_X8_isZone at hF
  refine lv_iload_n hx hb dX8_isZone_0 rfl (lv_at hl 0 rfl) ?_
  refine lv_if_lt (tgt := 13) hx hb dX8_isZone_1 (by decide) (fun c1 => ?_) (fun c1 => ?_)
  · have hF := it_t hF c1
    refine lv_iconst (v := 0) hx hb dX8_isZone_13 (by decide) ?_
    exact fr_iret C B hr rfl hlk (by rw [← Option.some.inj hF]) (Nat.le_of_ble_eq_true rfl) (Nat.le_of_ble_eq_true rfl) dX8_isZone_14
  · have hF := it_f hF c1
    refine lv_iload_n hx hb dX8_isZone_4 rfl (lv_at hl 0 rfl) ?_
    refine lv_iconst (v := 4) hx hb dX8_isZone_5 (by decide) ?_
    refine lv_icmp_ge (tgt := 13) hx hb dX8_isZone_6 (by decide) (fun c2 => ?_) (fun c2 => ?_)
    · have hF := it_t hF c2
      refine lv_iconst (v := 0) hx hb dX8_isZone_13 (by decide) ?_
      exact fr_iret C B hr rfl hlk (by rw [← Option.some.inj hF]) (Nat.le_of_ble_eq_true rfl) (Nat.le_of_ble_eq_true rfl) dX8_isZone_14
    · have hF := it_f hF c2
      refine lv_iconst (v := 1) hx hb dX8_isZone_9 (by decide) ?_
      refine lv_goto (tgt := 14) hx hb dX8_isZone_10 (by decide) ?_
      exact fr_iret C B hr rfl hlk (by rw [← Option.some.inj hF]) (Nat.le_of_ble_eq_true rfl) (Nat.le_of_ble_eq_true rfl) dX8_isZone_14
def F_X8_refuse (M : fw_M) (a1 : Int32) : Option (fw_O) :=
  if a1 = 1 then
    some (.inr 0, M)
  else
  if a1 = 2 then
    some (.inr 1, M)
  else
  if a1 = 3 then
    some (.inr 2, M)
  else
  if a1 = 4 then
    some (.inr 3, M)
  else
  if a1 = 5 then
    some (.inr 4, M)
  else
  some (.inl 0, M)
set_option maxHeartbeats 4000000 in
set_option maxRecDepth 100000 in
theorem cm_X8_refuse {l : Launch} {X : fw_X} {M : fw_M} {a1 : Int32} (hlt : l.stackTraces = false)  {o : fw_O} (hF : F_X8_refuse M a1 = some o) : ct_v l X yX8_refuse cX8_refuse 1 none ({ frames := 7, cells := 1, slots := 6, locals := 130 } : Room) M [.int a1] o := by
  refine fw_open rfl (Nat.le_of_ble_eq_true rfl) (fun p e s m below meth c ls C hr hlk hnm hex hl B => ?_)
  have C : fr_C X p c cX8_refuse 1 RX8 s m ([.int a1] : List Value).toArray := C
  have hx := C.1.1
  have hb := C.1.2.1
  have hl : lv_has ls 1 [(0, .int a1)] := hl
  unfold F_X8_refuse at hF
  refine lv_iload_n hx hb dX8_refuse_0 rfl (lv_at hl 0 rfl) ?_
  by_cases c1 : a1 = 1
  · have hF := it_t hF c1
    refine lv_tableIn (tgt := 36) hx hb dX8_refuse_1 (by rw [c1]; decide) (by rw [c1]; decide) (by rw [c1]; rfl) (by decide) ?_
    exact fr_throwW C B hlt hex hlk (n := 0) (id := 50) (text := "no such number") xt_X8_0 (by decide +kernel) (by rw [← Option.some.inj hF]) hl.1 (Nat.le_of_ble_eq_true rfl) (Nat.le_of_ble_eq_true rfl) (Nat.le_of_ble_eq_true rfl) (Nat.le_of_ble_eq_true rfl) (Nat.le_of_ble_eq_true rfl) (Nat.le_of_ble_eq_true rfl) dX8_refuse_36 dX8_refuse_39 dX8_refuse_40 dX8_refuse_43 dX8_refuse_46
  have hF := it_f hF c1
  by_cases c2 : a1 = 2
  · have hF := it_t hF c2
    refine lv_tableIn (tgt := 47) hx hb dX8_refuse_1 (by rw [c2]; decide) (by rw [c2]; decide) (by rw [c2]; rfl) (by decide) ?_
    exact fr_throwW C B hlt hex hlk (n := 1) (id := 51) (text := "an argument is out of range") xt_X8_1 (by decide +kernel) (by rw [← Option.some.inj hF]) hl.1 (Nat.le_of_ble_eq_true rfl) (Nat.le_of_ble_eq_true rfl) (Nat.le_of_ble_eq_true rfl) (Nat.le_of_ble_eq_true rfl) (Nat.le_of_ble_eq_true rfl) (Nat.le_of_ble_eq_true rfl) dX8_refuse_47 dX8_refuse_50 dX8_refuse_51 dX8_refuse_54 dX8_refuse_57
  have hF := it_f hF c2
  by_cases c3 : a1 = 3
  · have hF := it_t hF c3
    refine lv_tableIn (tgt := 58) hx hb dX8_refuse_1 (by rw [c3]; decide) (by rw [c3]; decide) (by rw [c3]; rfl) (by decide) ?_
    exact fr_throwW C B hlt hex hlk (n := 2) (id := 52) (text := "not possible in this state") xt_X8_2 (by decide +kernel) (by rw [← Option.some.inj hF]) hl.1 (Nat.le_of_ble_eq_true rfl) (Nat.le_of_ble_eq_true rfl) (Nat.le_of_ble_eq_true rfl) (Nat.le_of_ble_eq_true rfl) (Nat.le_of_ble_eq_true rfl) (Nat.le_of_ble_eq_true rfl) dX8_refuse_58 dX8_refuse_61 dX8_refuse_62 dX8_refuse_65 dX8_refuse_68
  have hF := it_f hF c3
  by_cases c4 : a1 = 4
  · have hF := it_t hF c4
    refine lv_tableIn (tgt := 69) hx hb dX8_refuse_1 (by rw [c4]; decide) (by rw [c4]; decide) (by rw [c4]; rfl) (by decide) ?_
    exact fr_throwN C B hlt hex hlk (pk := 76) (id := 53) (text := "the tram is not at the stop") xt_X8_3 (by decide +kernel) (by rw [← Option.some.inj hF]) hl.1 (Nat.le_of_ble_eq_true rfl) (Nat.le_of_ble_eq_true rfl) (Nat.le_of_ble_eq_true rfl) (Nat.le_of_ble_eq_true rfl) (Nat.le_of_ble_eq_true rfl) (Nat.le_of_ble_eq_true rfl) dX8_refuse_69 dX8_refuse_72 (.inr ⟨dX8_refuse_73, rfl⟩) dX8_refuse_76 dX8_refuse_79
  have hF := it_f hF c4
  by_cases c5 : a1 = 5
  · have hF := it_t hF c5
    refine lv_tableIn (tgt := 80) hx hb dX8_refuse_1 (by rw [c5]; decide) (by rw [c5]; decide) (by rw [c5]; rfl) (by decide) ?_
    exact fr_throwW C B hlt hex hlk (n := 4) (id := 54) (text := "not allowed") xt_X8_4 (by decide +kernel) (by rw [← Option.some.inj hF]) hl.1 (Nat.le_of_ble_eq_true rfl) (Nat.le_of_ble_eq_true rfl) (Nat.le_of_ble_eq_true rfl) (Nat.le_of_ble_eq_true rfl) (Nat.le_of_ble_eq_true rfl) (Nat.le_of_ble_eq_true rfl) dX8_refuse_80 dX8_refuse_83 dX8_refuse_84 dX8_refuse_87 dX8_refuse_90
  have hF := it_f hF c5
  refine fr_sw (tgt := 91) hx hb dX8_refuse_1 ?_ (by decide) ?_
  · intro v h1 h2 h3
    rcases (show v = 1 ∨ v = 2 ∨ v = 3 ∨ v = 4 ∨ v = 5 by omega) with rfl | rfl | rfl | rfl | rfl
    · exact absurd h3 c1
    · exact absurd h3 c2
    · exact absurd h3 c3
    · exact absurd h3 c4
    · exact absurd h3 c5
  exact fr_vret C B hr hlk (by rw [← Option.some.inj hF]) (Nat.le_of_ble_eq_true rfl) (Nat.le_of_ble_eq_true rfl) dX8_refuse_91
def F_X8_found (M : fw_M) (a1 : Int32) : Option (fw_O) :=
  if ¬ a1 = (-1) then
    some (.inl a1, M)
  else
    some (.inr 3, M)
set_option maxHeartbeats 4000000 in
set_option maxRecDepth 100000 in
theorem cm_X8_found {l : Launch} {X : fw_X} {M : fw_M} {a1 : Int32} (hlt : l.stackTraces = false)  {o : fw_O} (hF : F_X8_found M a1 = some o) : ct_i l X yX8_found cX8_found 1 (some .int) ({ frames := 7, cells := 1, slots := 6, locals := 130 } : Room) M [.int a1] o := by
  refine fw_open rfl (Nat.le_of_ble_eq_true rfl) (fun p e s m below meth c ls C hr hlk hnm hex hl B => ?_)
  have C : fr_C X p c cX8_found 1 RX8 s m ([.int a1] : List Value).toArray := C
  have hx := C.1.1
  have hb := C.1.2.1
  have hl : lv_has ls 1 [(0, .int a1)] := hl
  unfold F_X8_found at hF
  refine lv_iload_n hx hb dX8_found_0 rfl (lv_at hl 0 rfl) ?_
  refine lv_iconst (v := (-1)) hx hb dX8_found_1 (by decide) ?_
  refine lv_icmp_ne (tgt := 16) hx hb dX8_found_2 (by decide) (fun c1 => ?_) (fun c1 => ?_)
  · have hF := it_t hF c1
    refine lv_iload_n hx hb dX8_found_16 rfl (lv_at hl 0 rfl) ?_
    exact fr_iret C B hr rfl hlk (by rw [← Option.some.inj hF]) (Nat.le_of_ble_eq_true rfl) (Nat.le_of_ble_eq_true rfl) dX8_found_17
  · have hF := it_f hF (not_not_intro c1)
    exact fr_throwN C B hlt hex hlk (pk := 12) (id := 60) (text := "nothing found") xt_X8_3 (by decide +kernel) (by rw [← Option.some.inj hF]) hl.1 (Nat.le_of_ble_eq_true rfl) (Nat.le_of_ble_eq_true rfl) (Nat.le_of_ble_eq_true rfl) (Nat.le_of_ble_eq_true rfl) (Nat.le_of_ble_eq_true rfl) (Nat.le_of_ble_eq_true rfl) dX8_found_5 dX8_found_8 (.inr ⟨dX8_found_9, rfl⟩) dX8_found_12 dX8_found_15
