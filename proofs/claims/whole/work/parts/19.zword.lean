def F_X0_wordOf (M : fw_M) (a1 : Int32) : Option (Nat) :=
  if a1 = 0 then
    some 0
  else
  if a1 = 1 then
    some 1
  else
  if a1 = 2 then
    some 2
  else
  if a1 = 3 then
    some 3
  else
  if a1 = 4 then
    some 4
  else
  if a1 = 5 then
    some 5
  else
  if a1 = 6 then
    some 6
  else
  if a1 = 7 then
    some 7
  else
  if a1 = 8 then
    some 8
  else
  if a1 = 9 then
    some 9
  else
  some 10
set_option maxHeartbeats 4000000 in
set_option maxRecDepth 100000 in
theorem cr_X0_wordOf {l : Launch} {X : fw_X} {M : fw_M} {a1 : Int32}   {o : Nat} (hF : F_X0_wordOf M a1 = some o) : ct_r l X yX0_wordOf cX0_wordOf 1 (some (.object "java/lang/String")) ({ frames := 0, cells := 0, slots := 0, locals := 0 } : Room) M [.int a1] (some (.ref (fw_sg X (10 + o)))) := by
  refine fw_openR rfl (Nat.le_of_ble_eq_true rfl) (fun p e s m below meth c ls b C hr hlk hl B => ?_)
  have C : fr_C X p c cX0_wordOf 1 RX0 s m ([.int a1] : List Value).toArray := C
  have hx := C.1.1
  have hb := C.1.2.1
  have hl : lv_has ls 1 [(0, .int a1)] := hl
  unfold F_X0_wordOf at hF
  refine lv_iload_n hx hb dX0_wordOf_0 rfl (lv_at hl 0 rfl) ?_
  by_cases c1 : a1 = 0
  · have hF := it_t hF c1
    refine lv_tableIn (tgt := 56) hx hb dX0_wordOf_1 (by rw [c1]; decide) (by rw [c1]; decide) (by rw [c1]; rfl) (by decide) ?_
    refine fr_ldcs (id := 10) (text := "stop") C (by decide +kernel) dX0_wordOf_56 ?_
    exact jr_a C hr hlk (by rw [← Option.some.inj hF]) dX0_wordOf_58
  have hF := it_f hF c1
  by_cases c2 : a1 = 1
  · have hF := it_t hF c2
    refine lv_tableIn (tgt := 59) hx hb dX0_wordOf_1 (by rw [c2]; decide) (by rw [c2]; decide) (by rw [c2]; rfl) (by decide) ?_
    refine fr_ldcs (id := 11) (text := "line") C (by decide +kernel) dX0_wordOf_59 ?_
    exact jr_a C hr hlk (by rw [← Option.some.inj hF]) dX0_wordOf_61
  have hF := it_f hF c2
  by_cases c3 : a1 = 2
  · have hF := it_t hF c3
    refine lv_tableIn (tgt := 62) hx hb dX0_wordOf_1 (by rw [c3]; decide) (by rw [c3]; decide) (by rw [c3]; rfl) (by decide) ?_
    refine fr_ldcs (id := 12) (text := "extend") C (by decide +kernel) dX0_wordOf_62 ?_
    exact jr_a C hr hlk (by rw [← Option.some.inj hF]) dX0_wordOf_64
  have hF := it_f hF c3
  by_cases c4 : a1 = 3
  · have hF := it_t hF c4
    refine lv_tableIn (tgt := 65) hx hb dX0_wordOf_1 (by rw [c4]; decide) (by rw [c4]; decide) (by rw [c4]; rfl) (by decide) ?_
    refine fr_ldcs (id := 13) (text := "tram") C (by decide +kernel) dX0_wordOf_65 ?_
    exact jr_a C hr hlk (by rw [← Option.some.inj hF]) dX0_wordOf_67
  have hF := it_f hF c4
  by_cases c5 : a1 = 4
  · have hF := it_t hF c5
    refine lv_tableIn (tgt := 68) hx hb dX0_wordOf_1 (by rw [c5]; decide) (by rw [c5]; decide) (by rw [c5]; rfl) (by decide) ?_
    refine fr_ldcs (id := 14) (text := "rider") C (by decide +kernel) dX0_wordOf_68 ?_
    exact jr_a C hr hlk (by rw [← Option.some.inj hF]) dX0_wordOf_70
  have hF := it_f hF c5
  by_cases c6 : a1 = 5
  · have hF := it_t hF c6
    refine lv_tableIn (tgt := 71) hx hb dX0_wordOf_1 (by rw [c6]; decide) (by rw [c6]; decide) (by rw [c6]; rfl) (by decide) ?_
    refine fr_ldcs (id := 15) (text := "ticket") C (by decide +kernel) dX0_wordOf_71 ?_
    exact jr_a C hr hlk (by rw [← Option.some.inj hF]) dX0_wordOf_73
  have hF := it_f hF c6
  by_cases c7 : a1 = 6
  · have hF := it_t hF c7
    refine lv_tableIn (tgt := 74) hx hb dX0_wordOf_1 (by rw [c7]; decide) (by rw [c7]; decide) (by rw [c7]; rfl) (by decide) ?_
    refine fr_ldcs (id := 16) (text := "board") C (by decide +kernel) dX0_wordOf_74 ?_
    exact jr_a C hr hlk (by rw [← Option.some.inj hF]) dX0_wordOf_76
  have hF := it_f hF c7
  by_cases c8 : a1 = 7
  · have hF := it_t hF c8
    refine lv_tableIn (tgt := 77) hx hb dX0_wordOf_1 (by rw [c8]; decide) (by rw [c8]; decide) (by rw [c8]; rfl) (by decide) ?_
    refine fr_ldcs (id := 17) (text := "alight") C (by decide +kernel) dX0_wordOf_77 ?_
    exact jr_a C hr hlk (by rw [← Option.some.inj hF]) dX0_wordOf_79
  have hF := it_f hF c8
  by_cases c9 : a1 = 8
  · have hF := it_t hF c9
    refine lv_tableIn (tgt := 80) hx hb dX0_wordOf_1 (by rw [c9]; decide) (by rw [c9]; decide) (by rw [c9]; rfl) (by decide) ?_
    refine fr_ldcs (id := 18) (text := "secret") C (by decide +kernel) dX0_wordOf_80 ?_
    exact jr_a C hr hlk (by rw [← Option.some.inj hF]) dX0_wordOf_82
  have hF := it_f hF c9
  by_cases c10 : a1 = 9
  · have hF := it_t hF c10
    refine lv_tableIn (tgt := 83) hx hb dX0_wordOf_1 (by rw [c10]; decide) (by rw [c10]; decide) (by rw [c10]; rfl) (by decide) ?_
    refine fr_ldcs (id := 19) (text := "whisper") C (by decide +kernel) dX0_wordOf_83 ?_
    exact jr_a C hr hlk (by rw [← Option.some.inj hF]) dX0_wordOf_85
  have hF := it_f hF c10
  refine fr_sw (tgt := 86) hx hb dX0_wordOf_1 ?_ (by decide) ?_
  · intro v h1 h2 h3
    rcases (show v = 0 ∨ v = 1 ∨ v = 2 ∨ v = 3 ∨ v = 4 ∨ v = 5 ∨ v = 6 ∨ v = 7 ∨ v = 8 ∨ v = 9 by omega) with rfl | rfl | rfl | rfl | rfl | rfl | rfl | rfl | rfl | rfl
    · exact absurd h3 c1
    · exact absurd h3 c2
    · exact absurd h3 c3
    · exact absurd h3 c4
    · exact absurd h3 c5
    · exact absurd h3 c6
    · exact absurd h3 c7
    · exact absurd h3 c8
    · exact absurd h3 c9
    · exact absurd h3 c10
  refine fr_ldcs (id := 20) (text := "tick") C (by decide +kernel) dX0_wordOf_86 ?_
  exact jr_a C hr hlk (by rw [← Option.some.inj hF]) dX0_wordOf_88
def F_X9_wordOf (M : fw_M) (a1 : Int32) : Option (Nat) :=
  if a1 = 97 then
    some 7
  else
  if a1 = 98 then
    some 6
  else
  if a1 = 99 then
    some 8
  else
  if a1 = 101 then
    some 2
  else
  if a1 = 105 then
    some 5
  else
  if a1 = 107 then
    some 10
  else
  if a1 = 108 then
    some 1
  else
  if a1 = 114 then
    some 4
  else
  if a1 = 115 then
    some 0
  else
  if a1 = 116 then
    some 3
  else
  some 9
set_option maxHeartbeats 4000000 in
set_option maxRecDepth 100000 in
theorem cr_X9_wordOf {l : Launch} {X : fw_X} {M : fw_M} {a1 : Int32}   {o : Nat} (hF : F_X9_wordOf M a1 = some o) : ct_r l X yX9_wordOf cX9_wordOf 2 (some (.object "java/lang/String")) ({ frames := 0, cells := 0, slots := 0, locals := 0 } : Room) M [.ref (fw_ad X 378), .int a1] (some (.ref (fw_sg X (10 + o)))) := by
  refine fw_openR rfl (Nat.le_of_ble_eq_true rfl) (fun p e s m below meth c ls b C hr hlk hl B => ?_)
  have C : fr_C X p c cX9_wordOf 2 RX9 s m ([.ref (fw_ad X 378), .int a1] : List Value).toArray := C
  have hx := C.1.1
  have hb := C.1.2.1
  have hl : lv_has ls 2 [(0, .ref (fw_ad X 378)), (1, .int a1)] := hl
  unfold F_X9_wordOf at hF
  refine lv_iload_n hx hb dX9_wordOf_0 rfl (lv_at hl 1 rfl) ?_
  by_cases c1 : a1 = 97
  · have hF := it_t hF c1
    refine lv_tableIn (tgt := 123) hx hb dX9_wordOf_1 (by rw [c1]; decide) (by rw [c1]; decide) (by rw [c1]; rfl) (by decide) ?_
    refine fr_ldcs (id := 17) (text := "alight") C (by decide +kernel) dX9_wordOf_123 ?_
    exact jr_a C hr hlk (by rw [← Option.some.inj hF]) dX9_wordOf_125
  have hF := it_f hF c1
  by_cases c2 : a1 = 98
  · have hF := it_t hF c2
    refine lv_tableIn (tgt := 120) hx hb dX9_wordOf_1 (by rw [c2]; decide) (by rw [c2]; decide) (by rw [c2]; rfl) (by decide) ?_
    refine fr_ldcs (id := 16) (text := "board") C (by decide +kernel) dX9_wordOf_120 ?_
    exact jr_a C hr hlk (by rw [← Option.some.inj hF]) dX9_wordOf_122
  have hF := it_f hF c2
  by_cases c3 : a1 = 99
  · have hF := it_t hF c3
    refine lv_tableIn (tgt := 99) hx hb dX9_wordOf_1 (by rw [c3]; decide) (by rw [c3]; decide) (by rw [c3]; rfl) (by decide) ?_
    refine fr_ldcs (id := 18) (text := "secret") C (by decide +kernel) dX9_wordOf_99 ?_
    exact jr_a C hr hlk (by rw [← Option.some.inj hF]) dX9_wordOf_101
  have hF := it_f hF c3
  by_cases c4 : a1 = 101
  · have hF := it_t hF c4
    refine lv_tableIn (tgt := 105) hx hb dX9_wordOf_1 (by rw [c4]; decide) (by rw [c4]; decide) (by rw [c4]; rfl) (by decide) ?_
    refine fr_ldcs (id := 12) (text := "extend") C (by decide +kernel) dX9_wordOf_105 ?_
    exact jr_a C hr hlk (by rw [← Option.some.inj hF]) dX9_wordOf_107
  have hF := it_f hF c4
  by_cases c5 : a1 = 105
  · have hF := it_t hF c5
    refine lv_tableIn (tgt := 111) hx hb dX9_wordOf_1 (by rw [c5]; decide) (by rw [c5]; decide) (by rw [c5]; rfl) (by decide) ?_
    refine fr_ldcs (id := 15) (text := "ticket") C (by decide +kernel) dX9_wordOf_111 ?_
    exact jr_a C hr hlk (by rw [← Option.some.inj hF]) dX9_wordOf_113
  have hF := it_f hF c5
  by_cases c6 : a1 = 107
  · have hF := it_t hF c6
    refine lv_tableIn (tgt := 114) hx hb dX9_wordOf_1 (by rw [c6]; decide) (by rw [c6]; decide) (by rw [c6]; rfl) (by decide) ?_
    refine fr_ldcs (id := 20) (text := "tick") C (by decide +kernel) dX9_wordOf_114 ?_
    exact jr_a C hr hlk (by rw [← Option.some.inj hF]) dX9_wordOf_116
  have hF := it_f hF c6
  by_cases c7 : a1 = 108
  · have hF := it_t hF c7
    refine lv_tableIn (tgt := 102) hx hb dX9_wordOf_1 (by rw [c7]; decide) (by rw [c7]; decide) (by rw [c7]; rfl) (by decide) ?_
    refine fr_ldcs (id := 11) (text := "line") C (by decide +kernel) dX9_wordOf_102 ?_
    exact jr_a C hr hlk (by rw [← Option.some.inj hF]) dX9_wordOf_104
  have hF := it_f hF c7
  by_cases c8 : a1 = 114
  · have hF := it_t hF c8
    refine lv_tableIn (tgt := 117) hx hb dX9_wordOf_1 (by rw [c8]; decide) (by rw [c8]; decide) (by rw [c8]; rfl) (by decide) ?_
    refine fr_ldcs (id := 14) (text := "rider") C (by decide +kernel) dX9_wordOf_117 ?_
    exact jr_a C hr hlk (by rw [← Option.some.inj hF]) dX9_wordOf_119
  have hF := it_f hF c8
  by_cases c9 : a1 = 115
  · have hF := it_t hF c9
    refine lv_tableIn (tgt := 96) hx hb dX9_wordOf_1 (by rw [c9]; decide) (by rw [c9]; decide) (by rw [c9]; rfl) (by decide) ?_
    refine fr_ldcs (id := 10) (text := "stop") C (by decide +kernel) dX9_wordOf_96 ?_
    exact jr_a C hr hlk (by rw [← Option.some.inj hF]) dX9_wordOf_98
  have hF := it_f hF c9
  by_cases c10 : a1 = 116
  · have hF := it_t hF c10
    refine lv_tableIn (tgt := 108) hx hb dX9_wordOf_1 (by rw [c10]; decide) (by rw [c10]; decide) (by rw [c10]; rfl) (by decide) ?_
    refine fr_ldcs (id := 13) (text := "tram") C (by decide +kernel) dX9_wordOf_108 ?_
    exact jr_a C hr hlk (by rw [← Option.some.inj hF]) dX9_wordOf_110
  have hF := it_f hF c10
  refine fr_sw (tgt := 126) hx hb dX9_wordOf_1 ?_ (by decide) ?_
  · intro v h1 h2 h3
    rcases (show v = 97 ∨ v = 98 ∨ v = 99 ∨ v = 100 ∨ v = 101 ∨ v = 102 ∨ v = 103 ∨ v = 104 ∨ v = 105 ∨ v = 106 ∨ v = 107 ∨ v = 108 ∨ v = 109 ∨ v = 110 ∨ v = 111 ∨ v = 112 ∨ v = 113 ∨ v = 114 ∨ v = 115 ∨ v = 116 by omega) with rfl | rfl | rfl | rfl | rfl | rfl | rfl | rfl | rfl | rfl | rfl | rfl | rfl | rfl | rfl | rfl | rfl | rfl | rfl | rfl
    · exact absurd h3 c1
    · exact absurd h3 c2
    · exact absurd h3 c3
    · rfl
    · exact absurd h3 c4
    · rfl
    · rfl
    · rfl
    · exact absurd h3 c5
    · rfl
    · exact absurd h3 c6
    · exact absurd h3 c7
    · rfl
    · rfl
    · rfl
    · rfl
    · rfl
    · exact absurd h3 c8
    · exact absurd h3 c9
    · exact absurd h3 c10
  refine fr_ldcs (id := 19) (text := "whisper") C (by decide +kernel) dX9_wordOf_126 ?_
  exact jr_a C hr hlk (by rw [← Option.some.inj hF]) dX9_wordOf_128
