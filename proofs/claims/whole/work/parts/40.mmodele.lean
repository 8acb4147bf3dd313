def F_X9_does (M : fw_M) (a1 : Int32) : Option (fw_M) :=
  if ix_i ((4 * a1) + 1) 240 then
  if ix_i ((4 * a1) + 2) 240 then
  if ix_i (4 * a1) 240 then
  if (fw_ri M 385 (4 * a1)) = 97 then
    bd_p (F_X9_doAlight M (fw_ri M 385 ((4 * a1) + 1))) fun r6 M7 =>
    some M7
  else
  if (fw_ri M 385 (4 * a1)) = 98 then
    bd_p (F_X9_doBoard M (fw_ri M 385 ((4 * a1) + 1)) (fw_ri M 385 ((4 * a1) + 2))) fun r10 M11 =>
    if r10 = 0 then
      some M11
    else
      some M11
  else
  if (fw_ri M 385 (4 * a1)) = 99 then
    bd_p (F_X9_doAddSecret M (fw_ri M 385 ((4 * a1) + 1))) fun r15 M16 =>
    some M16
  else
  if (fw_ri M 385 (4 * a1)) = 101 then
    bd_p (F_X9_doExtendLine M (fw_ri M 385 ((4 * a1) + 1)) (fw_ri M 385 ((4 * a1) + 2))) fun r19 M20 =>
    some M20
  else
  if (fw_ri M 385 (4 * a1)) = 105 then
    if ix_i ((4 * a1) + 3) 240 then
    bd_p (F_X9_doSellTicket M (fw_ri M 385 ((4 * a1) + 1)) (fw_ri M 385 ((4 * a1) + 2)) (fw_ri M 385 ((4 * a1) + 3))) fun r24 M25 =>
    some M25
    else none
  else
  if (fw_ri M 385 (4 * a1)) = 107 then
    bd_p (F_X9_doTick M) fun r28 M29 =>
    some M29
  else
  if (fw_ri M 385 (4 * a1)) = 108 then
    bd_p (F_X9_doAddLine M (fw_ri M 385 ((4 * a1) + 1)) (fw_ri M 385 ((4 * a1) + 2))) fun r32 M33 =>
    some M33
  else
  if (fw_ri M 385 (4 * a1)) = 114 then
    bd_p (F_X9_doAddPassenger M (fw_ri M 385 ((4 * a1) + 1))) fun r36 M37 =>
    some M37
  else
  if (fw_ri M 385 (4 * a1)) = 115 then
    bd_p (F_X9_doAddStop M (fw_ri M 385 ((4 * a1) + 1))) fun r40 M41 =>
    some M41
  else
  if (fw_ri M 385 (4 * a1)) = 116 then
    bd_p (F_X9_doAddTram M (fw_ri M 385 ((4 * a1) + 1))) fun r44 M45 =>
    some M45
  else
  bd_p (F_X9_doWhisper M (fw_ri M 385 ((4 * a1) + 1)) (fw_ri M 385 ((4 * a1) + 2))) fun r47 M48 =>
  some M48
  else none
  else none
  else none
set_option maxHeartbeats 4000000 in
set_option maxRecDepth 100000 in
theorem cm_X9_does {l : Launch} {X : fw_X} {M : fw_M} {a1 : Int32}  {o : fw_M} (hF : F_X9_does M a1 = some o) : ct_v l X yX9_does cX9_does 5 none ({ frames := 4, cells := 0, slots := 0, locals := 92 } : Room) M [.ref (fw_ad X 378), .int a1] (.inl 0, o) := by
  refine fw_open rfl (Nat.le_of_ble_eq_true rfl) (fun p e s m below meth c ls C hr hlk hnm hex hl B => ?_)
  have C : fr_C X p c cX9_does 5 RX9 s m ([.ref (fw_ad X 378), .int a1] : List Value).toArray := C
  have hx := C.1.1
  have hb := C.1.2.1
  have hl : lv_has ls 5 [(0, .ref (fw_ad X 378)), (1, .int a1)] := hl
  unfold F_X9_does at hF
  refine lv_aload_n hx hb dX9_does_0 rfl (lv_at hl 0 rfl) ?_
  refine gf_X9_36 C B dX9_does_1 ?_
  refine lv_iconst (v := 4) hx hb dX9_does_4 (by decide) ?_
  refine lv_iload_n hx hb dX9_does_5 rfl (lv_at hl 1 rfl) ?_
  refine lv_imul hx hb dX9_does_6 ?_
  refine lv_iconst (v := 1) hx hb dX9_does_7 (by decide) ?_
  refine lv_iadd hx hb dX9_does_8 ?_
  obtain ⟨c1, hF⟩ := of_g hF
  refine fr_ia C B ar_9_385 c1 dX9_does_9 ?_
  refine lv_istore_n (lv' := [(2, .int (fw_ri M 385 ((4 * a1) + 1))), (0, .ref (fw_ad X 378)), (1, .int a1)]) hx hb dX9_does_10 rfl hl (by decide) rfl (fun ls hl => ?_)
  refine lv_aload_n hx hb dX9_does_11 rfl (lv_at hl 1 rfl) ?_
  refine gf_X9_36 C B dX9_does_12 ?_
  refine lv_iconst (v := 4) hx hb dX9_does_15 (by decide) ?_
  refine lv_iload_n hx hb dX9_does_16 rfl (lv_at hl 2 rfl) ?_
  refine lv_imul hx hb dX9_does_17 ?_
  refine lv_iconst (v := 2) hx hb dX9_does_18 (by decide) ?_
  refine lv_iadd hx hb dX9_does_19 ?_
  obtain ⟨c2, hF⟩ := of_g hF
  refine fr_ia C B ar_9_385 c2 dX9_does_20 ?_
  refine lv_istore_n (lv' := [(3, .int (fw_ri M 385 ((4 * a1) + 2))), (2, .int (fw_ri M 385 ((4 * a1) + 1))), (0, .ref (fw_ad X 378)), (1, .int a1)]) hx hb dX9_does_21 rfl hl (by decide) rfl (fun ls hl => ?_)
  refine lv_iconst (v := 0) hx hb dX9_does_22 (by decide) ?_
  refine lv_istore (lv' := [(4, .int 0), (3, .int (fw_ri M 385 ((4 * a1) + 2))), (2, .int (fw_ri M 385 ((4 * a1) + 1))), (0, .ref (fw_ad X 378)), (1, .int a1)]) hx hb dX9_does_23 hl (by decide) rfl (fun ls hl => ?_)
  refine lv_aload_n hx hb dX9_does_25 rfl (lv_at hl 3 rfl) ?_
  refine gf_X9_36 C B dX9_does_26 ?_
  refine lv_iconst (v := 4) hx hb dX9_does_29 (by decide) ?_
  refine lv_iload_n hx hb dX9_does_30 rfl (lv_at hl 4 rfl) ?_
  refine lv_imul hx hb dX9_does_31 ?_
  obtain ⟨c3, hF⟩ := of_g hF
  refine fr_ia C B ar_9_385 c3 dX9_does_32 ?_
  by_cases c4 : (fw_ri M 385 (4 * a1)) = 97
  · have hF := it_t hF c4
    refine lv_tableIn (tgt := 239) hx hb dX9_does_33 (by rw [c4]; decide) (by rw [c4]; decide) (by rw [c4]; rfl) (by decide) ?_
    refine lv_aload_n hx hb dX9_does_239 rfl (lv_at hl 3 rfl) ?_
    refine lv_iload_n hx hb dX9_does_240 rfl (lv_at hl 2 rfl) ?_
    obtain ⟨r6, M7, hf5, hF⟩ := bp_e hF
    refine fr_cVi (As := [.int (fw_ri M 385 ((4 * a1) + 1))]) (rest := []) C B (cm_X9_doAlight hf5) ob_9 rfl yw_X9_doAlight wm_X9_150 rfl hl.1 rfl (Nat.le_of_ble_eq_true rfl) ⟨Nat.le_of_ble_eq_true rfl, Nat.le_of_ble_eq_true rfl⟩ ⟨Nat.le_of_ble_eq_true rfl, Nat.le_of_ble_eq_true rfl⟩ dX9_does_241 (fr_nx rfl) (fun r9 M9 H locs ho9 B => ?_)
    obtain ⟨rfl, rfl⟩ := oi_e ho9
    refine lv_istore (lv' := [(4, .int r6), (3, .int (fw_ri M 385 ((4 * a1) + 2))), (2, .int (fw_ri M 385 ((4 * a1) + 1))), (0, .ref (fw_ad X 378)), (1, .int a1)]) hx hb dX9_does_244 hl (by decide) rfl (fun ls hl => ?_)
    refine lv_goto (tgt := 257) hx hb dX9_does_246 (by decide) ?_
    exact fr_vret C B hr hlk (by rw [← Option.some.inj hF]) (Nat.le_of_ble_eq_true rfl) (Nat.le_of_ble_eq_true rfl) dX9_does_257
  have hF := it_f hF c4
  by_cases c8 : (fw_ri M 385 (4 * a1)) = 98
  · have hF := it_t hF c8
    refine lv_tableIn (tgt := 220) hx hb dX9_does_33 (by rw [c8]; decide) (by rw [c8]; decide) (by rw [c8]; rfl) (by decide) ?_
    refine lv_aload_n hx hb dX9_does_220 rfl (lv_at hl 3 rfl) ?_
    refine lv_iload_n hx hb dX9_does_221 rfl (lv_at hl 2 rfl) ?_
    refine lv_iload_n hx hb dX9_does_222 rfl (lv_at hl 1 rfl) ?_
    obtain ⟨r10, M11, hf9, hF⟩ := bp_e hF
    refine fr_cVi (As := [.int (fw_ri M 385 ((4 * a1) + 1)), .int (fw_ri M 385 ((4 * a1) + 2))]) (rest := []) C B (cm_X9_doBoard hf9) ob_9 rfl yw_X9_doBoard wm_X9_147 rfl hl.1 rfl (Nat.le_of_ble_eq_true rfl) ⟨Nat.le_of_ble_eq_true rfl, Nat.le_of_ble_eq_true rfl⟩ ⟨Nat.le_of_ble_eq_true rfl, Nat.le_of_ble_eq_true rfl⟩ dX9_does_223 (fr_nx rfl) (fun r9 M9 H locs ho9 B => ?_)
    obtain ⟨rfl, rfl⟩ := oi_e ho9
    refine lv_if_eq (tgt := 233) hx hb dX9_does_226 (by decide) (fun c12 => ?_) (fun c12 => ?_)
    · have hF := it_t hF c12
      refine lv_iconst (v := 0) hx hb dX9_does_233 (by decide) ?_
      refine lv_istore (lv' := [(4, .int 0), (3, .int (fw_ri M 385 ((4 * a1) + 2))), (2, .int (fw_ri M 385 ((4 * a1) + 1))), (0, .ref (fw_ad X 378)), (1, .int a1)]) hx hb dX9_does_234 hl (by decide) rfl (fun ls hl => ?_)
      refine lv_goto (tgt := 257) hx hb dX9_does_236 (by decide) ?_
      exact fr_vret C B hr hlk (by rw [← Option.some.inj hF]) (Nat.le_of_ble_eq_true rfl) (Nat.le_of_ble_eq_true rfl) dX9_does_257
    · have hF := it_f hF c12
      refine lv_iconst (v := 1) hx hb dX9_does_229 (by decide) ?_
      refine lv_goto (tgt := 234) hx hb dX9_does_230 (by decide) ?_
      refine lv_istore (lv' := [(4, .int 1), (3, .int (fw_ri M 385 ((4 * a1) + 2))), (2, .int (fw_ri M 385 ((4 * a1) + 1))), (0, .ref (fw_ad X 378)), (1, .int a1)]) hx hb dX9_does_234 hl (by decide) rfl (fun ls hl => ?_)
      refine lv_goto (tgt := 257) hx hb dX9_does_236 (by decide) ?_
      exact fr_vret C B hr hlk (by rw [← Option.some.inj hF]) (Nat.le_of_ble_eq_true rfl) (Nat.le_of_ble_eq_true rfl) dX9_does_257
  have hF := it_f hF c8
  by_cases c13 : (fw_ri M 385 (4 * a1)) = 99
  · have hF := it_t hF c13
    refine lv_tableIn (tgt := 138) hx hb dX9_does_33 (by rw [c13]; decide) (by rw [c13]; decide) (by rw [c13]; rfl) (by decide) ?_
    refine lv_aload_n hx hb dX9_does_138 rfl (lv_at hl 3 rfl) ?_
    refine lv_iload_n hx hb dX9_does_139 rfl (lv_at hl 2 rfl) ?_
    obtain ⟨r15, M16, hf14, hF⟩ := bp_e hF
    refine fr_cVi (As := [.int (fw_ri M 385 ((4 * a1) + 1))]) (rest := []) C B (cm_X9_doAddSecret hf14) ob_9 rfl yw_X9_doAddSecret wm_X9_153 rfl hl.1 rfl (Nat.le_of_ble_eq_true rfl) ⟨Nat.le_of_ble_eq_true rfl, Nat.le_of_ble_eq_true rfl⟩ ⟨Nat.le_of_ble_eq_true rfl, Nat.le_of_ble_eq_true rfl⟩ dX9_does_140 (fr_nx rfl) (fun r9 M9 H locs ho9 B => ?_)
    obtain ⟨rfl, rfl⟩ := oi_e ho9
    refine lv_istore (lv' := [(4, .int r15), (3, .int (fw_ri M 385 ((4 * a1) + 2))), (2, .int (fw_ri M 385 ((4 * a1) + 1))), (0, .ref (fw_ad X 378)), (1, .int a1)]) hx hb dX9_does_143 hl (by decide) rfl (fun ls hl => ?_)
    refine lv_goto (tgt := 257) hx hb dX9_does_145 (by decide) ?_
    exact fr_vret C B hr hlk (by rw [← Option.some.inj hF]) (Nat.le_of_ble_eq_true rfl) (Nat.le_of_ble_eq_true rfl) dX9_does_257
  have hF := it_f hF c13
  by_cases c17 : (fw_ri M 385 (4 * a1)) = 101
  · have hF := it_t hF c17
    refine lv_tableIn (tgt := 159) hx hb dX9_does_33 (by rw [c17]; decide) (by rw [c17]; decide) (by rw [c17]; rfl) (by decide) ?_
    refine lv_aload_n hx hb dX9_does_159 rfl (lv_at hl 3 rfl) ?_
    refine lv_iload_n hx hb dX9_does_160 rfl (lv_at hl 2 rfl) ?_
    refine lv_iload_n hx hb dX9_does_161 rfl (lv_at hl 1 rfl) ?_
    obtain ⟨r19, M20, hf18, hF⟩ := bp_e hF
    refine fr_cVi (As := [.int (fw_ri M 385 ((4 * a1) + 1)), .int (fw_ri M 385 ((4 * a1) + 2))]) (rest := []) C B (cm_X9_doExtendLine hf18) ob_9 rfl yw_X9_doExtendLine wm_X9_88 rfl hl.1 rfl (Nat.le_of_ble_eq_true rfl) ⟨Nat.le_of_ble_eq_true rfl, Nat.le_of_ble_eq_true rfl⟩ ⟨Nat.le_of_ble_eq_true rfl, Nat.le_of_ble_eq_true rfl⟩ dX9_does_162 (fr_nx rfl) (fun r9 M9 H locs ho9 B => ?_)
    obtain ⟨rfl, rfl⟩ := oi_e ho9
    refine lv_istore (lv' := [(4, .int r19), (3, .int (fw_ri M 385 ((4 * a1) + 2))), (2, .int (fw_ri M 385 ((4 * a1) + 1))), (0, .ref (fw_ad X 378)), (1, .int a1)]) hx hb dX9_does_165 hl (by decide) rfl (fun ls hl => ?_)
    refine lv_goto (tgt := 257) hx hb dX9_does_167 (by decide) ?_
    exact fr_vret C B hr hlk (by rw [← Option.some.inj hF]) (Nat.le_of_ble_eq_true rfl) (Nat.le_of_ble_eq_true rfl) dX9_does_257
  have hF := it_f hF c17
  by_cases c21 : (fw_ri M 385 (4 * a1)) = 105
  · have hF := it_t hF c21
    refine lv_tableIn (tgt := 180) hx hb dX9_does_33 (by rw [c21]; decide) (by rw [c21]; decide) (by rw [c21]; rfl) (by decide) ?_
    refine lv_aload_n hx hb dX9_does_180 rfl (lv_at hl 3 rfl) ?_
    refine lv_iload_n hx hb dX9_does_181 rfl (lv_at hl 2 rfl) ?_
    refine lv_iload_n hx hb dX9_does_182 rfl (lv_at hl 1 rfl) ?_
    refine lv_aload_n hx hb dX9_does_183 rfl (lv_at hl 3 rfl) ?_
    refine gf_X9_36 C B dX9_does_184 ?_
    refine lv_iconst (v := 4) hx hb dX9_does_187 (by decide) ?_
    refine lv_iload_n hx hb dX9_does_188 rfl (lv_at hl 4 rfl) ?_
    refine lv_imul hx hb dX9_does_189 ?_
    refine lv_iconst (v := 3) hx hb dX9_does_190 (by decide) ?_
    refine lv_iadd hx hb dX9_does_191 ?_
    obtain ⟨c22, hF⟩ := of_g hF
    refine fr_ia C B ar_9_385 c22 dX9_does_192 ?_
    obtain ⟨r24, M25, hf23, hF⟩ := bp_e hF
    refine fr_cVi (As := [.int (fw_ri M 385 ((4 * a1) + 1)), .int (fw_ri M 385 ((4 * a1) + 2)), .int (fw_ri M 385 ((4 * a1) + 3))]) (rest := []) C B (cm_X9_doSellTicket hf23) ob_9 rfl yw_X9_doSellTicket wm_X9_136 rfl hl.1 rfl (Nat.le_of_ble_eq_true rfl) ⟨Nat.le_of_ble_eq_true rfl, Nat.le_of_ble_eq_true rfl⟩ ⟨Nat.le_of_ble_eq_true rfl, Nat.le_of_ble_eq_true rfl⟩ dX9_does_193 (fr_nx rfl) (fun r9 M9 H locs ho9 B => ?_)
    obtain ⟨rfl, rfl⟩ := oi_e ho9
    refine lv_istore (lv' := [(4, .int r24), (3, .int (fw_ri M 385 ((4 * a1) + 2))), (2, .int (fw_ri M 385 ((4 * a1) + 1))), (0, .ref (fw_ad X 378)), (1, .int a1)]) hx hb dX9_does_196 hl (by decide) rfl (fun ls hl => ?_)
    refine lv_goto (tgt := 257) hx hb dX9_does_198 (by decide) ?_
    exact fr_vret C B hr hlk (by rw [← Option.some.inj hF]) (Nat.le_of_ble_eq_true rfl) (Nat.le_of_ble_eq_true rfl) dX9_does_257
  have hF := it_f hF c21
  by_cases c26 : (fw_ri M 385 (4 * a1)) = 107
  · have hF := it_t hF c26
    refine lv_tableIn (tgt := 201) hx hb dX9_does_33 (by rw [c26]; decide) (by rw [c26]; decide) (by rw [c26]; rfl) (by decide) ?_
    refine lv_aload_n hx hb dX9_does_201 rfl (lv_at hl 3 rfl) ?_
    obtain ⟨r28, M29, hf27, hF⟩ := bp_e hF
    refine fr_cVi (As := []) (rest := []) C B (cm_X9_doTick hf27) ob_9 rfl yw_X9_doTick wm_X9_104 rfl hl.1 rfl (Nat.le_of_ble_eq_true rfl) ⟨Nat.le_of_ble_eq_true rfl, Nat.le_of_ble_eq_true rfl⟩ ⟨Nat.le_of_ble_eq_true rfl, Nat.le_of_ble_eq_true rfl⟩ dX9_does_202 (fr_nx rfl) (fun r9 M9 H locs ho9 B => ?_)
    obtain ⟨rfl, rfl⟩ := oi_e ho9
    refine lv_istore (lv' := [(4, .int r28), (3, .int (fw_ri M 385 ((4 * a1) + 2))), (2, .int (fw_ri M 385 ((4 * a1) + 1))), (0, .ref (fw_ad X 378)), (1, .int a1)]) hx hb dX9_does_205 hl (by decide) rfl (fun ls hl => ?_)
    refine lv_goto (tgt := 257) hx hb dX9_does_207 (by decide) ?_
    exact fr_vret C B hr hlk (by rw [← Option.some.inj hF]) (Nat.le_of_ble_eq_true rfl) (Nat.le_of_ble_eq_true rfl) dX9_does_257
  have hF := it_f hF c26
  by_cases c30 : (fw_ri M 385 (4 * a1)) = 108
  · have hF := it_t hF c30
    refine lv_tableIn (tgt := 148) hx hb dX9_does_33 (by rw [c30]; decide) (by rw [c30]; decide) (by rw [c30]; rfl) (by decide) ?_
    refine lv_aload_n hx hb dX9_does_148 rfl (lv_at hl 3 rfl) ?_
    refine lv_iload_n hx hb dX9_does_149 rfl (lv_at hl 2 rfl) ?_
    refine lv_iload_n hx hb dX9_does_150 rfl (lv_at hl 1 rfl) ?_
    obtain ⟨r32, M33, hf31, hF⟩ := bp_e hF
    refine fr_cVi (As := [.int (fw_ri M 385 ((4 * a1) + 1)), .int (fw_ri M 385 ((4 * a1) + 2))]) (rest := []) C B (cm_X9_doAddLine hf31) ob_9 rfl yw_X9_doAddLine wm_X9_79 rfl hl.1 rfl (Nat.le_of_ble_eq_true rfl) ⟨Nat.le_of_ble_eq_true rfl, Nat.le_of_ble_eq_true rfl⟩ ⟨Nat.le_of_ble_eq_true rfl, Nat.le_of_ble_eq_true rfl⟩ dX9_does_151 (fr_nx rfl) (fun r9 M9 H locs ho9 B => ?_)
    obtain ⟨rfl, rfl⟩ := oi_e ho9
    refine lv_istore (lv' := [(4, .int r32), (3, .int (fw_ri M 385 ((4 * a1) + 2))), (2, .int (fw_ri M 385 ((4 * a1) + 1))), (0, .ref (fw_ad X 378)), (1, .int a1)]) hx hb dX9_does_154 hl (by decide) rfl (fun ls hl => ?_)
    refine lv_goto (tgt := 257) hx hb dX9_does_156 (by decide) ?_
    exact fr_vret C B hr hlk (by rw [← Option.some.inj hF]) (Nat.le_of_ble_eq_true rfl) (Nat.le_of_ble_eq_true rfl) dX9_does_257
  have hF := it_f hF c30
  by_cases c34 : (fw_ri M 385 (4 * a1)) = 114
  · have hF := it_t hF c34
    refine lv_tableIn (tgt := 210) hx hb dX9_does_33 (by rw [c34]; decide) (by rw [c34]; decide) (by rw [c34]; rfl) (by decide) ?_
    refine lv_aload_n hx hb dX9_does_210 rfl (lv_at hl 3 rfl) ?_
    refine lv_iload_n hx hb dX9_does_211 rfl (lv_at hl 2 rfl) ?_
    obtain ⟨r36, M37, hf35, hF⟩ := bp_e hF
    refine fr_cVi (As := [.int (fw_ri M 385 ((4 * a1) + 1))]) (rest := []) C B (cm_X9_doAddPassenger hf35) ob_9 rfl yw_X9_doAddPassenger wm_X9_130 rfl hl.1 rfl (Nat.le_of_ble_eq_true rfl) ⟨Nat.le_of_ble_eq_true rfl, Nat.le_of_ble_eq_true rfl⟩ ⟨Nat.le_of_ble_eq_true rfl, Nat.le_of_ble_eq_true rfl⟩ dX9_does_212 (fr_nx rfl) (fun r9 M9 H locs ho9 B => ?_)
    obtain ⟨rfl, rfl⟩ := oi_e ho9
    refine lv_istore (lv' := [(4, .int r36), (3, .int (fw_ri M 385 ((4 * a1) + 2))), (2, .int (fw_ri M 385 ((4 * a1) + 1))), (0, .ref (fw_ad X 378)), (1, .int a1)]) hx hb dX9_does_215 hl (by decide) rfl (fun ls hl => ?_)
    refine lv_goto (tgt := 257) hx hb dX9_does_217 (by decide) ?_
    exact fr_vret C B hr hlk (by rw [← Option.some.inj hF]) (Nat.le_of_ble_eq_true rfl) (Nat.le_of_ble_eq_true rfl) dX9_does_257
  have hF := it_f hF c34
  by_cases c38 : (fw_ri M 385 (4 * a1)) = 115
  · have hF := it_t hF c38
    refine lv_tableIn (tgt := 128) hx hb dX9_does_33 (by rw [c38]; decide) (by rw [c38]; decide) (by rw [c38]; rfl) (by decide) ?_
    refine lv_aload_n hx hb dX9_does_128 rfl (lv_at hl 3 rfl) ?_
    refine lv_iload_n hx hb dX9_does_129 rfl (lv_at hl 2 rfl) ?_
    obtain ⟨r40, M41, hf39, hF⟩ := bp_e hF
    refine fr_cVi (As := [.int (fw_ri M 385 ((4 * a1) + 1))]) (rest := []) C B (cm_X9_doAddStop hf39) ob_9 rfl yw_X9_doAddStop wm_X9_69 rfl hl.1 rfl (Nat.le_of_ble_eq_true rfl) ⟨Nat.le_of_ble_eq_true rfl, Nat.le_of_ble_eq_true rfl⟩ ⟨Nat.le_of_ble_eq_true rfl, Nat.le_of_ble_eq_true rfl⟩ dX9_does_130 (fr_nx rfl) (fun r9 M9 H locs ho9 B => ?_)
    obtain ⟨rfl, rfl⟩ := oi_e ho9
    refine lv_istore (lv' := [(4, .int r40), (3, .int (fw_ri M 385 ((4 * a1) + 2))), (2, .int (fw_ri M 385 ((4 * a1) + 1))), (0, .ref (fw_ad X 378)), (1, .int a1)]) hx hb dX9_does_133 hl (by decide) rfl (fun ls hl => ?_)
    refine lv_goto (tgt := 257) hx hb dX9_does_135 (by decide) ?_
    exact fr_vret C B hr hlk (by rw [← Option.some.inj hF]) (Nat.le_of_ble_eq_true rfl) (Nat.le_of_ble_eq_true rfl) dX9_does_257
  have hF := it_f hF c38
  by_cases c42 : (fw_ri M 385 (4 * a1)) = 116
  · have hF := it_t hF c42
    refine lv_tableIn (tgt := 170) hx hb dX9_does_33 (by rw [c42]; decide) (by rw [c42]; decide) (by rw [c42]; rfl) (by decide) ?_
    refine lv_aload_n hx hb dX9_does_170 rfl (lv_at hl 3 rfl) ?_
    refine lv_iload_n hx hb dX9_does_171 rfl (lv_at hl 2 rfl) ?_
    obtain ⟨r44, M45, hf43, hF⟩ := bp_e hF
    refine fr_cVi (As := [.int (fw_ri M 385 ((4 * a1) + 1))]) (rest := []) C B (cm_X9_doAddTram hf43) ob_9 rfl yw_X9_doAddTram wm_X9_98 rfl hl.1 rfl (Nat.le_of_ble_eq_true rfl) ⟨Nat.le_of_ble_eq_true rfl, Nat.le_of_ble_eq_true rfl⟩ ⟨Nat.le_of_ble_eq_true rfl, Nat.le_of_ble_eq_true rfl⟩ dX9_does_172 (fr_nx rfl) (fun r9 M9 H locs ho9 B => ?_)
    obtain ⟨rfl, rfl⟩ := oi_e ho9
    refine lv_istore (lv' := [(4, .int r44), (3, .int (fw_ri M 385 ((4 * a1) + 2))), (2, .int (fw_ri M 385 ((4 * a1) + 1))), (0, .ref (fw_ad X 378)), (1, .int a1)]) hx hb dX9_does_175 hl (by decide) rfl (fun ls hl => ?_)
    refine lv_goto (tgt := 257) hx hb dX9_does_177 (by decide) ?_
    exact fr_vret C B hr hlk (by rw [← Option.some.inj hF]) (Nat.le_of_ble_eq_true rfl) (Nat.le_of_ble_eq_true rfl) dX9_does_257
  have hF := it_f hF c42
  refine fr_sw (tgt := 249) hx hb dX9_does_33 ?_ (by decide) ?_
  · intro v h1 h2 h3
    rcases (show v = 97 ∨ v = 98 ∨ v = 99 ∨ v = 100 ∨ v = 101 ∨ v = 102 ∨ v = 103 ∨ v = 104 ∨ v = 105 ∨ v = 106 ∨ v = 107 ∨ v = 108 ∨ v = 109 ∨ v = 110 ∨ v = 111 ∨ v = 112 ∨ v = 113 ∨ v = 114 ∨ v = 115 ∨ v = 116 by omega) with rfl | rfl | rfl | rfl | rfl | rfl | rfl | rfl | rfl | rfl | rfl | rfl | rfl | rfl | rfl | rfl | rfl | rfl | rfl | rfl
    · exact absurd h3 c4
    · exact absurd h3 c8
    · exact absurd h3 c13
    · rfl
    · exact absurd h3 c17
    · rfl
    · rfl
    · rfl
    · exact absurd h3 c21
    · rfl
    · exact absurd h3 c26
    · exact absurd h3 c30
    · rfl
    · rfl
    · rfl
    · rfl
    · rfl
    · exact absurd h3 c34
    · exact absurd h3 c38
    · exact absurd h3 c42
  refine lv_aload_n hx hb dX9_does_249 rfl (lv_at hl 3 rfl) ?_
  refine lv_iload_n hx hb dX9_does_250 rfl (lv_at hl 2 rfl) ?_
  refine lv_iload_n hx hb dX9_does_251 rfl (lv_at hl 1 rfl) ?_
  obtain ⟨r47, M48, hf46, hF⟩ := bp_e hF
  refine fr_cVi (As := [.int (fw_ri M 385 ((4 * a1) + 1)), .int (fw_ri M 385 ((4 * a1) + 2))]) (rest := []) C B (cm_X9_doWhisper hf46) ob_9 rfl yw_X9_doWhisper wm_X9_168 rfl hl.1 rfl (Nat.le_of_ble_eq_true rfl) ⟨Nat.le_of_ble_eq_true rfl, Nat.le_of_ble_eq_true rfl⟩ ⟨Nat.le_of_ble_eq_true rfl, Nat.le_of_ble_eq_true rfl⟩ dX9_does_252 (fr_nx rfl) (fun r9 M9 H locs ho9 B => ?_)
  obtain ⟨rfl, rfl⟩ := oi_e ho9
  refine lv_istore (lv' := [(4, .int r47), (3, .int (fw_ri M 385 ((4 * a1) + 2))), (2, .int (fw_ri M 385 ((4 * a1) + 1))), (0, .ref (fw_ad X 378)), (1, .int a1)]) hx hb dX9_does_255 hl (by decide) rfl (fun ls hl => ?_)
  exact fr_vret C B hr hlk (by rw [← Option.some.inj hF]) (Nat.le_of_ble_eq_true rfl) (Nat.le_of_ble_eq_true rfl) dX9_does_257
def F_X9_execute_126   : Nat → Int32 → fw_M → Option (Int32 × fw_M)
  | 0, _, _ => none
  | n + 1, x1, M =>
    if (M 378 16) ≤ x1 then
      bd_p (F_X9_ends M (M 378 16)) fun r3 M4 =>
      some (r3, M4)
    else
      bd_x (F_X9_does M x1) fun M7 =>
      if (M7 378 6) ≤ 0 then
        F_X9_execute_126  n (x1 + 1) M7
      else
        lt_x (fw_up M7 378 14 x1) fun M9 =>
        bd_p (F_X9_fails M9 2) fun r11 M12 =>
        bd_p (F_X9_ends M12 r11) fun r14 M15 =>
        some (r14, M15)
def F_X9_execute_80   (M : fw_M) : Option (Int32 × fw_M) :=
  if (M 378 12) = 0 then
    lt_x (fw_up M 378 13 (M 378 13)) fun M17 =>
    lt_x (fw_up M17 378 10 0) fun M18 =>
    if (M18 378 12) = 0 then
      bd_x (F_X9_keep M18) fun M22 =>
      F_X9_execute_126 64 0 M22
    else
      bd_p (F_X9_fails M18 1) fun r24 M25 =>
      some (r24, M25)
  else
    lt_x (fw_up M 378 13 (M 378 11)) fun M26 =>
    lt_x (fw_up M26 378 10 0) fun M27 =>
    if (M27 378 12) = 0 then
      bd_x (F_X9_keep M27) fun M31 =>
      F_X9_execute_126 64 0 M31
    else
      bd_p (F_X9_fails M27 1) fun r33 M34 =>
      some (r33, M34)
def F_X9_execute_19   : Nat → fw_M → Option (Int32 × fw_M)
  | 0, _ => none
  | n + 1, M =>
    if ¬ (M 378 12) = 0 then
      if ¬ (M 378 12) = 0 then
        lt_x (fw_up M 378 12 1) fun M37 =>
        F_X9_execute_80 M37
      else
        if (M 378 10) ≤ (M 378 11) then
          lt_x (fw_up M 378 12 0) fun M39 =>
          F_X9_execute_80 M39
        else
          lt_x (fw_up M 378 12 1) fun M40 =>
          F_X9_execute_80 M40
    else
      bd_x (F_X9_behind M 0) fun r42 =>
      if ¬ r42 = 59 then
        if ¬ (M 378 12) = 0 then
          lt_x (fw_up M 378 12 1) fun M46 =>
          F_X9_execute_80 M46
        else
          if (M 378 10) ≤ (M 378 11) then
            lt_x (fw_up M 378 12 0) fun M48 =>
            F_X9_execute_80 M48
          else
            lt_x (fw_up M 378 12 1) fun M49 =>
            F_X9_execute_80 M49
      else
        lt_x (fw_up M 378 11 ((M 378 11) + 1)) fun M50 =>
        bd_x (F_X9_readCommand M50) fun M53 =>
        F_X9_execute_19  n M53
def F_X9_execute (M : fw_M) : Option (Int32 × fw_M) :=
  lt_x (fw_up M 378 11 0) fun M54 =>
  lt_x (fw_up M54 378 12 0) fun M55 =>
  lt_x (fw_up M55 378 16 0) fun M56 =>
  bd_x (F_X9_readCommand M56) fun M59 =>
  F_X9_execute_19 64 M59
set_option maxHeartbeats 4000000 in
set_option maxRecDepth 100000 in
theorem cm_X9_execute {l : Launch} {X : fw_X} {M : fw_M}  {o : Int32 × fw_M} (hF : F_X9_execute M = some o) : ct_i l X yX9_execute cX9_execute 2 (some .int) ({ frames := 7, cells := 0, slots := 0, locals := 150 } : Room) M [.ref (fw_ad X 378)] (.inl o.1, o.2) := by
  refine fw_open rfl (Nat.le_of_ble_eq_true rfl) (fun p e s m below meth c ls C hr hlk hnm hex hl B => ?_)
  have C : fr_C X p c cX9_execute 2 RX9 s m ([.ref (fw_ad X 378)] : List Value).toArray := C
  have hx := C.1.1
  have hb := C.1.2.1
  have hl : lv_has ls 2 [(0, .ref (fw_ad X 378))] := hl
  have hJ126 : ∀ (n : Nat), ∀ (x1 : Int32) (M : fw_M) (H : Heap) (locs : List Loc) (ls : Array Slot), F_X9_execute_126  n x1 M = some o → fr_H X s M H locs → lv_has ls 2 [(0, .ref (fw_ad X 378)), (1, .int x1)] → W p l e ({ frames := 7, cells := 0, slots := 0, locals := 150 } : Room) s m ([.ref (fw_ad X 378)] : List Value).toArray below meth c H locs 0 0 (vx_MQ below (fw_Qi X (.inl o.1, o.2)) (fw_Qx X (.inl o.1, o.2)) ([.ref (fw_ad X 378)] : List Value).toArray s 0 0 (fw_A X)) (F0 m 126 ls []) := by
    intro n
    induction n with
    | zero =>
      intro x1 M H locs ls hF B hl
      exact absurd hF (by simp [F_X9_execute_126])
    | succ n ih =>
      intro x1 M H locs ls hF B hl
      rw [F_X9_execute_126] at hF
      refine lv_iload_n hx hb dX9_execute_126 rfl (lv_at hl 1 rfl) ?_
      refine lv_aload_n hx hb dX9_execute_127 rfl (lv_at hl 0 rfl) ?_
      refine gf_X9_263 C B dX9_execute_128 ?_
      refine lv_icmp_ge (tgt := 167) hx hb dX9_execute_131 (by decide) (fun c1 => ?_) (fun c1 => ?_)
      · have hF := it_t hF c1
        refine lv_aload_n hx hb dX9_execute_167 rfl (lv_at hl 0 rfl) ?_
        refine lv_aload_n hx hb dX9_execute_168 rfl (lv_at hl 0 rfl) ?_
        refine gf_X9_263 C B dX9_execute_169 ?_
        obtain ⟨r3, M4, hf2, hF⟩ := bp_e hF
        refine fr_cVi (As := [.int (M 378 16)]) (rest := []) C B (cm_X9_ends hf2) ob_9 rfl yw_X9_ends wm_X9_72 rfl hl.1 rfl (Nat.le_of_ble_eq_true rfl) ⟨Nat.le_of_ble_eq_true rfl, Nat.le_of_ble_eq_true rfl⟩ ⟨Nat.le_of_ble_eq_true rfl, Nat.le_of_ble_eq_true rfl⟩ dX9_execute_172 (fr_nx rfl) (fun r9 M9 H locs ho9 B => ?_)
        obtain ⟨rfl, rfl⟩ := oi_e ho9
        exact fr_iret C B hr rfl hlk (by rw [← Option.some.inj hF]) (Nat.le_of_ble_eq_true rfl) (Nat.le_of_ble_eq_true rfl) dX9_execute_175
      · have hF := it_f hF c1
        refine lv_aload_n hx hb dX9_execute_134 rfl (lv_at hl 0 rfl) ?_
        refine lv_iload_n hx hb dX9_execute_135 rfl (lv_at hl 1 rfl) ?_
        obtain ⟨M7, hf5, hF⟩ := bx_e hF
        refine fr_cVv (As := [.int x1]) (rest := []) C B (cm_X9_does hf5) ob_9 rfl yw_X9_does wm_X9_276 rfl hl.1 rfl (Nat.le_of_ble_eq_true rfl) ⟨Nat.le_of_ble_eq_true rfl, Nat.le_of_ble_eq_true rfl⟩ ⟨Nat.le_of_ble_eq_true rfl, Nat.le_of_ble_eq_true rfl⟩ dX9_execute_136 (fr_nx rfl) (fun M9 H locs ho9 B => ?_)
        obtain ⟨-, rfl⟩ := oi_e ho9
        refine lv_aload_n hx hb dX9_execute_139 rfl (lv_at hl 0 rfl) ?_
        refine gf_X9_39 C B dX9_execute_140 ?_
        refine lv_if_le (tgt := 161) hx hb dX9_execute_143 (by decide) (fun c8 => ?_) (fun c8 => ?_)
        · have hF := it_t hF c8
          refine lv_iinc (v := (x1 + 1)) (lv' := [(1, .int (x1 + 1)), (0, .ref (fw_ad X 378))]) hx hb dX9_execute_161 hl (k := 1) rfl rfl (by decide) rfl (fun ls hl => ?_)
          refine lv_goto (tgt := 126) hx hb dX9_execute_164 (by decide) ?_
          exact ih (x1 + 1) M7 _ _ _ hF B (lv_sub hl [1, 0] rfl)
        · have hF := it_f hF c8
          refine lv_aload_n hx hb dX9_execute_146 rfl (lv_at hl 0 rfl) ?_
          refine lv_iload_n hx hb dX9_execute_147 rfl (lv_at hl 1 rfl) ?_
          refine pf_X9_33 C B dX9_execute_148 (fun H locs B => ?_)
          obtain ⟨M9, eM9, hF⟩ := lt_e hF
          rw [← eM9] at B
          refine lv_aload_n hx hb dX9_execute_151 rfl (lv_at hl 0 rfl) ?_
          refine lv_aload_n hx hb dX9_execute_152 rfl (lv_at hl 0 rfl) ?_
          refine lv_iconst (v := 2) hx hb dX9_execute_153 (by decide) ?_
          obtain ⟨r11, M12, hf10, hF⟩ := bp_e hF
          refine fr_cVi (As := [.int 2]) (rest := [.ref (fw_ad X 378)]) C B (cm_X9_fails hf10) ob_9 rfl yw_X9_fails wm_X9_63 rfl hl.1 rfl (Nat.le_of_ble_eq_true rfl) ⟨Nat.le_of_ble_eq_true rfl, Nat.le_of_ble_eq_true rfl⟩ ⟨Nat.le_of_ble_eq_true rfl, Nat.le_of_ble_eq_true rfl⟩ dX9_execute_154 (fr_nx rfl) (fun r9 M9 H locs ho9 B => ?_)
          obtain ⟨rfl, rfl⟩ := oi_e ho9
          obtain ⟨r14, M15, hf13, hF⟩ := bp_e hF
          refine fr_cVi (As := [.int r11]) (rest := []) C B (cm_X9_ends hf13) ob_9 rfl yw_X9_ends wm_X9_72 rfl hl.1 rfl (Nat.le_of_ble_eq_true rfl) ⟨Nat.le_of_ble_eq_true rfl, Nat.le_of_ble_eq_true rfl⟩ ⟨Nat.le_of_ble_eq_true rfl, Nat.le_of_ble_eq_true rfl⟩ dX9_execute_157 (fr_nx rfl) (fun r9 M9 H locs ho9 B => ?_)
          obtain ⟨rfl, rfl⟩ := oi_e ho9
          exact fr_iret C B hr rfl hlk (by rw [← Option.some.inj hF]) (Nat.le_of_ble_eq_true rfl) (Nat.le_of_ble_eq_true rfl) dX9_execute_160
  have hJ80 : ∀ (M : fw_M) (H : Heap) (locs : List Loc) (ls : Array Slot), F_X9_execute_80  M = some o → fr_H X s M H locs → lv_has ls 2 [(0, .ref (fw_ad X 378))] → W p l e ({ frames := 7, cells := 0, slots := 0, locals := 150 } : Room) s m ([.ref (fw_ad X 378)] : List Value).toArray below meth c H locs 0 0 (vx_MQ below (fw_Qi X (.inl o.1, o.2)) (fw_Qx X (.inl o.1, o.2)) ([.ref (fw_ad X 378)] : List Value).toArray s 0 0 (fw_A X)) (F0 m 80 ls []) := by
    intro M H locs ls hF B hl
    unfold F_X9_execute_80 at hF
    refine lv_aload_n hx hb dX9_execute_80 rfl (lv_at hl 0 rfl) ?_
    refine lv_aload_n hx hb dX9_execute_81 rfl (lv_at hl 0 rfl) ?_
    refine gf_X9_217 C B dX9_execute_82 ?_
    refine lv_if_eq (tgt := 95) hx hb dX9_execute_85 (by decide) (fun c16 => ?_) (fun c16 => ?_)
    · have hF := it_t hF c16
      refine lv_aload_n hx hb dX9_execute_95 rfl (lv_at hl 0 rfl) ?_
      refine gf_X9_29 C B dX9_execute_96 ?_
      refine pf_X9_29 C B dX9_execute_99 (fun H locs B => ?_)
      obtain ⟨M17, eM17, hF⟩ := lt_e hF
      rw [← eM17] at B
      refine lv_aload_n hx hb dX9_execute_102 rfl (lv_at hl 0 rfl) ?_
      refine lv_iconst (v := 0) hx hb dX9_execute_103 (by decide) ?_
      refine pf_X9_207 C B dX9_execute_104 (fun H locs B => ?_)
      obtain ⟨M18, eM18, hF⟩ := lt_e hF
      rw [← eM18] at B
      refine lv_aload_n hx hb dX9_execute_107 rfl (lv_at hl 0 rfl) ?_
      refine gf_X9_217 C B dX9_execute_108 ?_
      refine lv_if_eq (tgt := 120) hx hb dX9_execute_111 (by decide) (fun c19 => ?_) (fun c19 => ?_)
      · have hF := it_t hF c19
        refine lv_aload_n hx hb dX9_execute_120 rfl (lv_at hl 0 rfl) ?_
        obtain ⟨M22, hf20, hF⟩ := bx_e hF
        refine fr_cVv (As := []) (rest := []) C B (cm_X9_keep hf20) ob_9 rfl yw_X9_keep wm_X9_66 rfl hl.1 rfl (Nat.le_of_ble_eq_true rfl) ⟨Nat.le_of_ble_eq_true rfl, Nat.le_of_ble_eq_true rfl⟩ ⟨Nat.le_of_ble_eq_true rfl, Nat.le_of_ble_eq_true rfl⟩ dX9_execute_121 (fr_nx rfl) (fun M9 H locs ho9 B => ?_)
        obtain ⟨-, rfl⟩ := oi_e ho9
        refine lv_iconst (v := 0) hx hb dX9_execute_124 (by decide) ?_
        refine lv_istore_n (lv' := [(1, .int 0), (0, .ref (fw_ad X 378))]) hx hb dX9_execute_125 rfl hl (by decide) rfl (fun ls hl => ?_)
        exact hJ126 64 0 M22 _ _ _ hF B (lv_sub hl [1, 0] rfl)
      · have hF := it_f hF c19
        refine lv_aload_n hx hb dX9_execute_114 rfl (lv_at hl 0 rfl) ?_
        refine lv_iconst (v := 1) hx hb dX9_execute_115 (by decide) ?_
        obtain ⟨r24, M25, hf23, hF⟩ := bp_e hF
        refine fr_cVi (As := [.int 1]) (rest := []) C B (cm_X9_fails hf23) ob_9 rfl yw_X9_fails wm_X9_63 rfl hl.1 rfl (Nat.le_of_ble_eq_true rfl) ⟨Nat.le_of_ble_eq_true rfl, Nat.le_of_ble_eq_true rfl⟩ ⟨Nat.le_of_ble_eq_true rfl, Nat.le_of_ble_eq_true rfl⟩ dX9_execute_116 (fr_nx rfl) (fun r9 M9 H locs ho9 B => ?_)
        obtain ⟨rfl, rfl⟩ := oi_e ho9
        exact fr_iret C B hr rfl hlk (by rw [← Option.some.inj hF]) (Nat.le_of_ble_eq_true rfl) (Nat.le_of_ble_eq_true rfl) dX9_execute_119
    · have hF := it_f hF c16
      refine lv_aload_n hx hb dX9_execute_88 rfl (lv_at hl 0 rfl) ?_
      refine gf_X9_210 C B dX9_execute_89 ?_
      refine lv_goto (tgt := 99) hx hb dX9_execute_92 (by decide) ?_
      refine pf_X9_29 C B dX9_execute_99 (fun H locs B => ?_)
      obtain ⟨M26, eM26, hF⟩ := lt_e hF
      rw [← eM26] at B
      refine lv_aload_n hx hb dX9_execute_102 rfl (lv_at hl 0 rfl) ?_
      refine lv_iconst (v := 0) hx hb dX9_execute_103 (by decide) ?_
      refine pf_X9_207 C B dX9_execute_104 (fun H locs B => ?_)
      obtain ⟨M27, eM27, hF⟩ := lt_e hF
      rw [← eM27] at B
      refine lv_aload_n hx hb dX9_execute_107 rfl (lv_at hl 0 rfl) ?_
      refine gf_X9_217 C B dX9_execute_108 ?_
      refine lv_if_eq (tgt := 120) hx hb dX9_execute_111 (by decide) (fun c28 => ?_) (fun c28 => ?_)
      · have hF := it_t hF c28
        refine lv_aload_n hx hb dX9_execute_120 rfl (lv_at hl 0 rfl) ?_
        obtain ⟨M31, hf29, hF⟩ := bx_e hF
        refine fr_cVv (As := []) (rest := []) C B (cm_X9_keep hf29) ob_9 rfl yw_X9_keep wm_X9_66 rfl hl.1 rfl (Nat.le_of_ble_eq_true rfl) ⟨Nat.le_of_ble_eq_true rfl, Nat.le_of_ble_eq_true rfl⟩ ⟨Nat.le_of_ble_eq_true rfl, Nat.le_of_ble_eq_true rfl⟩ dX9_execute_121 (fr_nx rfl) (fun M9 H locs ho9 B => ?_)
        obtain ⟨-, rfl⟩ := oi_e ho9
        refine lv_iconst (v := 0) hx hb dX9_execute_124 (by decide) ?_
        refine lv_istore_n (lv' := [(1, .int 0), (0, .ref (fw_ad X 378))]) hx hb dX9_execute_125 rfl hl (by decide) rfl (fun ls hl => ?_)
        exact hJ126 64 0 M31 _ _ _ hF B (lv_sub hl [1, 0] rfl)
      · have hF := it_f hF c28
        refine lv_aload_n hx hb dX9_execute_114 rfl (lv_at hl 0 rfl) ?_
        refine lv_iconst (v := 1) hx hb dX9_execute_115 (by decide) ?_
        obtain ⟨r33, M34, hf32, hF⟩ := bp_e hF
        refine fr_cVi (As := [.int 1]) (rest := []) C B (cm_X9_fails hf32) ob_9 rfl yw_X9_fails wm_X9_63 rfl hl.1 rfl (Nat.le_of_ble_eq_true rfl) ⟨Nat.le_of_ble_eq_true rfl, Nat.le_of_ble_eq_true rfl⟩ ⟨Nat.le_of_ble_eq_true rfl, Nat.le_of_ble_eq_true rfl⟩ dX9_execute_116 (fr_nx rfl) (fun r9 M9 H locs ho9 B => ?_)
        obtain ⟨rfl, rfl⟩ := oi_e ho9
        exact fr_iret C B hr rfl hlk (by rw [← Option.some.inj hF]) (Nat.le_of_ble_eq_true rfl) (Nat.le_of_ble_eq_true rfl) dX9_execute_119
  have hJ19 : ∀ (n : Nat), ∀ (M : fw_M) (H : Heap) (locs : List Loc) (ls : Array Slot), F_X9_execute_19  n M = some o → fr_H X s M H locs → lv_has ls 2 [(0, .ref (fw_ad X 378))] → W p l e ({ frames := 7, cells := 0, slots := 0, locals := 150 } : Room) s m ([.ref (fw_ad X 378)] : List Value).toArray below meth c H locs 0 0 (vx_MQ below (fw_Qi X (.inl o.1, o.2)) (fw_Qx X (.inl o.1, o.2)) ([.ref (fw_ad X 378)] : List Value).toArray s 0 0 (fw_A X)) (F0 m 19 ls []) := by
    intro n
    induction n with
    | zero =>
      intro M H locs ls hF B hl
      exact absurd hF (by simp [F_X9_execute_19])
    | succ n ih =>
      intro M H locs ls hF B hl
      rw [F_X9_execute_19] at hF
      refine lv_aload_n hx hb dX9_execute_19 rfl (lv_at hl 0 rfl) ?_
      refine gf_X9_217 C B dX9_execute_20 ?_
      refine lv_if_ne (tgt := 53) hx hb dX9_execute_23 (by decide) (fun c35 => ?_) (fun c35 => ?_)
      · have hF := it_t hF c35
        refine lv_aload_n hx hb dX9_execute_53 rfl (lv_at hl 0 rfl) ?_
        refine lv_aload_n hx hb dX9_execute_54 rfl (lv_at hl 0 rfl) ?_
        refine gf_X9_217 C B dX9_execute_55 ?_
        refine lv_if_ne (tgt := 72) hx hb dX9_execute_58 (by decide) (fun c36 => ?_) (fun c36 => ?_)
        · have hF := it_t hF c36
          refine lv_iconst (v := 1) hx hb dX9_execute_72 (by decide) ?_
          refine lv_goto (tgt := 77) hx hb dX9_execute_73 (by decide) ?_
          refine pf_X9_217 C B (by decide) dX9_execute_77 (fun H locs B => ?_)
          obtain ⟨M37, eM37, hF⟩ := lt_e hF
          rw [← eM37] at B
          exact hJ80 M37 _ _ _ hF B (lv_sub hl [0] rfl)
        · have hF := it_f hF (not_not_intro c36)
          refine lv_aload_n hx hb dX9_execute_61 rfl (lv_at hl 0 rfl) ?_
          refine gf_X9_210 C B dX9_execute_62 ?_
          refine lv_aload_n hx hb dX9_execute_65 rfl (lv_at hl 0 rfl) ?_
          refine gf_X9_207 C B dX9_execute_66 ?_
          refine lv_icmp_ge (tgt := 76) hx hb dX9_execute_69 (by decide) (fun c38 => ?_) (fun c38 => ?_)
          · have hF := it_t hF c38
            refine lv_iconst (v := 0) hx hb dX9_execute_76 (by decide) ?_
            refine pf_X9_217 C B (by decide) dX9_execute_77 (fun H locs B => ?_)
            obtain ⟨M39, eM39, hF⟩ := lt_e hF
            rw [← eM39] at B
            exact hJ80 M39 _ _ _ hF B (lv_sub hl [0] rfl)
          · have hF := it_f hF c38
            refine lv_iconst (v := 1) hx hb dX9_execute_72 (by decide) ?_
            refine lv_goto (tgt := 77) hx hb dX9_execute_73 (by decide) ?_
            refine pf_X9_217 C B (by decide) dX9_execute_77 (fun H locs B => ?_)
            obtain ⟨M40, eM40, hF⟩ := lt_e hF
            rw [← eM40] at B
            exact hJ80 M40 _ _ _ hF B (lv_sub hl [0] rfl)
      · have hF := it_f hF (not_not_intro c35)
        refine lv_aload_n hx hb dX9_execute_26 rfl (lv_at hl 0 rfl) ?_
        refine lv_iconst (v := 0) hx hb dX9_execute_27 (by decide) ?_
        obtain ⟨r42, hf41, hF⟩ := bx_e hF
        refine fr_cVi (As := [.int 0]) (rest := []) C B (cm_X9_behind hf41) ob_9 rfl yw_X9_behind wm_X9_221 rfl hl.1 rfl (Nat.le_of_ble_eq_true rfl) ⟨Nat.le_of_ble_eq_true rfl, Nat.le_of_ble_eq_true rfl⟩ ⟨Nat.le_of_ble_eq_true rfl, Nat.le_of_ble_eq_true rfl⟩ dX9_execute_28 (fr_nx rfl) (fun r9 M9 H locs ho9 B => ?_)
        obtain ⟨rfl, rfl⟩ := oi_e ho9
        refine lv_bipush (v := 59) hx hb dX9_execute_31 (by decide) ?_
        refine lv_icmp_ne (tgt := 53) hx hb dX9_execute_33 (by decide) (fun c44 => ?_) (fun c44 => ?_)
        · have hF := it_t hF c44
          refine lv_aload_n hx hb dX9_execute_53 rfl (lv_at hl 0 rfl) ?_
          refine lv_aload_n hx hb dX9_execute_54 rfl (lv_at hl 0 rfl) ?_
          refine gf_X9_217 C B dX9_execute_55 ?_
          refine lv_if_ne (tgt := 72) hx hb dX9_execute_58 (by decide) (fun c45 => ?_) (fun c45 => ?_)
          · have hF := it_t hF c45
            refine lv_iconst (v := 1) hx hb dX9_execute_72 (by decide) ?_
            refine lv_goto (tgt := 77) hx hb dX9_execute_73 (by decide) ?_
            refine pf_X9_217 C B (by decide) dX9_execute_77 (fun H locs B => ?_)
            obtain ⟨M46, eM46, hF⟩ := lt_e hF
            rw [← eM46] at B
            exact hJ80 M46 _ _ _ hF B (lv_sub hl [0] rfl)
          · have hF := it_f hF (not_not_intro c45)
            refine lv_aload_n hx hb dX9_execute_61 rfl (lv_at hl 0 rfl) ?_
            refine gf_X9_210 C B dX9_execute_62 ?_
            refine lv_aload_n hx hb dX9_execute_65 rfl (lv_at hl 0 rfl) ?_
            refine gf_X9_207 C B dX9_execute_66 ?_
            refine lv_icmp_ge (tgt := 76) hx hb dX9_execute_69 (by decide) (fun c47 => ?_) (fun c47 => ?_)
            · have hF := it_t hF c47
              refine lv_iconst (v := 0) hx hb dX9_execute_76 (by decide) ?_
              refine pf_X9_217 C B (by decide) dX9_execute_77 (fun H locs B => ?_)
              obtain ⟨M48, eM48, hF⟩ := lt_e hF
              rw [← eM48] at B
              exact hJ80 M48 _ _ _ hF B (lv_sub hl [0] rfl)
            · have hF := it_f hF c47
              refine lv_iconst (v := 1) hx hb dX9_execute_72 (by decide) ?_
              refine lv_goto (tgt := 77) hx hb dX9_execute_73 (by decide) ?_
              refine pf_X9_217 C B (by decide) dX9_execute_77 (fun H locs B => ?_)
              obtain ⟨M49, eM49, hF⟩ := lt_e hF
              rw [← eM49] at B
              exact hJ80 M49 _ _ _ hF B (lv_sub hl [0] rfl)
        · have hF := it_f hF (not_not_intro c44)
          refine lv_aload_n hx hb dX9_execute_36 rfl (lv_at hl 0 rfl) ?_
          refine lv_dup hx hb dX9_execute_37 rfl ?_
          refine gf_X9_210 C B dX9_execute_38 ?_
          refine lv_iconst (v := 1) hx hb dX9_execute_41 (by decide) ?_
          refine lv_iadd hx hb dX9_execute_42 ?_
          refine pf_X9_210 C B dX9_execute_43 (fun H locs B => ?_)
          obtain ⟨M50, eM50, hF⟩ := lt_e hF
          rw [← eM50] at B
          refine lv_aload_n hx hb dX9_execute_46 rfl (lv_at hl 0 rfl) ?_
          obtain ⟨M53, hf51, hF⟩ := bx_e hF
          refine fr_cVv (As := []) (rest := []) C B (cm_X9_readCommand hf51) ob_9 rfl yw_X9_readCommand wm_X9_273 rfl hl.1 rfl (Nat.le_of_ble_eq_true rfl) ⟨Nat.le_of_ble_eq_true rfl, Nat.le_of_ble_eq_true rfl⟩ ⟨Nat.le_of_ble_eq_true rfl, Nat.le_of_ble_eq_true rfl⟩ dX9_execute_47 (fr_nx rfl) (fun M9 H locs ho9 B => ?_)
          obtain ⟨-, rfl⟩ := oi_e ho9
          refine lv_goto (tgt := 19) hx hb dX9_execute_50 (by decide) ?_
          exact ih M53 _ _ _ hF B (lv_sub hl [0] rfl)
  unfold F_X9_execute at hF
  refine lv_aload_n hx hb dX9_execute_0 rfl (lv_at hl 0 rfl) ?_
  refine lv_iconst (v := 0) hx hb dX9_execute_1 (by decide) ?_
  refine pf_X9_210 C B dX9_execute_2 (fun H locs B => ?_)
  obtain ⟨M54, eM54, hF⟩ := lt_e hF
  rw [← eM54] at B
  refine lv_aload_n hx hb dX9_execute_5 rfl (lv_at hl 0 rfl) ?_
  refine lv_iconst (v := 0) hx hb dX9_execute_6 (by decide) ?_
  refine pf_X9_217 C B (by decide) dX9_execute_7 (fun H locs B => ?_)
  obtain ⟨M55, eM55, hF⟩ := lt_e hF
  rw [← eM55] at B
  refine lv_aload_n hx hb dX9_execute_10 rfl (lv_at hl 0 rfl) ?_
  refine lv_iconst (v := 0) hx hb dX9_execute_11 (by decide) ?_
  refine pf_X9_263 C B dX9_execute_12 (fun H locs B => ?_)
  obtain ⟨M56, eM56, hF⟩ := lt_e hF
  rw [← eM56] at B
  refine lv_aload_n hx hb dX9_execute_15 rfl (lv_at hl 0 rfl) ?_
  obtain ⟨M59, hf57, hF⟩ := bx_e hF
  refine fr_cVv (As := []) (rest := []) C B (cm_X9_readCommand hf57) ob_9 rfl yw_X9_readCommand wm_X9_273 rfl hl.1 rfl (Nat.le_of_ble_eq_true rfl) ⟨Nat.le_of_ble_eq_true rfl, Nat.le_of_ble_eq_true rfl⟩ ⟨Nat.le_of_ble_eq_true rfl, Nat.le_of_ble_eq_true rfl⟩ dX9_execute_16 (fr_nx rfl) (fun M9 H locs ho9 B => ?_)
  obtain ⟨-, rfl⟩ := oi_e ho9
  exact hJ19 64 M59 _ _ _ hF B (lv_sub hl [0] rfl)
def F_X9_errorPosition (M : fw_M) : Option (Int32 × fw_M) :=
  if 0 ≤ (M 378 13) then
    lt_x (fw_up M 378 6 0) fun M2 =>
    if (M2 378 6) ≤ 0 then
      some ((M2 378 13), M2)
    else
      some (0, M2)
  else
    lt_x (fw_up M 378 6 1) fun M4 =>
    if (M4 378 6) ≤ 0 then
      some ((M4 378 13), M4)
    else
      some (0, M4)
set_option maxHeartbeats 4000000 in
set_option maxRecDepth 100000 in
theorem cm_X9_errorPosition {l : Launch} {X : fw_X} {M : fw_M}  {o : Int32 × fw_M} (hF : F_X9_errorPosition M = some o) : ct_i l X yX9_errorPosition cX9_errorPosition 1 (some .int) ({ frames := 0, cells := 0, slots := 0, locals := 0 } : Room) M [.ref (fw_ad X 378)] (.inl o.1, o.2) := by
  refine fw_open rfl (Nat.le_of_ble_eq_true rfl) (fun p e s m below meth c ls C hr hlk hnm hex hl B => ?_)
  have C : fr_C X p c cX9_errorPosition 1 RX9 s m ([.ref (fw_ad X 378)] : List Value).toArray := C
  have hx := C.1.1
  have hb := C.1.2.1
  have hl : lv_has ls 1 [(0, .ref (fw_ad X 378))] := hl
  unfold F_X9_errorPosition at hF
  refine lv_aload_n hx hb dX9_errorPosition_0 rfl (lv_at hl 0 rfl) ?_
  refine lv_aload_n hx hb dX9_errorPosition_1 rfl (lv_at hl 0 rfl) ?_
  refine gf_X9_29 C B dX9_errorPosition_2 ?_
  refine lv_if_ge (tgt := 12) hx hb dX9_errorPosition_5 (by decide) (fun c1 => ?_) (fun c1 => ?_)
  · have hF := it_t hF c1
    refine lv_iconst (v := 0) hx hb dX9_errorPosition_12 (by decide) ?_
    refine pf_X9_39 C B dX9_errorPosition_13 (fun H locs B => ?_)
    obtain ⟨M2, eM2, hF⟩ := lt_e hF
    rw [← eM2] at B
    refine lv_aload_n hx hb dX9_errorPosition_16 rfl (lv_at hl 0 rfl) ?_
    refine gf_X9_39 C B dX9_errorPosition_17 ?_
    refine lv_if_le (tgt := 27) hx hb dX9_errorPosition_20 (by decide) (fun c3 => ?_) (fun c3 => ?_)
    · have hF := it_t hF c3
      refine lv_aload_n hx hb dX9_errorPosition_27 rfl (lv_at hl 0 rfl) ?_
      refine gf_X9_29 C B dX9_errorPosition_28 ?_
      exact fr_iret C B hr rfl hlk (by rw [← Option.some.inj hF]) (Nat.le_of_ble_eq_true rfl) (Nat.le_of_ble_eq_true rfl) dX9_errorPosition_31
    · have hF := it_f hF c3
      refine lv_iconst (v := 0) hx hb dX9_errorPosition_23 (by decide) ?_
      refine lv_goto (tgt := 31) hx hb dX9_errorPosition_24 (by decide) ?_
      exact fr_iret C B hr rfl hlk (by rw [← Option.some.inj hF]) (Nat.le_of_ble_eq_true rfl) (Nat.le_of_ble_eq_true rfl) dX9_errorPosition_31
  · have hF := it_f hF c1
    refine lv_iconst (v := 1) hx hb dX9_errorPosition_8 (by decide) ?_
    refine lv_goto (tgt := 13) hx hb dX9_errorPosition_9 (by decide) ?_
    refine pf_X9_39 C B dX9_errorPosition_13 (fun H locs B => ?_)
    obtain ⟨M4, eM4, hF⟩ := lt_e hF
    rw [← eM4] at B
    refine lv_aload_n hx hb dX9_errorPosition_16 rfl (lv_at hl 0 rfl) ?_
    refine gf_X9_39 C B dX9_errorPosition_17 ?_
    refine lv_if_le (tgt := 27) hx hb dX9_errorPosition_20 (by decide) (fun c5 => ?_) (fun c5 => ?_)
    · have hF := it_t hF c5
      refine lv_aload_n hx hb dX9_errorPosition_27 rfl (lv_at hl 0 rfl) ?_
      refine gf_X9_29 C B dX9_errorPosition_28 ?_
      exact fr_iret C B hr rfl hlk (by rw [← Option.some.inj hF]) (Nat.le_of_ble_eq_true rfl) (Nat.le_of_ble_eq_true rfl) dX9_errorPosition_31
    · have hF := it_f hF c5
      refine lv_iconst (v := 0) hx hb dX9_errorPosition_23 (by decide) ?_
      refine lv_goto (tgt := 31) hx hb dX9_errorPosition_24 (by decide) ?_
      exact fr_iret C B hr rfl hlk (by rw [← Option.some.inj hF]) (Nat.le_of_ble_eq_true rfl) (Nat.le_of_ble_eq_true rfl) dX9_errorPosition_31
def F_X9_failedCommand (M : fw_M) : Option (Int32 × fw_M) :=
  if 0 ≤ (M 378 14) then
    lt_x (fw_up M 378 6 0) fun M2 =>
    if (M2 378 6) ≤ 0 then
      some ((M2 378 14), M2)
    else
      some (0, M2)
  else
    lt_x (fw_up M 378 6 1) fun M4 =>
    if (M4 378 6) ≤ 0 then
      some ((M4 378 14), M4)
    else
      some (0, M4)
set_option maxHeartbeats 4000000 in
set_option maxRecDepth 100000 in
theorem cm_X9_failedCommand {l : Launch} {X : fw_X} {M : fw_M}  {o : Int32 × fw_M} (hF : F_X9_failedCommand M = some o) : ct_i l X yX9_failedCommand cX9_failedCommand 1 (some .int) ({ frames := 0, cells := 0, slots := 0, locals := 0 } : Room) M [.ref (fw_ad X 378)] (.inl o.1, o.2) := by
  refine fw_open rfl (Nat.le_of_ble_eq_true rfl) (fun p e s m below meth c ls C hr hlk hnm hex hl B => ?_)
  have C : fr_C X p c cX9_failedCommand 1 RX9 s m ([.ref (fw_ad X 378)] : List Value).toArray := C
  have hx := C.1.1
  have hb := C.1.2.1
  have hl : lv_has ls 1 [(0, .ref (fw_ad X 378))] := hl
  unfold F_X9_failedCommand at hF
  refine lv_aload_n hx hb dX9_failedCommand_0 rfl (lv_at hl 0 rfl) ?_
  refine lv_aload_n hx hb dX9_failedCommand_1 rfl (lv_at hl 0 rfl) ?_
  refine gf_X9_33 C B dX9_failedCommand_2 ?_
  refine lv_if_ge (tgt := 12) hx hb dX9_failedCommand_5 (by decide) (fun c1 => ?_) (fun c1 => ?_)
  · have hF := it_t hF c1
    refine lv_iconst (v := 0) hx hb dX9_failedCommand_12 (by decide) ?_
    refine pf_X9_39 C B dX9_failedCommand_13 (fun H locs B => ?_)
    obtain ⟨M2, eM2, hF⟩ := lt_e hF
    rw [← eM2] at B
    refine lv_aload_n hx hb dX9_failedCommand_16 rfl (lv_at hl 0 rfl) ?_
    refine gf_X9_39 C B dX9_failedCommand_17 ?_
    refine lv_if_le (tgt := 27) hx hb dX9_failedCommand_20 (by decide) (fun c3 => ?_) (fun c3 => ?_)
    · have hF := it_t hF c3
      refine lv_aload_n hx hb dX9_failedCommand_27 rfl (lv_at hl 0 rfl) ?_
      refine gf_X9_33 C B dX9_failedCommand_28 ?_
      exact fr_iret C B hr rfl hlk (by rw [← Option.some.inj hF]) (Nat.le_of_ble_eq_true rfl) (Nat.le_of_ble_eq_true rfl) dX9_failedCommand_31
    · have hF := it_f hF c3
      refine lv_iconst (v := 0) hx hb dX9_failedCommand_23 (by decide) ?_
      refine lv_goto (tgt := 31) hx hb dX9_failedCommand_24 (by decide) ?_
      exact fr_iret C B hr rfl hlk (by rw [← Option.some.inj hF]) (Nat.le_of_ble_eq_true rfl) (Nat.le_of_ble_eq_true rfl) dX9_failedCommand_31
  · have hF := it_f hF c1
    refine lv_iconst (v := 1) hx hb dX9_failedCommand_8 (by decide) ?_
    refine lv_goto (tgt := 13) hx hb dX9_failedCommand_9 (by decide) ?_
    refine pf_X9_39 C B dX9_failedCommand_13 (fun H locs B => ?_)
    obtain ⟨M4, eM4, hF⟩ := lt_e hF
    rw [← eM4] at B
    refine lv_aload_n hx hb dX9_failedCommand_16 rfl (lv_at hl 0 rfl) ?_
    refine gf_X9_39 C B dX9_failedCommand_17 ?_
    refine lv_if_le (tgt := 27) hx hb dX9_failedCommand_20 (by decide) (fun c5 => ?_) (fun c5 => ?_)
    · have hF := it_t hF c5
      refine lv_aload_n hx hb dX9_failedCommand_27 rfl (lv_at hl 0 rfl) ?_
      refine gf_X9_33 C B dX9_failedCommand_28 ?_
      exact fr_iret C B hr rfl hlk (by rw [← Option.some.inj hF]) (Nat.le_of_ble_eq_true rfl) (Nat.le_of_ble_eq_true rfl) dX9_failedCommand_31
    · have hF := it_f hF c5
      refine lv_iconst (v := 0) hx hb dX9_failedCommand_23 (by decide) ?_
      refine lv_goto (tgt := 31) hx hb dX9_failedCommand_24 (by decide) ?_
      exact fr_iret C B hr rfl hlk (by rw [← Option.some.inj hF]) (Nat.le_of_ble_eq_true rfl) (Nat.le_of_ble_eq_true rfl) dX9_failedCommand_31
def F_X9_undo_16   (M : fw_M) : Option (Int32 × fw_M) :=
  if (M 378 6) ≤ 0 then
    lt_x (fw_up M 378 5 ((M 378 5) - 1)) fun M2 =>
    if (¬ (129 * (M2 378 5)) < 0 ∧ ¬ (0 : Int32) < 0 ∧ ¬ (129 : Int32) < 0 ∧ ((129 * (M2 378 5)) : Int32).toNatClampNeg + (129 : Int32).toNatClampNeg ≤ 1032 ∧ (0 : Int32).toNatClampNeg + (129 : Int32).toNatClampNeg ≤ 129) then
    lt_x (fw_cp M2 382 379 ((129 * (M2 378 5)) : Int32).toNatClampNeg (0 : Int32).toNatClampNeg (129 : Int32).toNatClampNeg) fun M4 =>
    some ((M4 378 5), M4)
    else none
  else
    some (0, M)
def F_X9_undo (M : fw_M) : Option (Int32 × fw_M) :=
  if ¬ (M 378 5) = 0 then
    lt_x (fw_up M 378 6 0) fun M6 =>
    F_X9_undo_16 M6
  else
    lt_x (fw_up M 378 6 1) fun M7 =>
    F_X9_undo_16 M7
set_option maxHeartbeats 4000000 in
set_option maxRecDepth 100000 in
theorem cm_X9_undo {l : Launch} {X : fw_X} {M : fw_M}  {o : Int32 × fw_M} (hF : F_X9_undo M = some o) : ct_i l X yX9_undo cX9_undo 1 (some .int) ({ frames := 1, cells := 0, slots := 0, locals := 60 } : Room) M [.ref (fw_ad X 378)] (.inl o.1, o.2) := by
  refine fw_open rfl (Nat.le_of_ble_eq_true rfl) (fun p e s m below meth c ls C hr hlk hnm hex hl B => ?_)
  have C : fr_C X p c cX9_undo 1 RX9 s m ([.ref (fw_ad X 378)] : List Value).toArray := C
  have hx := C.1.1
  have hb := C.1.2.1
  have hl : lv_has ls 1 [(0, .ref (fw_ad X 378))] := hl
  have hJ16 : ∀ (M : fw_M) (H : Heap) (locs : List Loc) (ls : Array Slot), F_X9_undo_16  M = some o → fr_H X s M H locs → lv_has ls 1 [(0, .ref (fw_ad X 378))] → W p l e ({ frames := 1, cells := 0, slots := 0, locals := 60 } : Room) s m ([.ref (fw_ad X 378)] : List Value).toArray below meth c H locs 0 0 (vx_MQ below (fw_Qi X (.inl o.1, o.2)) (fw_Qx X (.inl o.1, o.2)) ([.ref (fw_ad X 378)] : List Value).toArray s 0 0 (fw_A X)) (F0 m 16 ls []) := by
    intro M H locs ls hF B hl
    unfold F_X9_undo_16 at hF
    refine lv_aload_n hx hb dX9_undo_16 rfl (lv_at hl 0 rfl) ?_
    refine gf_X9_39 C B dX9_undo_17 ?_
    refine lv_if_le (tgt := 25) hx hb dX9_undo_20 (by decide) (fun c1 => ?_) (fun c1 => ?_)
    · have hF := it_t hF c1
      refine lv_aload_n hx hb dX9_undo_25 rfl (lv_at hl 0 rfl) ?_
      refine lv_dup hx hb dX9_undo_26 rfl ?_
      refine gf_X9_48 C B dX9_undo_27 ?_
      refine lv_iconst (v := 1) hx hb dX9_undo_30 (by decide) ?_
      refine lv_isub hx hb dX9_undo_31 ?_
      refine pf_X9_48 C B dX9_undo_32 (fun H locs B => ?_)
      obtain ⟨M2, eM2, hF⟩ := lt_e hF
      rw [← eM2] at B
      refine lv_aload_n hx hb dX9_undo_35 rfl (lv_at hl 0 rfl) ?_
      refine gf_X9_19 C B dX9_undo_36 ?_
      refine lv_sipush (v := 129) hx hb dX9_undo_39 (by decide) ?_
      refine lv_aload_n hx hb dX9_undo_42 rfl (lv_at hl 0 rfl) ?_
      refine gf_X9_48 C B dX9_undo_43 ?_
      refine lv_imul hx hb dX9_undo_46 ?_
      refine lv_aload_n hx hb dX9_undo_47 rfl (lv_at hl 0 rfl) ?_
      refine gf_X9_9 C B dX9_undo_48 ?_
      refine lv_iconst (v := 0) hx hb dX9_undo_51 (by decide) ?_
      refine lv_sipush (v := 129) hx hb dX9_undo_52 (by decide) ?_
      obtain ⟨c3, hF⟩ := of_g hF
      refine fr_copy C B ar_9_382 ar_9_379 wm_X9_42 wn_cp wt_cp wi_sys hl.1 c3 (Nat.le_of_ble_eq_true rfl) (Nat.le_of_ble_eq_true rfl) dX9_undo_55 (fun H locs B => ?_)
      obtain ⟨M4, eM4, hF⟩ := lt_e hF
      rw [← eM4] at B
      refine lv_aload_n hx hb dX9_undo_58 rfl (lv_at hl 0 rfl) ?_
      refine gf_X9_48 C B dX9_undo_59 ?_
      exact fr_iret C B hr rfl hlk (by rw [← Option.some.inj hF]) (Nat.le_of_ble_eq_true rfl) (Nat.le_of_ble_eq_true rfl) dX9_undo_62
    · have hF := it_f hF c1
      refine lv_iconst (v := 0) hx hb dX9_undo_23 (by decide) ?_
      exact fr_iret C B hr rfl hlk (by rw [← Option.some.inj hF]) (Nat.le_of_ble_eq_true rfl) (Nat.le_of_ble_eq_true rfl) dX9_undo_24
  unfold F_X9_undo at hF
  refine lv_aload_n hx hb dX9_undo_0 rfl (lv_at hl 0 rfl) ?_
  refine lv_aload_n hx hb dX9_undo_1 rfl (lv_at hl 0 rfl) ?_
  refine gf_X9_48 C B dX9_undo_2 ?_
  refine lv_if_ne (tgt := 12) hx hb dX9_undo_5 (by decide) (fun c5 => ?_) (fun c5 => ?_)
  · have hF := it_t hF c5
    refine lv_iconst (v := 0) hx hb dX9_undo_12 (by decide) ?_
    refine pf_X9_39 C B dX9_undo_13 (fun H locs B => ?_)
    obtain ⟨M6, eM6, hF⟩ := lt_e hF
    rw [← eM6] at B
    exact hJ16 M6 _ _ _ hF B (lv_sub hl [0] rfl)
  · have hF := it_f hF (not_not_intro c5)
    refine lv_iconst (v := 1) hx hb dX9_undo_8 (by decide) ?_
    refine lv_goto (tgt := 13) hx hb dX9_undo_9 (by decide) ?_
    refine pf_X9_39 C B dX9_undo_13 (fun H locs B => ?_)
    obtain ⟨M7, eM7, hF⟩ := lt_e hF
    rw [← eM7] at B
    exact hJ16 M7 _ _ _ hF B (lv_sub hl [0] rfl)
def F_X9_save (M : fw_M) : Option (Int32 × fw_M) :=
  lt_x (fw_up M 378 6 0) fun M1 =>
  if (¬ (0 : Int32) < 0 ∧ ¬ (0 : Int32) < 0 ∧ ¬ (129 : Int32) < 0 ∧ (0 : Int32).toNatClampNeg + (129 : Int32).toNatClampNeg ≤ 129 ∧ (0 : Int32).toNatClampNeg + (129 : Int32).toNatClampNeg ≤ 129) then
  lt_x (fw_cp M1 379 381 (0 : Int32).toNatClampNeg (0 : Int32).toNatClampNeg (129 : Int32).toNatClampNeg) fun M3 =>
  lt_x (fw_up M3 378 3 1) fun M4 =>
  if ix_i 3 129 then
  some ((fw_ri M4 379 3), M4)
  else none
  else none
set_option maxHeartbeats 4000000 in
set_option maxRecDepth 100000 in
theorem cm_X9_save {l : Launch} {X : fw_X} {M : fw_M}  {o : Int32 × fw_M} (hF : F_X9_save M = some o) : ct_i l X yX9_save cX9_save 1 (some .int) ({ frames := 1, cells := 0, slots := 0, locals := 60 } : Room) M [.ref (fw_ad X 378)] (.inl o.1, o.2) := by
  refine fw_open rfl (Nat.le_of_ble_eq_true rfl) (fun p e s m below meth c ls C hr hlk hnm hex hl B => ?_)
  have C : fr_C X p c cX9_save 1 RX9 s m ([.ref (fw_ad X 378)] : List Value).toArray := C
  have hx := C.1.1
  have hb := C.1.2.1
  have hl : lv_has ls 1 [(0, .ref (fw_ad X 378))] := hl
  unfold F_X9_save at hF
  refine lv_aload_n hx hb dX9_save_0 rfl (lv_at hl 0 rfl) ?_
  refine lv_iconst (v := 0) hx hb dX9_save_1 (by decide) ?_
  refine pf_X9_39 C B dX9_save_2 (fun H locs B => ?_)
  obtain ⟨M1, eM1, hF⟩ := lt_e hF
  rw [← eM1] at B
  refine lv_aload_n hx hb dX9_save_5 rfl (lv_at hl 0 rfl) ?_
  refine gf_X9_9 C B dX9_save_6 ?_
  refine lv_iconst (v := 0) hx hb dX9_save_9 (by decide) ?_
  refine lv_aload_n hx hb dX9_save_10 rfl (lv_at hl 0 rfl) ?_
  refine gf_X9_16 C B dX9_save_11 ?_
  refine lv_iconst (v := 0) hx hb dX9_save_14 (by decide) ?_
  refine lv_sipush (v := 129) hx hb dX9_save_15 (by decide) ?_
  obtain ⟨c2, hF⟩ := of_g hF
  refine fr_copy C B ar_9_379 ar_9_381 wm_X9_42 wn_cp wt_cp wi_sys hl.1 c2 (Nat.le_of_ble_eq_true rfl) (Nat.le_of_ble_eq_true rfl) dX9_save_18 (fun H locs B => ?_)
  obtain ⟨M3, eM3, hF⟩ := lt_e hF
  rw [← eM3] at B
  refine lv_aload_n hx hb dX9_save_21 rfl (lv_at hl 0 rfl) ?_
  refine lv_iconst (v := 1) hx hb dX9_save_22 (by decide) ?_
  refine pf_X9_279 C B (by decide) dX9_save_23 (fun H locs B => ?_)
  obtain ⟨M4, eM4, hF⟩ := lt_e hF
  rw [← eM4] at B
  refine lv_aload_n hx hb dX9_save_26 rfl (lv_at hl 0 rfl) ?_
  refine gf_X9_9 C B dX9_save_27 ?_
  refine lv_iconst (v := 3) hx hb dX9_save_30 (by decide) ?_
  obtain ⟨c5, hF⟩ := of_g hF
  refine fr_ia C B ar_9_379 c5 dX9_save_31 ?_
  exact fr_iret C B hr rfl hlk (by rw [← Option.some.inj hF]) (Nat.le_of_ble_eq_true rfl) (Nat.le_of_ble_eq_true rfl) dX9_save_32
def F_X9_restore_16   (M : fw_M) : Option (Int32 × fw_M) :=
  if (M 378 6) ≤ 0 then
    if (¬ (0 : Int32) < 0 ∧ ¬ (0 : Int32) < 0 ∧ ¬ (129 : Int32) < 0 ∧ (0 : Int32).toNatClampNeg + (129 : Int32).toNatClampNeg ≤ 129 ∧ (0 : Int32).toNatClampNeg + (129 : Int32).toNatClampNeg ≤ 129) then
    lt_x (fw_cp M 381 379 (0 : Int32).toNatClampNeg (0 : Int32).toNatClampNeg (129 : Int32).toNatClampNeg) fun M3 =>
    lt_x (fw_up M3 378 5 0) fun M4 =>
    if ix_i 3 129 then
    some ((fw_ri M4 379 3), M4)
    else none
    else none
  else
    some (0, M)
def F_X9_restore (M : fw_M) : Option (Int32 × fw_M) :=
  if (M 378 3) = 0 then
    lt_x (fw_up M 378 6 1) fun M7 =>
    F_X9_restore_16 M7
  else
    lt_x (fw_up M 378 6 0) fun M8 =>
    F_X9_restore_16 M8
set_option maxHeartbeats 4000000 in
set_option maxRecDepth 100000 in
theorem cm_X9_restore {l : Launch} {X : fw_X} {M : fw_M}  {o : Int32 × fw_M} (hF : F_X9_restore M = some o) : ct_i l X yX9_restore cX9_restore 1 (some .int) ({ frames := 1, cells := 0, slots := 0, locals := 60 } : Room) M [.ref (fw_ad X 378)] (.inl o.1, o.2) := by
  refine fw_open rfl (Nat.le_of_ble_eq_true rfl) (fun p e s m below meth c ls C hr hlk hnm hex hl B => ?_)
  have C : fr_C X p c cX9_restore 1 RX9 s m ([.ref (fw_ad X 378)] : List Value).toArray := C
  have hx := C.1.1
  have hb := C.1.2.1
  have hl : lv_has ls 1 [(0, .ref (fw_ad X 378))] := hl
  have hJ16 : ∀ (M : fw_M) (H : Heap) (locs : List Loc) (ls : Array Slot), F_X9_restore_16  M = some o → fr_H X s M H locs → lv_has ls 1 [(0, .ref (fw_ad X 378))] → W p l e ({ frames := 1, cells := 0, slots := 0, locals := 60 } : Room) s m ([.ref (fw_ad X 378)] : List Value).toArray below meth c H locs 0 0 (vx_MQ below (fw_Qi X (.inl o.1, o.2)) (fw_Qx X (.inl o.1, o.2)) ([.ref (fw_ad X 378)] : List Value).toArray s 0 0 (fw_A X)) (F0 m 16 ls []) := by
    intro M H locs ls hF B hl
    unfold F_X9_restore_16 at hF
    refine lv_aload_n hx hb dX9_restore_16 rfl (lv_at hl 0 rfl) ?_
    refine gf_X9_39 C B dX9_restore_17 ?_
    refine lv_if_le (tgt := 25) hx hb dX9_restore_20 (by decide) (fun c1 => ?_) (fun c1 => ?_)
    · have hF := it_t hF c1
      refine lv_aload_n hx hb dX9_restore_25 rfl (lv_at hl 0 rfl) ?_
      refine gf_X9_16 C B dX9_restore_26 ?_
      refine lv_iconst (v := 0) hx hb dX9_restore_29 (by decide) ?_
      refine lv_aload_n hx hb dX9_restore_30 rfl (lv_at hl 0 rfl) ?_
      refine gf_X9_9 C B dX9_restore_31 ?_
      refine lv_iconst (v := 0) hx hb dX9_restore_34 (by decide) ?_
      refine lv_sipush (v := 129) hx hb dX9_restore_35 (by decide) ?_
      obtain ⟨c2, hF⟩ := of_g hF
      refine fr_copy C B ar_9_381 ar_9_379 wm_X9_42 wn_cp wt_cp wi_sys hl.1 c2 (Nat.le_of_ble_eq_true rfl) (Nat.le_of_ble_eq_true rfl) dX9_restore_38 (fun H locs B => ?_)
      obtain ⟨M3, eM3, hF⟩ := lt_e hF
      rw [← eM3] at B
      refine lv_aload_n hx hb dX9_restore_41 rfl (lv_at hl 0 rfl) ?_
      refine lv_iconst (v := 0) hx hb dX9_restore_42 (by decide) ?_
      refine pf_X9_48 C B dX9_restore_43 (fun H locs B => ?_)
      obtain ⟨M4, eM4, hF⟩ := lt_e hF
      rw [← eM4] at B
      refine lv_aload_n hx hb dX9_restore_46 rfl (lv_at hl 0 rfl) ?_
      refine gf_X9_9 C B dX9_restore_47 ?_
      refine lv_iconst (v := 3) hx hb dX9_restore_50 (by decide) ?_
      obtain ⟨c5, hF⟩ := of_g hF
      refine fr_ia C B ar_9_379 c5 dX9_restore_51 ?_
      exact fr_iret C B hr rfl hlk (by rw [← Option.some.inj hF]) (Nat.le_of_ble_eq_true rfl) (Nat.le_of_ble_eq_true rfl) dX9_restore_52
    · have hF := it_f hF c1
      refine lv_iconst (v := 0) hx hb dX9_restore_23 (by decide) ?_
      exact fr_iret C B hr rfl hlk (by rw [← Option.some.inj hF]) (Nat.le_of_ble_eq_true rfl) (Nat.le_of_ble_eq_true rfl) dX9_restore_24
  unfold F_X9_restore at hF
  refine lv_aload_n hx hb dX9_restore_0 rfl (lv_at hl 0 rfl) ?_
  refine lv_aload_n hx hb dX9_restore_1 rfl (lv_at hl 0 rfl) ?_
  refine gf_X9_279 C B dX9_restore_2 ?_
  refine lv_if_eq (tgt := 12) hx hb dX9_restore_5 (by decide) (fun c6 => ?_) (fun c6 => ?_)
  · have hF := it_t hF c6
    refine lv_iconst (v := 1) hx hb dX9_restore_12 (by decide) ?_
    refine pf_X9_39 C B dX9_restore_13 (fun H locs B => ?_)
    obtain ⟨M7, eM7, hF⟩ := lt_e hF
    rw [← eM7] at B
    exact hJ16 M7 _ _ _ hF B (lv_sub hl [0] rfl)
  · have hF := it_f hF c6
    refine lv_iconst (v := 0) hx hb dX9_restore_8 (by decide) ?_
    refine lv_goto (tgt := 13) hx hb dX9_restore_9 (by decide) ?_
    refine pf_X9_39 C B dX9_restore_13 (fun H locs B => ?_)
    obtain ⟨M8, eM8, hF⟩ := lt_e hF
    rw [← eM8] at B
    exact hJ16 M8 _ _ _ hF B (lv_sub hl [0] rfl)
def F_X9_crowd_4 (M : fw_M) (a1 : Int32)  : Nat → Int32 → Int32 → Option (Int32)
  | 0, _, _ => none
  | n + 1, x2, x3 =>
    if ix_i 3 129 then
    if (fw_ri M 379 3) ≤ x3 then
      some x2
    else
      bd_x (F_X9_ofPassenger M x3 1) fun r4 =>
      if ¬ r4 = a1 then
        F_X9_crowd_4 M a1 n (x2 + 0) (x3 + 1)
      else
        F_X9_crowd_4 M a1 n (x2 + 1) (x3 + 1)
    else none
def F_X9_crowd (M : fw_M) (a1 : Int32) : Option (Int32) :=
  F_X9_crowd_4 M a1 64 0 0
set_option maxHeartbeats 4000000 in
set_option maxRecDepth 100000 in
theorem cm_X9_crowd {l : Launch} {X : fw_X} {M : fw_M} {a1 : Int32}  {o : Int32} (hF : F_X9_crowd M a1 = some o) : ct_i l X yX9_crowd cX9_crowd 4 (some .int) ({ frames := 1, cells := 0, slots := 0, locals := 22 } : Room) M [.ref (fw_ad X 378), .int a1] (.inl o, M) := by
  refine fw_open rfl (Nat.le_of_ble_eq_true rfl) (fun p e s m below meth c ls C hr hlk hnm hex hl B => ?_)
  have C : fr_C X p c cX9_crowd 4 RX9 s m ([.ref (fw_ad X 378), .int a1] : List Value).toArray := C
  have hx := C.1.1
  have hb := C.1.2.1
  have hl : lv_has ls 4 [(0, .ref (fw_ad X 378)), (1, .int a1)] := hl
  have hJ4 : ∀ (n : Nat), ∀ (x2 : Int32) (x3 : Int32) (H : Heap) (locs : List Loc) (ls : Array Slot), F_X9_crowd_4 M a1 n x2 x3 = some o → fr_H X s M H locs → lv_has ls 4 [(0, .ref (fw_ad X 378)), (1, .int a1), (2, .int x2), (3, .int x3)] → W p l e ({ frames := 1, cells := 0, slots := 0, locals := 22 } : Room) s m ([.ref (fw_ad X 378), .int a1] : List Value).toArray below meth c H locs 0 0 (vx_MQ below (fw_Qi X (.inl o, M)) (fw_Qx X (.inl o, M)) ([.ref (fw_ad X 378), .int a1] : List Value).toArray s 0 0 (fw_A X)) (F0 m 4 ls []) := by
    intro n
    induction n with
    | zero =>
      intro x2 x3 H locs ls hF B hl
      exact absurd hF (by simp [F_X9_crowd_4])
    | succ n ih =>
      intro x2 x3 H locs ls hF B hl
      rw [F_X9_crowd_4] at hF
      refine lv_iload_n hx hb dX9_crowd_4 rfl (lv_at hl 3 rfl) ?_
      refine lv_aload_n hx hb dX9_crowd_5 rfl (lv_at hl 0 rfl) ?_
      refine gf_X9_9 C B dX9_crowd_6 ?_
      refine lv_iconst (v := 3) hx hb dX9_crowd_9 (by decide) ?_
      obtain ⟨c1, hF⟩ := of_g hF
      refine fr_ia C B ar_9_379 c1 dX9_crowd_10 ?_
      refine lv_icmp_ge (tgt := 38) hx hb dX9_crowd_11 (by decide) (fun c2 => ?_) (fun c2 => ?_)
      · have hF := it_t hF c2
        refine lv_iload_n hx hb dX9_crowd_38 rfl (lv_at hl 2 rfl) ?_
        exact fr_iret C B hr rfl hlk (by rw [← Option.some.inj hF]) (Nat.le_of_ble_eq_true rfl) (Nat.le_of_ble_eq_true rfl) dX9_crowd_39
      · have hF := it_f hF c2
        refine lv_iload_n hx hb dX9_crowd_14 rfl (lv_at hl 2 rfl) ?_
        refine lv_aload_n hx hb dX9_crowd_15 rfl (lv_at hl 0 rfl) ?_
        refine lv_iload_n hx hb dX9_crowd_16 rfl (lv_at hl 3 rfl) ?_
        refine lv_iconst (v := 1) hx hb dX9_crowd_17 (by decide) ?_
        obtain ⟨r4, hf3, hF⟩ := bx_e hF
        refine fr_cVi (As := [.int x3, .int 1]) (rest := [.int x2]) C B (cm_X9_ofPassenger hf3) ob_9 rfl yw_X9_ofPassenger wm_X9_117 rfl hl.1 rfl (Nat.le_of_ble_eq_true rfl) ⟨Nat.le_of_ble_eq_true rfl, Nat.le_of_ble_eq_true rfl⟩ ⟨Nat.le_of_ble_eq_true rfl, Nat.le_of_ble_eq_true rfl⟩ dX9_crowd_18 (fr_nx rfl) (fun r9 M9 H locs ho9 B => ?_)
        obtain ⟨rfl, rfl⟩ := oi_e ho9
        refine lv_iload_n hx hb dX9_crowd_21 rfl (lv_at hl 1 rfl) ?_
        refine lv_icmp_ne (tgt := 29) hx hb dX9_crowd_22 (by decide) (fun c6 => ?_) (fun c6 => ?_)
        · have hF := it_t hF c6
          refine lv_iconst (v := 0) hx hb dX9_crowd_29 (by decide) ?_
          refine lv_iadd hx hb dX9_crowd_30 ?_
          refine lv_istore_n (lv' := [(2, .int (x2 + 0)), (0, .ref (fw_ad X 378)), (1, .int a1), (3, .int x3)]) hx hb dX9_crowd_31 rfl hl (by decide) rfl (fun ls hl => ?_)
          refine lv_iinc (v := (x3 + 1)) (lv' := [(3, .int (x3 + 1)), (2, .int (x2 + 0)), (0, .ref (fw_ad X 378)), (1, .int a1)]) hx hb dX9_crowd_32 hl (k := 3) rfl rfl (by decide) rfl (fun ls hl => ?_)
          refine lv_goto (tgt := 4) hx hb dX9_crowd_35 (by decide) ?_
          exact ih (x2 + 0) (x3 + 1) _ _ _ hF B (lv_sub hl [2, 3, 1, 0] rfl)
        · have hF := it_f hF (not_not_intro c6)
          refine lv_iconst (v := 1) hx hb dX9_crowd_25 (by decide) ?_
          refine lv_goto (tgt := 30) hx hb dX9_crowd_26 (by decide) ?_
          refine lv_iadd hx hb dX9_crowd_30 ?_
          refine lv_istore_n (lv' := [(2, .int (x2 + 1)), (0, .ref (fw_ad X 378)), (1, .int a1), (3, .int x3)]) hx hb dX9_crowd_31 rfl hl (by decide) rfl (fun ls hl => ?_)
          refine lv_iinc (v := (x3 + 1)) (lv' := [(3, .int (x3 + 1)), (2, .int (x2 + 1)), (0, .ref (fw_ad X 378)), (1, .int a1)]) hx hb dX9_crowd_32 hl (k := 3) rfl rfl (by decide) rfl (fun ls hl => ?_)
          refine lv_goto (tgt := 4) hx hb dX9_crowd_35 (by decide) ?_
          exact ih (x2 + 1) (x3 + 1) _ _ _ hF B (lv_sub hl [2, 3, 1, 0] rfl)
  unfold F_X9_crowd at hF
  refine lv_iconst (v := 0) hx hb dX9_crowd_0 (by decide) ?_
  refine lv_istore_n (lv' := [(2, .int 0), (0, .ref (fw_ad X 378)), (1, .int a1)]) hx hb dX9_crowd_1 rfl hl (by decide) rfl (fun ls hl => ?_)
  refine lv_iconst (v := 0) hx hb dX9_crowd_2 (by decide) ?_
  refine lv_istore_n (lv' := [(3, .int 0), (2, .int 0), (0, .ref (fw_ad X 378)), (1, .int a1)]) hx hb dX9_crowd_3 rfl hl (by decide) rfl (fun ls hl => ?_)
  exact hJ4 64 0 0 _ _ _ hF B (lv_sub hl [2, 3, 1, 0] rfl)
def F_X9_crowdOf (M : fw_M) (a1 : Int32) : Option (Int32 × fw_M) :=
  bd_x (F_X9_isTram M a1) fun r2 =>
  bd_p (F_X9_isThere M r2) fun r5 M6 =>
  if r5 = 0 then
    some (0, M6)
  else
    bd_x (F_X9_crowd M6 a1) fun r9 =>
    some (r9, M6)
set_option maxHeartbeats 4000000 in
set_option maxRecDepth 100000 in
theorem cm_X9_crowdOf {l : Launch} {X : fw_X} {M : fw_M} {a1 : Int32}  {o : Int32 × fw_M} (hF : F_X9_crowdOf M a1 = some o) : ct_i l X yX9_crowdOf cX9_crowdOf 2 (some .int) ({ frames := 2, cells := 0, slots := 0, locals := 45 } : Room) M [.ref (fw_ad X 378), .int a1] (.inl o.1, o.2) := by
  refine fw_open rfl (Nat.le_of_ble_eq_true rfl) (fun p e s m below meth c ls C hr hlk hnm hex hl B => ?_)
  have C : fr_C X p c cX9_crowdOf 2 RX9 s m ([.ref (fw_ad X 378), .int a1] : List Value).toArray := C
  have hx := C.1.1
  have hb := C.1.2.1
  have hl : lv_has ls 2 [(0, .ref (fw_ad X 378)), (1, .int a1)] := hl
  unfold F_X9_crowdOf at hF
  refine lv_aload_n hx hb dX9_crowdOf_0 rfl (lv_at hl 0 rfl) ?_
  refine lv_aload_n hx hb dX9_crowdOf_1 rfl (lv_at hl 0 rfl) ?_
  refine lv_iload_n hx hb dX9_crowdOf_2 rfl (lv_at hl 1 rfl) ?_
  obtain ⟨r2, hf1, hF⟩ := bx_e hF
  refine fr_cVi (As := [.int a1]) (rest := [.ref (fw_ad X 378)]) C B (cm_X9_isTram hf1) ob_9 rfl yw_X9_isTram wm_X9_108 rfl hl.1 rfl (Nat.le_of_ble_eq_true rfl) ⟨Nat.le_of_ble_eq_true rfl, Nat.le_of_ble_eq_true rfl⟩ ⟨Nat.le_of_ble_eq_true rfl, Nat.le_of_ble_eq_true rfl⟩ dX9_crowdOf_3 (fr_nx rfl) (fun r9 M9 H locs ho9 B => ?_)
  obtain ⟨rfl, rfl⟩ := oi_e ho9
  obtain ⟨r5, M6, hf4, hF⟩ := bp_e hF
  refine fr_cVi (As := [.int r2]) (rest := []) C B (cm_X9_isThere hf4) ob_9 rfl yw_X9_isThere wm_X9_91 rfl hl.1 rfl (Nat.le_of_ble_eq_true rfl) ⟨Nat.le_of_ble_eq_true rfl, Nat.le_of_ble_eq_true rfl⟩ ⟨Nat.le_of_ble_eq_true rfl, Nat.le_of_ble_eq_true rfl⟩ dX9_crowdOf_6 (fr_nx rfl) (fun r9 M9 H locs ho9 B => ?_)
  obtain ⟨rfl, rfl⟩ := oi_e ho9
  refine lv_if_eq (tgt := 20) hx hb dX9_crowdOf_9 (by decide) (fun c7 => ?_) (fun c7 => ?_)
  · have hF := it_t hF c7
    refine lv_iconst (v := 0) hx hb dX9_crowdOf_20 (by decide) ?_
    exact fr_iret C B hr rfl hlk (by rw [← Option.some.inj hF]) (Nat.le_of_ble_eq_true rfl) (Nat.le_of_ble_eq_true rfl) dX9_crowdOf_21
  · have hF := it_f hF c7
    refine lv_aload_n hx hb dX9_crowdOf_12 rfl (lv_at hl 0 rfl) ?_
    refine lv_iload_n hx hb dX9_crowdOf_13 rfl (lv_at hl 1 rfl) ?_
    obtain ⟨r9, hf8, hF⟩ := bx_e hF
    refine fr_cVi (As := [.int a1]) (rest := []) C B (cm_X9_crowd hf8) ob_9 rfl yw_X9_crowd wm_X9_120 rfl hl.1 rfl (Nat.le_of_ble_eq_true rfl) ⟨Nat.le_of_ble_eq_true rfl, Nat.le_of_ble_eq_true rfl⟩ ⟨Nat.le_of_ble_eq_true rfl, Nat.le_of_ble_eq_true rfl⟩ dX9_crowdOf_14 (fr_nx rfl) (fun r9 M9 H locs ho9 B => ?_)
    obtain ⟨rfl, rfl⟩ := oi_e ho9
    refine lv_goto (tgt := 21) hx hb dX9_crowdOf_17 (by decide) ?_
    exact fr_iret C B hr rfl hlk (by rw [← Option.some.inj hF]) (Nat.le_of_ble_eq_true rfl) (Nat.le_of_ble_eq_true rfl) dX9_crowdOf_21
def F_X9_fullestTram_22   : Nat → Int32 → Int32 → fw_M → Option (Int32 × fw_M)
  | 0, _, _, _ => none
  | n + 1, x1, x2, M =>
    if ix_i 2 129 then
    if (fw_ri M 379 2) ≤ x2 then
      some (x1, M)
    else
      bd_x (F_X9_crowd M x2) fun r4 =>
      bd_x (F_X9_crowd M x1) fun r7 =>
      if r4 ≤ r7 then
        F_X9_fullestTram_22  n x1 (x2 + 1) M
      else
        F_X9_fullestTram_22  n x2 (x2 + 1) M
    else none
def F_X9_fullestTram (M : fw_M) : Option (Int32 × fw_M) :=
  if ix_i 2 129 then
  if ¬ (fw_ri M 379 2) = 0 then
    lt_x (fw_up M 378 6 0) fun M12 =>
    F_X9_fullestTram_22 64 0 1 M12
  else
    lt_x (fw_up M 378 6 1) fun M13 =>
    F_X9_fullestTram_22 64 0 1 M13
  else none
set_option maxHeartbeats 4000000 in
set_option maxRecDepth 100000 in
theorem cm_X9_fullestTram {l : Launch} {X : fw_X} {M : fw_M}  {o : Int32 × fw_M} (hF : F_X9_fullestTram M = some o) : ct_i l X yX9_fullestTram cX9_fullestTram 3 (some .int) ({ frames := 2, cells := 0, slots := 0, locals := 45 } : Room) M [.ref (fw_ad X 378)] (.inl o.1, o.2) := by
  refine fw_open rfl (Nat.le_of_ble_eq_true rfl) (fun p e s m below meth c ls C hr hlk hnm hex hl B => ?_)
  have C : fr_C X p c cX9_fullestTram 3 RX9 s m ([.ref (fw_ad X 378)] : List Value).toArray := C
  have hx := C.1.1
  have hb := C.1.2.1
  have hl : lv_has ls 3 [(0, .ref (fw_ad X 378))] := hl
  have hJ22 : ∀ (n : Nat), ∀ (x1 : Int32) (x2 : Int32) (M : fw_M) (H : Heap) (locs : List Loc) (ls : Array Slot), F_X9_fullestTram_22  n x1 x2 M = some o → fr_H X s M H locs → lv_has ls 3 [(0, .ref (fw_ad X 378)), (1, .int x1), (2, .int x2)] → W p l e ({ frames := 2, cells := 0, slots := 0, locals := 45 } : Room) s m ([.ref (fw_ad X 378)] : List Value).toArray below meth c H locs 0 0 (vx_MQ below (fw_Qi X (.inl o.1, o.2)) (fw_Qx X (.inl o.1, o.2)) ([.ref (fw_ad X 378)] : List Value).toArray s 0 0 (fw_A X)) (F0 m 22 ls []) := by
    intro n
    induction n with
    | zero =>
      intro x1 x2 M H locs ls hF B hl
      exact absurd hF (by simp [F_X9_fullestTram_22])
    | succ n ih =>
      intro x1 x2 M H locs ls hF B hl
      rw [F_X9_fullestTram_22] at hF
      refine lv_iload_n hx hb dX9_fullestTram_22 rfl (lv_at hl 2 rfl) ?_
      refine lv_aload_n hx hb dX9_fullestTram_23 rfl (lv_at hl 0 rfl) ?_
      refine gf_X9_9 C B dX9_fullestTram_24 ?_
      refine lv_iconst (v := 2) hx hb dX9_fullestTram_27 (by decide) ?_
      obtain ⟨c1, hF⟩ := of_g hF
      refine fr_ia C B ar_9_379 c1 dX9_fullestTram_28 ?_
      refine lv_icmp_ge (tgt := 57) hx hb dX9_fullestTram_29 (by decide) (fun c2 => ?_) (fun c2 => ?_)
      · have hF := it_t hF c2
        refine lv_iload_n hx hb dX9_fullestTram_57 rfl (lv_at hl 1 rfl) ?_
        exact fr_iret C B hr rfl hlk (by rw [← Option.some.inj hF]) (Nat.le_of_ble_eq_true rfl) (Nat.le_of_ble_eq_true rfl) dX9_fullestTram_58
      · have hF := it_f hF c2
        refine lv_aload_n hx hb dX9_fullestTram_32 rfl (lv_at hl 0 rfl) ?_
        refine lv_iload_n hx hb dX9_fullestTram_33 rfl (lv_at hl 2 rfl) ?_
        obtain ⟨r4, hf3, hF⟩ := bx_e hF
        refine fr_cVi (As := [.int x2]) (rest := []) C B (cm_X9_crowd hf3) ob_9 rfl yw_X9_crowd wm_X9_120 rfl hl.1 rfl (Nat.le_of_ble_eq_true rfl) ⟨Nat.le_of_ble_eq_true rfl, Nat.le_of_ble_eq_true rfl⟩ ⟨Nat.le_of_ble_eq_true rfl, Nat.le_of_ble_eq_true rfl⟩ dX9_fullestTram_34 (fr_nx rfl) (fun r9 M9 H locs ho9 B => ?_)
        obtain ⟨rfl, rfl⟩ := oi_e ho9
        refine lv_aload_n hx hb dX9_fullestTram_37 rfl (lv_at hl 0 rfl) ?_
        refine lv_iload_n hx hb dX9_fullestTram_38 rfl (lv_at hl 1 rfl) ?_
        obtain ⟨r7, hf6, hF⟩ := bx_e hF
        refine fr_cVi (As := [.int x1]) (rest := [.int r4]) C B (cm_X9_crowd hf6) ob_9 rfl yw_X9_crowd wm_X9_120 rfl hl.1 rfl (Nat.le_of_ble_eq_true rfl) ⟨Nat.le_of_ble_eq_true rfl, Nat.le_of_ble_eq_true rfl⟩ ⟨Nat.le_of_ble_eq_true rfl, Nat.le_of_ble_eq_true rfl⟩ dX9_fullestTram_39 (fr_nx rfl) (fun r9 M9 H locs ho9 B => ?_)
        obtain ⟨rfl, rfl⟩ := oi_e ho9
        refine lv_icmp_le (tgt := 49) hx hb dX9_fullestTram_42 (by decide) (fun c9 => ?_) (fun c9 => ?_)
        · have hF := it_t hF c9
          refine lv_iload_n hx hb dX9_fullestTram_49 rfl (lv_at hl 1 rfl) ?_
          refine lv_istore_n (lv' := [(1, .int x1), (0, .ref (fw_ad X 378)), (2, .int x2)]) hx hb dX9_fullestTram_50 rfl hl (by decide) rfl (fun ls hl => ?_)
          refine lv_iinc (v := (x2 + 1)) (lv' := [(2, .int (x2 + 1)), (1, .int x1), (0, .ref (fw_ad X 378))]) hx hb dX9_fullestTram_51 hl (k := 2) rfl rfl (by decide) rfl (fun ls hl => ?_)
          refine lv_goto (tgt := 22) hx hb dX9_fullestTram_54 (by decide) ?_
          exact ih x1 (x2 + 1) M _ _ _ hF B (lv_sub hl [2, 1, 0] rfl)
        · have hF := it_f hF c9
          refine lv_iload_n hx hb dX9_fullestTram_45 rfl (lv_at hl 2 rfl) ?_
          refine lv_goto (tgt := 50) hx hb dX9_fullestTram_46 (by decide) ?_
          refine lv_istore_n (lv' := [(1, .int x2), (0, .ref (fw_ad X 378)), (2, .int x2)]) hx hb dX9_fullestTram_50 rfl hl (by decide) rfl (fun ls hl => ?_)
          refine lv_iinc (v := (x2 + 1)) (lv' := [(2, .int (x2 + 1)), (1, .int x2), (0, .ref (fw_ad X 378))]) hx hb dX9_fullestTram_51 hl (k := 2) rfl rfl (by decide) rfl (fun ls hl => ?_)
          refine lv_goto (tgt := 22) hx hb dX9_fullestTram_54 (by decide) ?_
          exact ih x2 (x2 + 1) M _ _ _ hF B (lv_sub hl [2, 1, 0] rfl)
  unfold F_X9_fullestTram at hF
  refine lv_aload_n hx hb dX9_fullestTram_0 rfl (lv_at hl 0 rfl) ?_
  refine lv_aload_n hx hb dX9_fullestTram_1 rfl (lv_at hl 0 rfl) ?_
  refine gf_X9_9 C B dX9_fullestTram_2 ?_
  refine lv_iconst (v := 2) hx hb dX9_fullestTram_5 (by decide) ?_
  obtain ⟨c10, hF⟩ := of_g hF
  refine fr_ia C B ar_9_379 c10 dX9_fullestTram_6 ?_
  refine lv_if_ne (tgt := 14) hx hb dX9_fullestTram_7 (by decide) (fun c11 => ?_) (fun c11 => ?_)
  · have hF := it_t hF c11
    refine lv_iconst (v := 0) hx hb dX9_fullestTram_14 (by decide) ?_
    refine pf_X9_39 C B dX9_fullestTram_15 (fun H locs B => ?_)
    obtain ⟨M12, eM12, hF⟩ := lt_e hF
    rw [← eM12] at B
    refine lv_iconst (v := 0) hx hb dX9_fullestTram_18 (by decide) ?_
    refine lv_istore_n (lv' := [(1, .int 0), (0, .ref (fw_ad X 378))]) hx hb dX9_fullestTram_19 rfl hl (by decide) rfl (fun ls hl => ?_)
    refine lv_iconst (v := 1) hx hb dX9_fullestTram_20 (by decide) ?_
    refine lv_istore_n (lv' := [(2, .int 1), (1, .int 0), (0, .ref (fw_ad X 378))]) hx hb dX9_fullestTram_21 rfl hl (by decide) rfl (fun ls hl => ?_)
    exact hJ22 64 0 1 M12 _ _ _ hF B (lv_sub hl [2, 1, 0] rfl)
  · have hF := it_f hF (not_not_intro c11)
    refine lv_iconst (v := 1) hx hb dX9_fullestTram_10 (by decide) ?_
    refine lv_goto (tgt := 15) hx hb dX9_fullestTram_11 (by decide) ?_
    refine pf_X9_39 C B dX9_fullestTram_15 (fun H locs B => ?_)
    obtain ⟨M13, eM13, hF⟩ := lt_e hF
    rw [← eM13] at B
    refine lv_iconst (v := 0) hx hb dX9_fullestTram_18 (by decide) ?_
    refine lv_istore_n (lv' := [(1, .int 0), (0, .ref (fw_ad X 378))]) hx hb dX9_fullestTram_19 rfl hl (by decide) rfl (fun ls hl => ?_)
    refine lv_iconst (v := 1) hx hb dX9_fullestTram_20 (by decide) ?_
    refine lv_istore_n (lv' := [(2, .int 1), (1, .int 0), (0, .ref (fw_ad X 378))]) hx hb dX9_fullestTram_21 rfl hl (by decide) rfl (fun ls hl => ?_)
    exact hJ22 64 0 1 M13 _ _ _ hF B (lv_sub hl [2, 1, 0] rfl)
