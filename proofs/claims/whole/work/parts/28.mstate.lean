def F_X7_copyFrom (M : fw_M) (g : Nat) (g1 : Nat) : Option (fw_M) :=
  bd_x (F_X3_copyFrom M (g + 1) (g1 + 1)) fun M3 =>
  bd_x (F_X1_copyFrom M3 (g + 11) (g1 + 11)) fun M6 =>
  bd_x (F_X6_copyFrom M6 (g + 15) (g1 + 15)) fun M9 =>
  bd_x (F_X2_copyFrom M9 (g + 22) (g1 + 22)) fun M12 =>
  lt_x (fw_up M12 g 4 (M12 g1 4)) fun M13 =>
  some M13
set_option maxHeartbeats 4000000 in
set_option maxRecDepth 100000 in
theorem cm_X7_copyFrom {l : Launch} {X : fw_X} {M : fw_M} {g : Nat} {g1 : Nat} (hg : is7 g) (h1 : is7 g1) {o : fw_M} (hF : F_X7_copyFrom M g g1 = some o) : ct_v l X yX7_copyFrom cX7_copyFrom 2 none ({ frames := 2, cells := 0, slots := 0, locals := 82 } : Room) M [.ref (fw_ad X g), .ref (fw_ad X g1)] (.inl 0, o) := by
  refine fw_open rfl (Nat.le_of_ble_eq_true rfl) (fun p e s m below meth c ls C hr hlk hnm hex hl B => ?_)
  have C : fr_C X p c cX7_copyFrom 2 RX7 s m ([.ref (fw_ad X g), .ref (fw_ad X g1)] : List Value).toArray := C
  have hx := C.1.1
  have hb := C.1.2.1
  have hl : lv_has ls 2 [(0, .ref (fw_ad X g)), (1, .ref (fw_ad X g1))] := hl
  unfold F_X7_copyFrom at hF
  refine lv_aload_n hx hb dX7_copyFrom_0 rfl (lv_at hl 0 rfl) ?_
  refine gf_X7_12 C B hg dX7_copyFrom_1 ?_
  refine lv_aload_n hx hb dX7_copyFrom_4 rfl (lv_at hl 1 rfl) ?_
  refine gf_X7_12 C B h1 dX7_copyFrom_5 ?_
  obtain ⟨M3, hf1, hF⟩ := bx_e hF
  refine fr_cVv (As := [.ref (fw_ad X (g1 + 1))]) (rest := []) C B (cm_X3_copyFrom (is3_of hg) (is3_of h1) hf1) (ob_3 (is3_of hg)) rfl yw_X3_copyFrom wm_X7_39 rfl hl.1 rfl (Nat.le_of_ble_eq_true rfl) ⟨Nat.le_of_ble_eq_true rfl, Nat.le_of_ble_eq_true rfl⟩ ⟨Nat.le_of_ble_eq_true rfl, Nat.le_of_ble_eq_true rfl⟩ dX7_copyFrom_8 (fr_nx rfl) (fun M9 H locs ho9 B => ?_)
  obtain ⟨-, rfl⟩ := oi_e ho9
  refine lv_aload_n hx hb dX7_copyFrom_11 rfl (lv_at hl 0 rfl) ?_
  refine gf_X7_21 C B hg dX7_copyFrom_12 ?_
  refine lv_aload_n hx hb dX7_copyFrom_15 rfl (lv_at hl 1 rfl) ?_
  refine gf_X7_21 C B h1 dX7_copyFrom_16 ?_
  obtain ⟨M6, hf4, hF⟩ := bx_e hF
  refine fr_cVv (As := [.ref (fw_ad X (g1 + 11))]) (rest := []) C B (cm_X1_copyFrom (is1_of hg) (is1_of h1) hf4) (ob_1 (is1_of hg)) rfl yw_X1_copyFrom wm_X7_43 rfl hl.1 rfl (Nat.le_of_ble_eq_true rfl) ⟨Nat.le_of_ble_eq_true rfl, Nat.le_of_ble_eq_true rfl⟩ ⟨Nat.le_of_ble_eq_true rfl, Nat.le_of_ble_eq_true rfl⟩ dX7_copyFrom_19 (fr_nx rfl) (fun M9 H locs ho9 B => ?_)
  obtain ⟨-, rfl⟩ := oi_e ho9
  refine lv_aload_n hx hb dX7_copyFrom_22 rfl (lv_at hl 0 rfl) ?_
  refine gf_X7_28 C B hg dX7_copyFrom_23 ?_
  refine lv_aload_n hx hb dX7_copyFrom_26 rfl (lv_at hl 1 rfl) ?_
  refine gf_X7_28 C B h1 dX7_copyFrom_27 ?_
  obtain ⟨M9, hf7, hF⟩ := bx_e hF
  refine fr_cVv (As := [.ref (fw_ad X (g1 + 15))]) (rest := []) C B (cm_X6_copyFrom (is6_of hg) (is6_of h1) hf7) (ob_6 (is6_of hg)) rfl yw_X6_copyFrom wm_X7_46 rfl hl.1 rfl (Nat.le_of_ble_eq_true rfl) ⟨Nat.le_of_ble_eq_true rfl, Nat.le_of_ble_eq_true rfl⟩ ⟨Nat.le_of_ble_eq_true rfl, Nat.le_of_ble_eq_true rfl⟩ dX7_copyFrom_30 (fr_nx rfl) (fun M9 H locs ho9 B => ?_)
  obtain ⟨-, rfl⟩ := oi_e ho9
  refine lv_aload_n hx hb dX7_copyFrom_33 rfl (lv_at hl 0 rfl) ?_
  refine gf_X7_35 C B hg dX7_copyFrom_34 ?_
  refine lv_aload_n hx hb dX7_copyFrom_37 rfl (lv_at hl 1 rfl) ?_
  refine gf_X7_35 C B h1 dX7_copyFrom_38 ?_
  obtain ⟨M12, hf10, hF⟩ := bx_e hF
  refine fr_cVv (As := [.ref (fw_ad X (g1 + 22))]) (rest := []) C B (cm_X2_copyFrom (is2_of hg) (is2_of h1) hf10) (ob_2 (is2_of hg)) rfl yw_X2_copyFrom wm_X7_49 rfl hl.1 rfl (Nat.le_of_ble_eq_true rfl) ⟨Nat.le_of_ble_eq_true rfl, Nat.le_of_ble_eq_true rfl⟩ ⟨Nat.le_of_ble_eq_true rfl, Nat.le_of_ble_eq_true rfl⟩ dX7_copyFrom_41 (fr_nx rfl) (fun M9 H locs ho9 B => ?_)
  obtain ⟨-, rfl⟩ := oi_e ho9
  refine lv_aload_n hx hb dX7_copyFrom_44 rfl (lv_at hl 0 rfl) ?_
  refine lv_aload_n hx hb dX7_copyFrom_45 rfl (lv_at hl 1 rfl) ?_
  refine gf_X7_52 C B h1 dX7_copyFrom_46 ?_
  refine pf_X7_52 C B hg dX7_copyFrom_49 (fun H locs B => ?_)
  obtain ⟨M13, eM13, hF⟩ := lt_e hF
  rw [← eM13] at B
  exact fr_vret C B hr hlk (by rw [← Option.some.inj hF]) (Nat.le_of_ble_eq_true rfl) (Nat.le_of_ble_eq_true rfl) dX7_copyFrom_52
def F_X7_faultOfLine (M : fw_M) (g : Nat) (a1 : Int32) (a2 : Int32) : Option (Int32) :=
  bd_x (F_X3_hasStop M (g + 1) a1) fun r2 =>
  if r2 = 0 then
    some 1
  else
    bd_x (F_X3_hasStop M (g + 1) a2) fun r6 =>
    if ¬ r6 = 0 then
      if ¬ a1 = a2 then
        if (M (g + 1) 1) < 5 then
          some 0
        else
          some 3
      else
        some 2
    else
      some 1
set_option maxHeartbeats 4000000 in
set_option maxRecDepth 100000 in
theorem cm_X7_faultOfLine {l : Launch} {X : fw_X} {M : fw_M} {g : Nat} {a1 : Int32} {a2 : Int32} (hg : is7 g) {o : Int32} (hF : F_X7_faultOfLine M g a1 a2 = some o) : ct_i l X yX7_faultOfLine cX7_faultOfLine 3 (some .int) ({ frames := 1, cells := 0, slots := 0, locals := 21 } : Room) M [.ref (fw_ad X g), .int a1, .int a2] (.inl o, M) := by
  refine fw_open rfl (Nat.le_of_ble_eq_true rfl) (fun p e s m below meth c ls C hr hlk hnm hex hl B => ?_)
  have C : fr_C X p c cX7_faultOfLine 3 RX7 s m ([.ref (fw_ad X g), .int a1, .int a2] : List Value).toArray := C
  have hx := C.1.1
  have hb := C.1.2.1
  have hl : lv_has ls 3 [(0, .ref (fw_ad X g)), (1, .int a1), (2, .int a2)] := hl
  unfold F_X7_faultOfLine at hF
  refine lv_aload_n hx hb dX7_faultOfLine_0 rfl (lv_at hl 0 rfl) ?_
  refine gf_X7_12 C B hg dX7_faultOfLine_1 ?_
  refine lv_iload_n hx hb dX7_faultOfLine_4 rfl (lv_at hl 1 rfl) ?_
  obtain ⟨r2, hf1, hF⟩ := bx_e hF
  refine fr_cVi (As := [.int a1]) (rest := []) C B (cm_X3_hasStop (is3_of hg) hf1) (ob_3 (is3_of hg)) rfl yw_X3_hasStop wm_X7_63 rfl hl.1 rfl (Nat.le_of_ble_eq_true rfl) ⟨Nat.le_of_ble_eq_true rfl, Nat.le_of_ble_eq_true rfl⟩ ⟨Nat.le_of_ble_eq_true rfl, Nat.le_of_ble_eq_true rfl⟩ dX7_faultOfLine_5 (fr_nx rfl) (fun r9 M9 H locs ho9 B => ?_)
  obtain ⟨rfl, rfl⟩ := oi_e ho9
  refine lv_if_eq (tgt := 22) hx hb dX7_faultOfLine_8 (by decide) (fun c4 => ?_) (fun c4 => ?_)
  · have hF := it_t hF c4
    refine lv_iconst (v := 1) hx hb dX7_faultOfLine_22 (by decide) ?_
    exact fr_iret C B hr rfl hlk (by rw [← Option.some.inj hF]) (Nat.le_of_ble_eq_true rfl) (Nat.le_of_ble_eq_true rfl) dX7_faultOfLine_23
  · have hF := it_f hF c4
    refine lv_aload_n hx hb dX7_faultOfLine_11 rfl (lv_at hl 0 rfl) ?_
    refine gf_X7_12 C B hg dX7_faultOfLine_12 ?_
    refine lv_iload_n hx hb dX7_faultOfLine_15 rfl (lv_at hl 2 rfl) ?_
    obtain ⟨r6, hf5, hF⟩ := bx_e hF
    refine fr_cVi (As := [.int a2]) (rest := []) C B (cm_X3_hasStop (is3_of hg) hf5) (ob_3 (is3_of hg)) rfl yw_X3_hasStop wm_X7_63 rfl hl.1 rfl (Nat.le_of_ble_eq_true rfl) ⟨Nat.le_of_ble_eq_true rfl, Nat.le_of_ble_eq_true rfl⟩ ⟨Nat.le_of_ble_eq_true rfl, Nat.le_of_ble_eq_true rfl⟩ dX7_faultOfLine_16 (fr_nx rfl) (fun r9 M9 H locs ho9 B => ?_)
    obtain ⟨rfl, rfl⟩ := oi_e ho9
    refine lv_if_ne (tgt := 24) hx hb dX7_faultOfLine_19 (by decide) (fun c8 => ?_) (fun c8 => ?_)
    · have hF := it_t hF c8
      refine lv_iload_n hx hb dX7_faultOfLine_24 rfl (lv_at hl 1 rfl) ?_
      refine lv_iload_n hx hb dX7_faultOfLine_25 rfl (lv_at hl 2 rfl) ?_
      refine lv_icmp_ne (tgt := 31) hx hb dX7_faultOfLine_26 (by decide) (fun c9 => ?_) (fun c9 => ?_)
      · have hF := it_t hF c9
        refine lv_aload_n hx hb dX7_faultOfLine_31 rfl (lv_at hl 0 rfl) ?_
        refine gf_X7_12 C B hg dX7_faultOfLine_32 ?_
        refine gf_X7_66 C B (is3_of hg) dX7_faultOfLine_35 ?_
        refine lv_iconst (v := 5) hx hb dX7_faultOfLine_38 (by decide) ?_
        refine lv_icmp_lt (tgt := 46) hx hb dX7_faultOfLine_39 (by decide) (fun c10 => ?_) (fun c10 => ?_)
        · have hF := it_t hF c10
          refine lv_iconst (v := 0) hx hb dX7_faultOfLine_46 (by decide) ?_
          exact fr_iret C B hr rfl hlk (by rw [← Option.some.inj hF]) (Nat.le_of_ble_eq_true rfl) (Nat.le_of_ble_eq_true rfl) dX7_faultOfLine_47
        · have hF := it_f hF c10
          refine lv_iconst (v := 3) hx hb dX7_faultOfLine_42 (by decide) ?_
          refine lv_goto (tgt := 47) hx hb dX7_faultOfLine_43 (by decide) ?_
          exact fr_iret C B hr rfl hlk (by rw [← Option.some.inj hF]) (Nat.le_of_ble_eq_true rfl) (Nat.le_of_ble_eq_true rfl) dX7_faultOfLine_47
      · have hF := it_f hF (not_not_intro c9)
        refine lv_iconst (v := 2) hx hb dX7_faultOfLine_29 (by decide) ?_
        exact fr_iret C B hr rfl hlk (by rw [← Option.some.inj hF]) (Nat.le_of_ble_eq_true rfl) (Nat.le_of_ble_eq_true rfl) dX7_faultOfLine_30
    · have hF := it_f hF (not_not_intro c8)
      refine lv_iconst (v := 1) hx hb dX7_faultOfLine_22 (by decide) ?_
      exact fr_iret C B hr rfl hlk (by rw [← Option.some.inj hF]) (Nat.le_of_ble_eq_true rfl) (Nat.le_of_ble_eq_true rfl) dX7_faultOfLine_23
def F_X7_faultOfExtension (M : fw_M) (g : Nat) (a1 : Int32) (a2 : Int32) : Option (Int32) :=
  bd_x (F_X3_hasLine M (g + 1) a1) fun r2 =>
  if r2 = 0 then
    some 1
  else
    bd_x (F_X3_hasStop M (g + 1) a2) fun r6 =>
    if ¬ r6 = 0 then
      bd_x (F_X3_serves M (g + 1) a1 a2) fun r10 =>
      if r10 = 0 then
        if ix_i a1 5 then
        if (fw_ri M ((g + 1) + 2) a1) < 6 then
          some 0
        else
          some 3
        else none
      else
        some 2
    else
      some 1
set_option maxHeartbeats 4000000 in
set_option maxRecDepth 100000 in
theorem cm_X7_faultOfExtension {l : Launch} {X : fw_X} {M : fw_M} {g : Nat} {a1 : Int32} {a2 : Int32} (hg : is7 g) {o : Int32} (hF : F_X7_faultOfExtension M g a1 a2 = some o) : ct_i l X yX7_faultOfExtension cX7_faultOfExtension 3 (some .int) ({ frames := 1, cells := 0, slots := 0, locals := 22 } : Room) M [.ref (fw_ad X g), .int a1, .int a2] (.inl o, M) := by
  refine fw_open rfl (Nat.le_of_ble_eq_true rfl) (fun p e s m below meth c ls C hr hlk hnm hex hl B => ?_)
  have C : fr_C X p c cX7_faultOfExtension 3 RX7 s m ([.ref (fw_ad X g), .int a1, .int a2] : List Value).toArray := C
  have hx := C.1.1
  have hb := C.1.2.1
  have hl : lv_has ls 3 [(0, .ref (fw_ad X g)), (1, .int a1), (2, .int a2)] := hl
  unfold F_X7_faultOfExtension at hF
  refine lv_aload_n hx hb dX7_faultOfExtension_0 rfl (lv_at hl 0 rfl) ?_
  refine gf_X7_12 C B hg dX7_faultOfExtension_1 ?_
  refine lv_iload_n hx hb dX7_faultOfExtension_4 rfl (lv_at hl 1 rfl) ?_
  obtain ⟨r2, hf1, hF⟩ := bx_e hF
  refine fr_cVi (As := [.int a1]) (rest := []) C B (cm_X3_hasLine (is3_of hg) hf1) (ob_3 (is3_of hg)) rfl yw_X3_hasLine wm_X7_69 rfl hl.1 rfl (Nat.le_of_ble_eq_true rfl) ⟨Nat.le_of_ble_eq_true rfl, Nat.le_of_ble_eq_true rfl⟩ ⟨Nat.le_of_ble_eq_true rfl, Nat.le_of_ble_eq_true rfl⟩ dX7_faultOfExtension_5 (fr_nx rfl) (fun r9 M9 H locs ho9 B => ?_)
  obtain ⟨rfl, rfl⟩ := oi_e ho9
  refine lv_if_eq (tgt := 22) hx hb dX7_faultOfExtension_8 (by decide) (fun c4 => ?_) (fun c4 => ?_)
  · have hF := it_t hF c4
    refine lv_iconst (v := 1) hx hb dX7_faultOfExtension_22 (by decide) ?_
    exact fr_iret C B hr rfl hlk (by rw [← Option.some.inj hF]) (Nat.le_of_ble_eq_true rfl) (Nat.le_of_ble_eq_true rfl) dX7_faultOfExtension_23
  · have hF := it_f hF c4
    refine lv_aload_n hx hb dX7_faultOfExtension_11 rfl (lv_at hl 0 rfl) ?_
    refine gf_X7_12 C B hg dX7_faultOfExtension_12 ?_
    refine lv_iload_n hx hb dX7_faultOfExtension_15 rfl (lv_at hl 2 rfl) ?_
    obtain ⟨r6, hf5, hF⟩ := bx_e hF
    refine fr_cVi (As := [.int a2]) (rest := []) C B (cm_X3_hasStop (is3_of hg) hf5) (ob_3 (is3_of hg)) rfl yw_X3_hasStop wm_X7_63 rfl hl.1 rfl (Nat.le_of_ble_eq_true rfl) ⟨Nat.le_of_ble_eq_true rfl, Nat.le_of_ble_eq_true rfl⟩ ⟨Nat.le_of_ble_eq_true rfl, Nat.le_of_ble_eq_true rfl⟩ dX7_faultOfExtension_16 (fr_nx rfl) (fun r9 M9 H locs ho9 B => ?_)
    obtain ⟨rfl, rfl⟩ := oi_e ho9
    refine lv_if_ne (tgt := 24) hx hb dX7_faultOfExtension_19 (by decide) (fun c8 => ?_) (fun c8 => ?_)
    · have hF := it_t hF c8
      refine lv_aload_n hx hb dX7_faultOfExtension_24 rfl (lv_at hl 0 rfl) ?_
      refine gf_X7_12 C B hg dX7_faultOfExtension_25 ?_
      refine lv_iload_n hx hb dX7_faultOfExtension_28 rfl (lv_at hl 1 rfl) ?_
      refine lv_iload_n hx hb dX7_faultOfExtension_29 rfl (lv_at hl 2 rfl) ?_
      obtain ⟨r10, hf9, hF⟩ := bx_e hF
      refine fr_cVi (As := [.int a1, .int a2]) (rest := []) C B (cm_X3_serves (is3_of hg) hf9) (ob_3 (is3_of hg)) rfl yw_X3_serves wm_X7_72 rfl hl.1 rfl (Nat.le_of_ble_eq_true rfl) ⟨Nat.le_of_ble_eq_true rfl, Nat.le_of_ble_eq_true rfl⟩ ⟨Nat.le_of_ble_eq_true rfl, Nat.le_of_ble_eq_true rfl⟩ dX7_faultOfExtension_30 (fr_nx rfl) (fun r9 M9 H locs ho9 B => ?_)
      obtain ⟨rfl, rfl⟩ := oi_e ho9
      refine lv_if_eq (tgt := 38) hx hb dX7_faultOfExtension_33 (by decide) (fun c12 => ?_) (fun c12 => ?_)
      · have hF := it_t hF c12
        refine lv_aload_n hx hb dX7_faultOfExtension_38 rfl (lv_at hl 0 rfl) ?_
        refine gf_X7_12 C B hg dX7_faultOfExtension_39 ?_
        refine gf_X7_76 C B (is3_of hg) dX7_faultOfExtension_42 ?_
        refine lv_iload_n hx hb dX7_faultOfExtension_45 rfl (lv_at hl 1 rfl) ?_
        obtain ⟨c13, hF⟩ := of_g hF
        refine fr_ia C B (ar_3_2 (is3_of hg)) c13 dX7_faultOfExtension_46 ?_
        refine lv_bipush (v := 6) hx hb dX7_faultOfExtension_47 (by decide) ?_
        refine lv_icmp_lt (tgt := 56) hx hb dX7_faultOfExtension_49 (by decide) (fun c14 => ?_) (fun c14 => ?_)
        · have hF := it_t hF c14
          refine lv_iconst (v := 0) hx hb dX7_faultOfExtension_56 (by decide) ?_
          exact fr_iret C B hr rfl hlk (by rw [← Option.some.inj hF]) (Nat.le_of_ble_eq_true rfl) (Nat.le_of_ble_eq_true rfl) dX7_faultOfExtension_57
        · have hF := it_f hF c14
          refine lv_iconst (v := 3) hx hb dX7_faultOfExtension_52 (by decide) ?_
          refine lv_goto (tgt := 57) hx hb dX7_faultOfExtension_53 (by decide) ?_
          exact fr_iret C B hr rfl hlk (by rw [← Option.some.inj hF]) (Nat.le_of_ble_eq_true rfl) (Nat.le_of_ble_eq_true rfl) dX7_faultOfExtension_57
      · have hF := it_f hF c12
        refine lv_iconst (v := 2) hx hb dX7_faultOfExtension_36 (by decide) ?_
        exact fr_iret C B hr rfl hlk (by rw [← Option.some.inj hF]) (Nat.le_of_ble_eq_true rfl) (Nat.le_of_ble_eq_true rfl) dX7_faultOfExtension_37
    · have hF := it_f hF (not_not_intro c8)
      refine lv_iconst (v := 1) hx hb dX7_faultOfExtension_22 (by decide) ?_
      exact fr_iret C B hr rfl hlk (by rw [← Option.some.inj hF]) (Nat.le_of_ble_eq_true rfl) (Nat.le_of_ble_eq_true rfl) dX7_faultOfExtension_23
def F_X7_faultOfTram (M : fw_M) (g : Nat) (a1 : Int32) : Option (Int32) :=
  bd_x (F_X3_hasLine M (g + 1) a1) fun r2 =>
  if ¬ r2 = 0 then
    if (M (g + 11) 0) < 6 then
      some 0
    else
      some 3
  else
    some 1
set_option maxHeartbeats 4000000 in
set_option maxRecDepth 100000 in
theorem cm_X7_faultOfTram {l : Launch} {X : fw_X} {M : fw_M} {g : Nat} {a1 : Int32} (hg : is7 g) {o : Int32} (hF : F_X7_faultOfTram M g a1 = some o) : ct_i l X yX7_faultOfTram cX7_faultOfTram 2 (some .int) ({ frames := 1, cells := 0, slots := 0, locals := 21 } : Room) M [.ref (fw_ad X g), .int a1] (.inl o, M) := by
  refine fw_open rfl (Nat.le_of_ble_eq_true rfl) (fun p e s m below meth c ls C hr hlk hnm hex hl B => ?_)
  have C : fr_C X p c cX7_faultOfTram 2 RX7 s m ([.ref (fw_ad X g), .int a1] : List Value).toArray := C
  have hx := C.1.1
  have hb := C.1.2.1
  have hl : lv_has ls 2 [(0, .ref (fw_ad X g)), (1, .int a1)] := hl
  unfold F_X7_faultOfTram at hF
  refine lv_aload_n hx hb dX7_faultOfTram_0 rfl (lv_at hl 0 rfl) ?_
  refine gf_X7_12 C B hg dX7_faultOfTram_1 ?_
  refine lv_iload_n hx hb dX7_faultOfTram_4 rfl (lv_at hl 1 rfl) ?_
  obtain ⟨r2, hf1, hF⟩ := bx_e hF
  refine fr_cVi (As := [.int a1]) (rest := []) C B (cm_X3_hasLine (is3_of hg) hf1) (ob_3 (is3_of hg)) rfl yw_X3_hasLine wm_X7_69 rfl hl.1 rfl (Nat.le_of_ble_eq_true rfl) ⟨Nat.le_of_ble_eq_true rfl, Nat.le_of_ble_eq_true rfl⟩ ⟨Nat.le_of_ble_eq_true rfl, Nat.le_of_ble_eq_true rfl⟩ dX7_faultOfTram_5 (fr_nx rfl) (fun r9 M9 H locs ho9 B => ?_)
  obtain ⟨rfl, rfl⟩ := oi_e ho9
  refine lv_if_ne (tgt := 13) hx hb dX7_faultOfTram_8 (by decide) (fun c4 => ?_) (fun c4 => ?_)
  · have hF := it_t hF c4
    refine lv_aload_n hx hb dX7_faultOfTram_13 rfl (lv_at hl 0 rfl) ?_
    refine gf_X7_21 C B hg dX7_faultOfTram_14 ?_
    refine gf_X7_80 C B (is1_of hg) dX7_faultOfTram_17 ?_
    refine lv_bipush (v := 6) hx hb dX7_faultOfTram_20 (by decide) ?_
    refine lv_icmp_lt (tgt := 29) hx hb dX7_faultOfTram_22 (by decide) (fun c5 => ?_) (fun c5 => ?_)
    · have hF := it_t hF c5
      refine lv_iconst (v := 0) hx hb dX7_faultOfTram_29 (by decide) ?_
      exact fr_iret C B hr rfl hlk (by rw [← Option.some.inj hF]) (Nat.le_of_ble_eq_true rfl) (Nat.le_of_ble_eq_true rfl) dX7_faultOfTram_30
    · have hF := it_f hF c5
      refine lv_iconst (v := 3) hx hb dX7_faultOfTram_25 (by decide) ?_
      refine lv_goto (tgt := 30) hx hb dX7_faultOfTram_26 (by decide) ?_
      exact fr_iret C B hr rfl hlk (by rw [← Option.some.inj hF]) (Nat.le_of_ble_eq_true rfl) (Nat.le_of_ble_eq_true rfl) dX7_faultOfTram_30
  · have hF := it_f hF (not_not_intro c4)
    refine lv_iconst (v := 1) hx hb dX7_faultOfTram_11 (by decide) ?_
    exact fr_iret C B hr rfl hlk (by rw [← Option.some.inj hF]) (Nat.le_of_ble_eq_true rfl) (Nat.le_of_ble_eq_true rfl) dX7_faultOfTram_12
def F_X7_faultOfPassenger (M : fw_M) (g : Nat) (a1 : Int32) : Option (Int32) :=
  bd_x (F_X3_hasStop M (g + 1) a1) fun r2 =>
  if ¬ r2 = 0 then
    if (M (g + 15) 0) < 8 then
      some 0
    else
      some 3
  else
    some 1
set_option maxHeartbeats 4000000 in
set_option maxRecDepth 100000 in
theorem cm_X7_faultOfPassenger {l : Launch} {X : fw_X} {M : fw_M} {g : Nat} {a1 : Int32} (hg : is7 g) {o : Int32} (hF : F_X7_faultOfPassenger M g a1 = some o) : ct_i l X yX7_faultOfPassenger cX7_faultOfPassenger 2 (some .int) ({ frames := 1, cells := 0, slots := 0, locals := 21 } : Room) M [.ref (fw_ad X g), .int a1] (.inl o, M) := by
  refine fw_open rfl (Nat.le_of_ble_eq_true rfl) (fun p e s m below meth c ls C hr hlk hnm hex hl B => ?_)
  have C : fr_C X p c cX7_faultOfPassenger 2 RX7 s m ([.ref (fw_ad X g), .int a1] : List Value).toArray := C
  have hx := C.1.1
  have hb := C.1.2.1
  have hl : lv_has ls 2 [(0, .ref (fw_ad X g)), (1, .int a1)] := hl
  unfold F_X7_faultOfPassenger at hF
  refine lv_aload_n hx hb dX7_faultOfPassenger_0 rfl (lv_at hl 0 rfl) ?_
  refine gf_X7_12 C B hg dX7_faultOfPassenger_1 ?_
  refine lv_iload_n hx hb dX7_faultOfPassenger_4 rfl (lv_at hl 1 rfl) ?_
  obtain ⟨r2, hf1, hF⟩ := bx_e hF
  refine fr_cVi (As := [.int a1]) (rest := []) C B (cm_X3_hasStop (is3_of hg) hf1) (ob_3 (is3_of hg)) rfl yw_X3_hasStop wm_X7_63 rfl hl.1 rfl (Nat.le_of_ble_eq_true rfl) ⟨Nat.le_of_ble_eq_true rfl, Nat.le_of_ble_eq_true rfl⟩ ⟨Nat.le_of_ble_eq_true rfl, Nat.le_of_ble_eq_true rfl⟩ dX7_faultOfPassenger_5 (fr_nx rfl) (fun r9 M9 H locs ho9 B => ?_)
  obtain ⟨rfl, rfl⟩ := oi_e ho9
  refine lv_if_ne (tgt := 13) hx hb dX7_faultOfPassenger_8 (by decide) (fun c4 => ?_) (fun c4 => ?_)
  · have hF := it_t hF c4
    refine lv_aload_n hx hb dX7_faultOfPassenger_13 rfl (lv_at hl 0 rfl) ?_
    refine gf_X7_28 C B hg dX7_faultOfPassenger_14 ?_
    refine gf_X7_83 C B (is6_of hg) dX7_faultOfPassenger_17 ?_
    refine lv_bipush (v := 8) hx hb dX7_faultOfPassenger_20 (by decide) ?_
    refine lv_icmp_lt (tgt := 29) hx hb dX7_faultOfPassenger_22 (by decide) (fun c5 => ?_) (fun c5 => ?_)
    · have hF := it_t hF c5
      refine lv_iconst (v := 0) hx hb dX7_faultOfPassenger_29 (by decide) ?_
      exact fr_iret C B hr rfl hlk (by rw [← Option.some.inj hF]) (Nat.le_of_ble_eq_true rfl) (Nat.le_of_ble_eq_true rfl) dX7_faultOfPassenger_30
    · have hF := it_f hF c5
      refine lv_iconst (v := 3) hx hb dX7_faultOfPassenger_25 (by decide) ?_
      refine lv_goto (tgt := 30) hx hb dX7_faultOfPassenger_26 (by decide) ?_
      exact fr_iret C B hr rfl hlk (by rw [← Option.some.inj hF]) (Nat.le_of_ble_eq_true rfl) (Nat.le_of_ble_eq_true rfl) dX7_faultOfPassenger_30
  · have hF := it_f hF (not_not_intro c4)
    refine lv_iconst (v := 1) hx hb dX7_faultOfPassenger_11 (by decide) ?_
    exact fr_iret C B hr rfl hlk (by rw [← Option.some.inj hF]) (Nat.le_of_ble_eq_true rfl) (Nat.le_of_ble_eq_true rfl) dX7_faultOfPassenger_12
def F_X7_faultOfAlighting (M : fw_M) (g : Nat) (a1 : Int32) : Option (Int32) :=
  bd_x (F_X6_hasPassenger M (g + 15) a1) fun r2 =>
  if ¬ r2 = 0 then
    if ix_i a1 8 then
    if ¬ (fw_ri M ((g + 15) + 2) a1) = (-1) then
      some 0
    else
      some 3
    else none
  else
    some 1
set_option maxHeartbeats 4000000 in
set_option maxRecDepth 100000 in
theorem cm_X7_faultOfAlighting {l : Launch} {X : fw_X} {M : fw_M} {g : Nat} {a1 : Int32} (hg : is7 g) {o : Int32} (hF : F_X7_faultOfAlighting M g a1 = some o) : ct_i l X yX7_faultOfAlighting cX7_faultOfAlighting 2 (some .int) ({ frames := 1, cells := 0, slots := 0, locals := 21 } : Room) M [.ref (fw_ad X g), .int a1] (.inl o, M) := by
  refine fw_open rfl (Nat.le_of_ble_eq_true rfl) (fun p e s m below meth c ls C hr hlk hnm hex hl B => ?_)
  have C : fr_C X p c cX7_faultOfAlighting 2 RX7 s m ([.ref (fw_ad X g), .int a1] : List Value).toArray := C
  have hx := C.1.1
  have hb := C.1.2.1
  have hl : lv_has ls 2 [(0, .ref (fw_ad X g)), (1, .int a1)] := hl
  unfold F_X7_faultOfAlighting at hF
  refine lv_aload_n hx hb dX7_faultOfAlighting_0 rfl (lv_at hl 0 rfl) ?_
  refine gf_X7_28 C B hg dX7_faultOfAlighting_1 ?_
  refine lv_iload_n hx hb dX7_faultOfAlighting_4 rfl (lv_at hl 1 rfl) ?_
  obtain ⟨r2, hf1, hF⟩ := bx_e hF
  refine fr_cVi (As := [.int a1]) (rest := []) C B (cm_X6_hasPassenger (is6_of hg) hf1) (ob_6 (is6_of hg)) rfl yw_X6_hasPassenger wm_X7_84 rfl hl.1 rfl (Nat.le_of_ble_eq_true rfl) ⟨Nat.le_of_ble_eq_true rfl, Nat.le_of_ble_eq_true rfl⟩ ⟨Nat.le_of_ble_eq_true rfl, Nat.le_of_ble_eq_true rfl⟩ dX7_faultOfAlighting_5 (fr_nx rfl) (fun r9 M9 H locs ho9 B => ?_)
  obtain ⟨rfl, rfl⟩ := oi_e ho9
  refine lv_if_ne (tgt := 13) hx hb dX7_faultOfAlighting_8 (by decide) (fun c4 => ?_) (fun c4 => ?_)
  · have hF := it_t hF c4
    refine lv_aload_n hx hb dX7_faultOfAlighting_13 rfl (lv_at hl 0 rfl) ?_
    refine gf_X7_28 C B hg dX7_faultOfAlighting_14 ?_
    refine gf_X7_93 C B (is6_of hg) dX7_faultOfAlighting_17 ?_
    refine lv_iload_n hx hb dX7_faultOfAlighting_20 rfl (lv_at hl 1 rfl) ?_
    obtain ⟨c5, hF⟩ := of_g hF
    refine fr_ia C B (ar_6_2 (is6_of hg)) c5 dX7_faultOfAlighting_21 ?_
    refine lv_iconst (v := (-1)) hx hb dX7_faultOfAlighting_22 (by decide) ?_
    refine lv_icmp_ne (tgt := 30) hx hb dX7_faultOfAlighting_23 (by decide) (fun c6 => ?_) (fun c6 => ?_)
    · have hF := it_t hF c6
      refine lv_iconst (v := 0) hx hb dX7_faultOfAlighting_30 (by decide) ?_
      exact fr_iret C B hr rfl hlk (by rw [← Option.some.inj hF]) (Nat.le_of_ble_eq_true rfl) (Nat.le_of_ble_eq_true rfl) dX7_faultOfAlighting_31
    · have hF := it_f hF (not_not_intro c6)
      refine lv_iconst (v := 3) hx hb dX7_faultOfAlighting_26 (by decide) ?_
      refine lv_goto (tgt := 31) hx hb dX7_faultOfAlighting_27 (by decide) ?_
      exact fr_iret C B hr rfl hlk (by rw [← Option.some.inj hF]) (Nat.le_of_ble_eq_true rfl) (Nat.le_of_ble_eq_true rfl) dX7_faultOfAlighting_31
  · have hF := it_f hF (not_not_intro c4)
    refine lv_iconst (v := 1) hx hb dX7_faultOfAlighting_11 (by decide) ?_
    exact fr_iret C B hr rfl hlk (by rw [← Option.some.inj hF]) (Nat.le_of_ble_eq_true rfl) (Nat.le_of_ble_eq_true rfl) dX7_faultOfAlighting_12
def F_X7_faultOfSecret (M : fw_M) (g : Nat) (a1 : Int32) : Option (Int32) :=
  bd_x (F_X6_hasPassenger M (g + 15) a1) fun r2 =>
  if ¬ r2 = 0 then
    if (M (g + 22) 0) < 6 then
      some 0
    else
      some 3
  else
    some 1
set_option maxHeartbeats 4000000 in
set_option maxRecDepth 100000 in
theorem cm_X7_faultOfSecret {l : Launch} {X : fw_X} {M : fw_M} {g : Nat} {a1 : Int32} (hg : is7 g) {o : Int32} (hF : F_X7_faultOfSecret M g a1 = some o) : ct_i l X yX7_faultOfSecret cX7_faultOfSecret 2 (some .int) ({ frames := 1, cells := 0, slots := 0, locals := 21 } : Room) M [.ref (fw_ad X g), .int a1] (.inl o, M) := by
  refine fw_open rfl (Nat.le_of_ble_eq_true rfl) (fun p e s m below meth c ls C hr hlk hnm hex hl B => ?_)
  have C : fr_C X p c cX7_faultOfSecret 2 RX7 s m ([.ref (fw_ad X g), .int a1] : List Value).toArray := C
  have hx := C.1.1
  have hb := C.1.2.1
  have hl : lv_has ls 2 [(0, .ref (fw_ad X g)), (1, .int a1)] := hl
  unfold F_X7_faultOfSecret at hF
  refine lv_aload_n hx hb dX7_faultOfSecret_0 rfl (lv_at hl 0 rfl) ?_
  refine gf_X7_28 C B hg dX7_faultOfSecret_1 ?_
  refine lv_iload_n hx hb dX7_faultOfSecret_4 rfl (lv_at hl 1 rfl) ?_
  obtain ⟨r2, hf1, hF⟩ := bx_e hF
  refine fr_cVi (As := [.int a1]) (rest := []) C B (cm_X6_hasPassenger (is6_of hg) hf1) (ob_6 (is6_of hg)) rfl yw_X6_hasPassenger wm_X7_84 rfl hl.1 rfl (Nat.le_of_ble_eq_true rfl) ⟨Nat.le_of_ble_eq_true rfl, Nat.le_of_ble_eq_true rfl⟩ ⟨Nat.le_of_ble_eq_true rfl, Nat.le_of_ble_eq_true rfl⟩ dX7_faultOfSecret_5 (fr_nx rfl) (fun r9 M9 H locs ho9 B => ?_)
  obtain ⟨rfl, rfl⟩ := oi_e ho9
  refine lv_if_ne (tgt := 13) hx hb dX7_faultOfSecret_8 (by decide) (fun c4 => ?_) (fun c4 => ?_)
  · have hF := it_t hF c4
    refine lv_aload_n hx hb dX7_faultOfSecret_13 rfl (lv_at hl 0 rfl) ?_
    refine gf_X7_35 C B hg dX7_faultOfSecret_14 ?_
    refine gf_X7_115 C B (is2_of hg) dX7_faultOfSecret_17 ?_
    refine lv_bipush (v := 6) hx hb dX7_faultOfSecret_20 (by decide) ?_
    refine lv_icmp_lt (tgt := 29) hx hb dX7_faultOfSecret_22 (by decide) (fun c5 => ?_) (fun c5 => ?_)
    · have hF := it_t hF c5
      refine lv_iconst (v := 0) hx hb dX7_faultOfSecret_29 (by decide) ?_
      exact fr_iret C B hr rfl hlk (by rw [← Option.some.inj hF]) (Nat.le_of_ble_eq_true rfl) (Nat.le_of_ble_eq_true rfl) dX7_faultOfSecret_30
    · have hF := it_f hF c5
      refine lv_iconst (v := 3) hx hb dX7_faultOfSecret_25 (by decide) ?_
      refine lv_goto (tgt := 30) hx hb dX7_faultOfSecret_26 (by decide) ?_
      exact fr_iret C B hr rfl hlk (by rw [← Option.some.inj hF]) (Nat.le_of_ble_eq_true rfl) (Nat.le_of_ble_eq_true rfl) dX7_faultOfSecret_30
  · have hF := it_f hF (not_not_intro c4)
    refine lv_iconst (v := 1) hx hb dX7_faultOfSecret_11 (by decide) ?_
    exact fr_iret C B hr rfl hlk (by rw [← Option.some.inj hF]) (Nat.le_of_ble_eq_true rfl) (Nat.le_of_ble_eq_true rfl) dX7_faultOfSecret_12
def F_X7_faultOfWhisper (M : fw_M) (g : Nat) (a1 : Int32) (a2 : Int32) : Option (Int32) :=
  bd_x (F_X2_hasSecret M (g + 22) a1) fun r2 =>
  if r2 = 0 then
    some 1
  else
    bd_x (F_X6_hasPassenger M (g + 15) a2) fun r6 =>
    if ¬ r6 = 0 then
      bd_x (F_X2_isOut M (g + 22) a1) fun r10 =>
      if r10 = 0 then
        if ix_i a1 6 then
        if ix_i (fw_ri M ((g + 22) + 1) a1) 8 then
        if (fw_ri M ((g + 15) + 2) (fw_ri M ((g + 22) + 1) a1)) = (-1) then
          if a2 = (fw_ri M ((g + 22) + 1) a1) then
            some 5
          else
            some 5
        else
          if ix_i a2 8 then
          if ¬ (fw_ri M ((g + 15) + 2) a2) = (fw_ri M ((g + 15) + 2) (fw_ri M ((g + 22) + 1) a1)) then
            if a2 = (fw_ri M ((g + 22) + 1) a1) then
              some 5
            else
              some 5
          else
            if a2 = (fw_ri M ((g + 22) + 1) a1) then
              some 5
            else
              some 0
          else none
        else none
        else none
      else
        some 3
    else
      some 1
set_option maxHeartbeats 4000000 in
set_option maxRecDepth 100000 in
theorem cm_X7_faultOfWhisper {l : Launch} {X : fw_X} {M : fw_M} {g : Nat} {a1 : Int32} {a2 : Int32} (hg : is7 g) {o : Int32} (hF : F_X7_faultOfWhisper M g a1 a2 = some o) : ct_i l X yX7_faultOfWhisper cX7_faultOfWhisper 6 (some .int) ({ frames := 1, cells := 0, slots := 0, locals := 21 } : Room) M [.ref (fw_ad X g), .int a1, .int a2] (.inl o, M) := by
  refine fw_open rfl (Nat.le_of_ble_eq_true rfl) (fun p e s m below meth c ls C hr hlk hnm hex hl B => ?_)
  have C : fr_C X p c cX7_faultOfWhisper 6 RX7 s m ([.ref (fw_ad X g), .int a1, .int a2] : List Value).toArray := C
  have hx := C.1.1
  have hb := C.1.2.1
  have hl : lv_has ls 6 [(0, .ref (fw_ad X g)), (1, .int a1), (2, .int a2)] := hl
  unfold F_X7_faultOfWhisper at hF
  refine lv_aload_n hx hb dX7_faultOfWhisper_0 rfl (lv_at hl 0 rfl) ?_
  refine gf_X7_35 C B hg dX7_faultOfWhisper_1 ?_
  refine lv_iload_n hx hb dX7_faultOfWhisper_4 rfl (lv_at hl 1 rfl) ?_
  obtain ⟨r2, hf1, hF⟩ := bx_e hF
  refine fr_cVi (As := [.int a1]) (rest := []) C B (cm_X2_hasSecret (is2_of hg) hf1) (ob_2 (is2_of hg)) rfl yw_X2_hasSecret wm_X7_116 rfl hl.1 rfl (Nat.le_of_ble_eq_true rfl) ⟨Nat.le_of_ble_eq_true rfl, Nat.le_of_ble_eq_true rfl⟩ ⟨Nat.le_of_ble_eq_true rfl, Nat.le_of_ble_eq_true rfl⟩ dX7_faultOfWhisper_5 (fr_nx rfl) (fun r9 M9 H locs ho9 B => ?_)
  obtain ⟨rfl, rfl⟩ := oi_e ho9
  refine lv_if_eq (tgt := 22) hx hb dX7_faultOfWhisper_8 (by decide) (fun c4 => ?_) (fun c4 => ?_)
  · have hF := it_t hF c4
    refine lv_iconst (v := 1) hx hb dX7_faultOfWhisper_22 (by decide) ?_
    exact fr_iret C B hr rfl hlk (by rw [← Option.some.inj hF]) (Nat.le_of_ble_eq_true rfl) (Nat.le_of_ble_eq_true rfl) dX7_faultOfWhisper_23
  · have hF := it_f hF c4
    refine lv_aload_n hx hb dX7_faultOfWhisper_11 rfl (lv_at hl 0 rfl) ?_
    refine gf_X7_28 C B hg dX7_faultOfWhisper_12 ?_
    refine lv_iload_n hx hb dX7_faultOfWhisper_15 rfl (lv_at hl 2 rfl) ?_
    obtain ⟨r6, hf5, hF⟩ := bx_e hF
    refine fr_cVi (As := [.int a2]) (rest := []) C B (cm_X6_hasPassenger (is6_of hg) hf5) (ob_6 (is6_of hg)) rfl yw_X6_hasPassenger wm_X7_84 rfl hl.1 rfl (Nat.le_of_ble_eq_true rfl) ⟨Nat.le_of_ble_eq_true rfl, Nat.le_of_ble_eq_true rfl⟩ ⟨Nat.le_of_ble_eq_true rfl, Nat.le_of_ble_eq_true rfl⟩ dX7_faultOfWhisper_16 (fr_nx rfl) (fun r9 M9 H locs ho9 B => ?_)
    obtain ⟨rfl, rfl⟩ := oi_e ho9
    refine lv_if_ne (tgt := 24) hx hb dX7_faultOfWhisper_19 (by decide) (fun c8 => ?_) (fun c8 => ?_)
    · have hF := it_t hF c8
      refine lv_aload_n hx hb dX7_faultOfWhisper_24 rfl (lv_at hl 0 rfl) ?_
      refine gf_X7_35 C B hg dX7_faultOfWhisper_25 ?_
      refine lv_iload_n hx hb dX7_faultOfWhisper_28 rfl (lv_at hl 1 rfl) ?_
      obtain ⟨r10, hf9, hF⟩ := bx_e hF
      refine fr_cVi (As := [.int a1]) (rest := []) C B (cm_X2_isOut (is2_of hg) hf9) (ob_2 (is2_of hg)) rfl yw_X2_isOut wm_X7_119 rfl hl.1 rfl (Nat.le_of_ble_eq_true rfl) ⟨Nat.le_of_ble_eq_true rfl, Nat.le_of_ble_eq_true rfl⟩ ⟨Nat.le_of_ble_eq_true rfl, Nat.le_of_ble_eq_true rfl⟩ dX7_faultOfWhisper_29 (fr_nx rfl) (fun r9 M9 H locs ho9 B => ?_)
      obtain ⟨rfl, rfl⟩ := oi_e ho9
      refine lv_if_eq (tgt := 37) hx hb dX7_faultOfWhisper_32 (by decide) (fun c12 => ?_) (fun c12 => ?_)
      · have hF := it_t hF c12
        refine lv_aload_n hx hb dX7_faultOfWhisper_37 rfl (lv_at hl 0 rfl) ?_
        refine gf_X7_35 C B hg dX7_faultOfWhisper_38 ?_
        refine gf_X7_122 C B (is2_of hg) dX7_faultOfWhisper_41 ?_
        refine lv_iload_n hx hb dX7_faultOfWhisper_44 rfl (lv_at hl 1 rfl) ?_
        obtain ⟨c13, hF⟩ := of_g hF
        refine fr_ia C B (ar_2_1 (is2_of hg)) c13 dX7_faultOfWhisper_45 ?_
        refine lv_istore_n (lv' := [(3, .int (fw_ri M ((g + 22) + 1) a1)), (0, .ref (fw_ad X g)), (1, .int a1), (2, .int a2)]) hx hb dX7_faultOfWhisper_46 rfl hl (by decide) rfl (fun ls hl => ?_)
        refine lv_aload_n hx hb dX7_faultOfWhisper_47 rfl (lv_at hl 1 rfl) ?_
        refine gf_X7_28 C B hg dX7_faultOfWhisper_48 ?_
        refine gf_X7_93 C B (is6_of hg) dX7_faultOfWhisper_51 ?_
        refine lv_iload_n hx hb dX7_faultOfWhisper_54 rfl (lv_at hl 0 rfl) ?_
        obtain ⟨c14, hF⟩ := of_g hF
        refine fr_ia C B (ar_6_2 (is6_of hg)) c14 dX7_faultOfWhisper_55 ?_
        refine lv_istore (lv' := [(4, .int (fw_ri M ((g + 15) + 2) (fw_ri M ((g + 22) + 1) a1))), (3, .int (fw_ri M ((g + 22) + 1) a1)), (0, .ref (fw_ad X g)), (1, .int a1), (2, .int a2)]) hx hb dX7_faultOfWhisper_56 hl (by decide) rfl (fun ls hl => ?_)
        refine lv_iload hx hb dX7_faultOfWhisper_58 (lv_at hl 0 rfl) ?_
        refine lv_iconst (v := (-1)) hx hb dX7_faultOfWhisper_60 (by decide) ?_
        refine lv_icmp_eq (tgt := 82) hx hb dX7_faultOfWhisper_61 (by decide) (fun c15 => ?_) (fun c15 => ?_)
        · have hF := it_t hF c15
          refine lv_iconst (v := 0) hx hb dX7_faultOfWhisper_82 (by decide) ?_
          refine lv_istore (lv' := [(5, .int 0), (4, .int (fw_ri M ((g + 15) + 2) (fw_ri M ((g + 22) + 1) a1))), (3, .int (fw_ri M ((g + 22) + 1) a1)), (0, .ref (fw_ad X g)), (1, .int a1), (2, .int a2)]) hx hb dX7_faultOfWhisper_83 hl (by decide) rfl (fun ls hl => ?_)
          refine lv_iload_n hx hb dX7_faultOfWhisper_85 rfl (lv_at hl 5 rfl) ?_
          refine lv_iload_n hx hb dX7_faultOfWhisper_86 rfl (lv_at hl 2 rfl) ?_
          refine lv_icmp_eq (tgt := 99) hx hb dX7_faultOfWhisper_87 (by decide) (fun c16 => ?_) (fun c16 => ?_)
          · have hF := it_t hF c16
            refine lv_iconst (v := 5) hx hb dX7_faultOfWhisper_99 (by decide) ?_
            exact fr_iret C B hr rfl hlk (by rw [← Option.some.inj hF]) (Nat.le_of_ble_eq_true rfl) (Nat.le_of_ble_eq_true rfl) dX7_faultOfWhisper_100
          · have hF := it_f hF c16
            refine lv_iload hx hb dX7_faultOfWhisper_90 (lv_at hl 0 rfl) ?_
            refine lv_if_eq (tgt := 99) hx hb dX7_faultOfWhisper_92 (by decide) (fun c17 => ?_) (fun c17 => ?_)
            · refine lv_iconst (v := 5) hx hb dX7_faultOfWhisper_99 (by decide) ?_
              exact fr_iret C B hr rfl hlk (by rw [← Option.some.inj hF]) (Nat.le_of_ble_eq_true rfl) (Nat.le_of_ble_eq_true rfl) dX7_faultOfWhisper_100
            · exact absurd c17 (by decide)
        · have hF := it_f hF c15
          refine lv_aload_n hx hb dX7_faultOfWhisper_64 rfl (lv_at hl 2 rfl) ?_
          refine gf_X7_28 C B hg dX7_faultOfWhisper_65 ?_
          refine gf_X7_93 C B (is6_of hg) dX7_faultOfWhisper_68 ?_
          refine lv_iload_n hx hb dX7_faultOfWhisper_71 rfl (lv_at hl 4 rfl) ?_
          obtain ⟨c18, hF⟩ := of_g hF
          refine fr_ia C B (ar_6_2 (is6_of hg)) c18 dX7_faultOfWhisper_72 ?_
          refine lv_iload hx hb dX7_faultOfWhisper_73 (lv_at hl 0 rfl) ?_
          refine lv_icmp_ne (tgt := 82) hx hb dX7_faultOfWhisper_75 (by decide) (fun c19 => ?_) (fun c19 => ?_)
          · have hF := it_t hF c19
            refine lv_iconst (v := 0) hx hb dX7_faultOfWhisper_82 (by decide) ?_
            refine lv_istore (lv' := [(5, .int 0), (4, .int (fw_ri M ((g + 15) + 2) (fw_ri M ((g + 22) + 1) a1))), (3, .int (fw_ri M ((g + 22) + 1) a1)), (0, .ref (fw_ad X g)), (1, .int a1), (2, .int a2)]) hx hb dX7_faultOfWhisper_83 hl (by decide) rfl (fun ls hl => ?_)
            refine lv_iload_n hx hb dX7_faultOfWhisper_85 rfl (lv_at hl 5 rfl) ?_
            refine lv_iload_n hx hb dX7_faultOfWhisper_86 rfl (lv_at hl 2 rfl) ?_
            refine lv_icmp_eq (tgt := 99) hx hb dX7_faultOfWhisper_87 (by decide) (fun c20 => ?_) (fun c20 => ?_)
            · have hF := it_t hF c20
              refine lv_iconst (v := 5) hx hb dX7_faultOfWhisper_99 (by decide) ?_
              exact fr_iret C B hr rfl hlk (by rw [← Option.some.inj hF]) (Nat.le_of_ble_eq_true rfl) (Nat.le_of_ble_eq_true rfl) dX7_faultOfWhisper_100
            · have hF := it_f hF c20
              refine lv_iload hx hb dX7_faultOfWhisper_90 (lv_at hl 0 rfl) ?_
              refine lv_if_eq (tgt := 99) hx hb dX7_faultOfWhisper_92 (by decide) (fun c21 => ?_) (fun c21 => ?_)
              · refine lv_iconst (v := 5) hx hb dX7_faultOfWhisper_99 (by decide) ?_
                exact fr_iret C B hr rfl hlk (by rw [← Option.some.inj hF]) (Nat.le_of_ble_eq_true rfl) (Nat.le_of_ble_eq_true rfl) dX7_faultOfWhisper_100
              · exact absurd c21 (by decide)
          · have hF := it_f hF (not_not_intro c19)
            refine lv_iconst (v := 1) hx hb dX7_faultOfWhisper_78 (by decide) ?_
            refine lv_goto (tgt := 83) hx hb dX7_faultOfWhisper_79 (by decide) ?_
            refine lv_istore (lv' := [(5, .int 1), (4, .int (fw_ri M ((g + 15) + 2) (fw_ri M ((g + 22) + 1) a1))), (3, .int (fw_ri M ((g + 22) + 1) a1)), (0, .ref (fw_ad X g)), (1, .int a1), (2, .int a2)]) hx hb dX7_faultOfWhisper_83 hl (by decide) rfl (fun ls hl => ?_)
            refine lv_iload_n hx hb dX7_faultOfWhisper_85 rfl (lv_at hl 5 rfl) ?_
            refine lv_iload_n hx hb dX7_faultOfWhisper_86 rfl (lv_at hl 2 rfl) ?_
            refine lv_icmp_eq (tgt := 99) hx hb dX7_faultOfWhisper_87 (by decide) (fun c22 => ?_) (fun c22 => ?_)
            · have hF := it_t hF c22
              refine lv_iconst (v := 5) hx hb dX7_faultOfWhisper_99 (by decide) ?_
              exact fr_iret C B hr rfl hlk (by rw [← Option.some.inj hF]) (Nat.le_of_ble_eq_true rfl) (Nat.le_of_ble_eq_true rfl) dX7_faultOfWhisper_100
            · have hF := it_f hF c22
              refine lv_iload hx hb dX7_faultOfWhisper_90 (lv_at hl 0 rfl) ?_
              refine lv_if_eq (tgt := 99) hx hb dX7_faultOfWhisper_92 (by decide) (fun c23 => ?_) (fun c23 => ?_)
              · exact absurd c23 (by decide)
              · refine lv_iconst (v := 0) hx hb dX7_faultOfWhisper_95 (by decide) ?_
                refine lv_goto (tgt := 100) hx hb dX7_faultOfWhisper_96 (by decide) ?_
                exact fr_iret C B hr rfl hlk (by rw [← Option.some.inj hF]) (Nat.le_of_ble_eq_true rfl) (Nat.le_of_ble_eq_true rfl) dX7_faultOfWhisper_100
      · have hF := it_f hF c12
        refine lv_iconst (v := 3) hx hb dX7_faultOfWhisper_35 (by decide) ?_
        exact fr_iret C B hr rfl hlk (by rw [← Option.some.inj hF]) (Nat.le_of_ble_eq_true rfl) (Nat.le_of_ble_eq_true rfl) dX7_faultOfWhisper_36
    · have hF := it_f hF (not_not_intro c8)
      refine lv_iconst (v := 1) hx hb dX7_faultOfWhisper_22 (by decide) ?_
      exact fr_iret C B hr rfl hlk (by rw [← Option.some.inj hF]) (Nat.le_of_ble_eq_true rfl) (Nat.le_of_ble_eq_true rfl) dX7_faultOfWhisper_23
def F_X7_spread_23 (g : Nat) (a1 : Int32) (a2 : Int32)  : Nat → Int32 → Int32 → fw_M → Option (Int32 × fw_M)
  | 0, _, _, _ => none
  | n + 1, x3, x4, M =>
    if (M (g + 15) 0) ≤ x4 then
      bd_x (F_X2_countKnowers M (g + 22) a1) fun r3 =>
      some (r3, M)
    else
      if ix_i x4 8 then
      if ¬ (fw_ri M ((g + 15) + 2) x4) = x3 then
        F_X7_spread_23 g a1 a2 n x3 (x4 + 1) M
      else
        bd_x (F_X2_tell M (g + 22) x4 a1) fun M9 =>
        F_X7_spread_23 g a1 a2 n x3 (x4 + 1) M9
      else none
def F_X7_spread (M : fw_M) (g : Nat) (a1 : Int32) (a2 : Int32) : Option (Int32 × fw_M) :=
  if ix_i a2 8 then
  if ix_i a1 6 then
  lt_x (fw_wi M ((g + 22) + 1) a1 a2) fun M12 =>
  F_X7_spread_23 g a1 a2 64 (fw_ri M ((g + 15) + 2) a2) 0 M12
  else none
  else none
set_option maxHeartbeats 4000000 in
set_option maxRecDepth 100000 in
theorem cm_X7_spread {l : Launch} {X : fw_X} {M : fw_M} {g : Nat} {a1 : Int32} {a2 : Int32} (hg : is7 g) {o : Int32 × fw_M} (hF : F_X7_spread M g a1 a2 = some o) : ct_i l X yX7_spread cX7_spread 5 (some .int) ({ frames := 2, cells := 0, slots := 0, locals := 41 } : Room) M [.ref (fw_ad X g), .int a1, .int a2] (.inl o.1, o.2) := by
  refine fw_open rfl (Nat.le_of_ble_eq_true rfl) (fun p e s m below meth c ls C hr hlk hnm hex hl B => ?_)
  have C : fr_C X p c cX7_spread 5 RX7 s m ([.ref (fw_ad X g), .int a1, .int a2] : List Value).toArray := C
  have hx := C.1.1
  have hb := C.1.2.1
  have hl : lv_has ls 5 [(0, .ref (fw_ad X g)), (1, .int a1), (2, .int a2)] := hl
  have hJ23 : ∀ (n : Nat), ∀ (x3 : Int32) (x4 : Int32) (M : fw_M) (H : Heap) (locs : List Loc) (ls : Array Slot), F_X7_spread_23 g a1 a2 n x3 x4 M = some o → fr_H X s M H locs → lv_has ls 5 [(0, .ref (fw_ad X g)), (1, .int a1), (3, .int x3), (4, .int x4)] → W p l e ({ frames := 2, cells := 0, slots := 0, locals := 41 } : Room) s m ([.ref (fw_ad X g), .int a1, .int a2] : List Value).toArray below meth c H locs 0 0 (vx_MQ below (fw_Qi X (.inl o.1, o.2)) (fw_Qx X (.inl o.1, o.2)) ([.ref (fw_ad X g), .int a1, .int a2] : List Value).toArray s 0 0 (fw_A X)) (F0 m 23 ls []) := by
    intro n
    induction n with
    | zero =>
      intro x3 x4 M H locs ls hF B hl
      exact absurd hF (by simp [F_X7_spread_23])
    | succ n ih =>
      intro x3 x4 M H locs ls hF B hl
      rw [F_X7_spread_23] at hF
      refine lv_iload hx hb dX7_spread_23 (lv_at hl 3 rfl) ?_
      refine lv_aload_n hx hb dX7_spread_25 rfl (lv_at hl 0 rfl) ?_
      refine gf_X7_28 C B hg dX7_spread_26 ?_
      refine gf_X7_83 C B (is6_of hg) dX7_spread_29 ?_
      refine lv_icmp_ge (tgt := 65) hx hb dX7_spread_32 (by decide) (fun c1 => ?_) (fun c1 => ?_)
      · have hF := it_t hF c1
        refine lv_aload_n hx hb dX7_spread_65 rfl (lv_at hl 0 rfl) ?_
        refine gf_X7_35 C B hg dX7_spread_66 ?_
        refine lv_iload_n hx hb dX7_spread_69 rfl (lv_at hl 1 rfl) ?_
        obtain ⟨r3, hf2, hF⟩ := bx_e hF
        refine fr_cVi (As := [.int a1]) (rest := []) C B (cm_X2_countKnowers (is2_of hg) hf2) (ob_2 (is2_of hg)) rfl yw_X2_countKnowers wm_X7_146 rfl hl.1 rfl (Nat.le_of_ble_eq_true rfl) ⟨Nat.le_of_ble_eq_true rfl, Nat.le_of_ble_eq_true rfl⟩ ⟨Nat.le_of_ble_eq_true rfl, Nat.le_of_ble_eq_true rfl⟩ dX7_spread_70 (fr_nx rfl) (fun r9 M9 H locs ho9 B => ?_)
        obtain ⟨rfl, rfl⟩ := oi_e ho9
        exact fr_iret C B hr rfl hlk (by rw [← Option.some.inj hF]) (Nat.le_of_ble_eq_true rfl) (Nat.le_of_ble_eq_true rfl) dX7_spread_73
      · have hF := it_f hF c1
        refine lv_aload_n hx hb dX7_spread_35 rfl (lv_at hl 0 rfl) ?_
        refine gf_X7_28 C B hg dX7_spread_36 ?_
        refine gf_X7_93 C B (is6_of hg) dX7_spread_39 ?_
        refine lv_iload hx hb dX7_spread_42 (lv_at hl 3 rfl) ?_
        obtain ⟨c5, hF⟩ := of_g hF
        refine fr_ia C B (ar_6_2 (is6_of hg)) c5 dX7_spread_44 ?_
        refine lv_iload_n hx hb dX7_spread_45 rfl (lv_at hl 2 rfl) ?_
        refine lv_icmp_ne (tgt := 59) hx hb dX7_spread_46 (by decide) (fun c6 => ?_) (fun c6 => ?_)
        · have hF := it_t hF c6
          refine lv_iinc (v := (x4 + 1)) (lv' := [(4, .int (x4 + 1)), (0, .ref (fw_ad X g)), (1, .int a1), (3, .int x3)]) hx hb dX7_spread_59 hl (k := 3) rfl rfl (by decide) rfl (fun ls hl => ?_)
          refine lv_goto (tgt := 23) hx hb dX7_spread_62 (by decide) ?_
          exact ih x3 (x4 + 1) M _ _ _ hF B (lv_sub hl [1, 2, 3, 0] rfl)
        · have hF := it_f hF (not_not_intro c6)
          refine lv_aload_n hx hb dX7_spread_49 rfl (lv_at hl 0 rfl) ?_
          refine gf_X7_35 C B hg dX7_spread_50 ?_
          refine lv_iload hx hb dX7_spread_53 (lv_at hl 3 rfl) ?_
          refine lv_iload_n hx hb dX7_spread_55 rfl (lv_at hl 1 rfl) ?_
          obtain ⟨M9, hf7, hF⟩ := bx_e hF
          refine fr_cVv (As := [.int x4, .int a1]) (rest := []) C B (cm_X2_tell (is2_of hg) hf7) (ob_2 (is2_of hg)) rfl yw_X2_tell wm_X7_142 rfl hl.1 rfl (Nat.le_of_ble_eq_true rfl) ⟨Nat.le_of_ble_eq_true rfl, Nat.le_of_ble_eq_true rfl⟩ ⟨Nat.le_of_ble_eq_true rfl, Nat.le_of_ble_eq_true rfl⟩ dX7_spread_56 (fr_nx rfl) (fun M9 H locs ho9 B => ?_)
          obtain ⟨-, rfl⟩ := oi_e ho9
          refine lv_iinc (v := (x4 + 1)) (lv' := [(4, .int (x4 + 1)), (0, .ref (fw_ad X g)), (1, .int a1), (3, .int x3)]) hx hb dX7_spread_59 hl (k := 3) rfl rfl (by decide) rfl (fun ls hl => ?_)
          refine lv_goto (tgt := 23) hx hb dX7_spread_62 (by decide) ?_
          exact ih x3 (x4 + 1) M9 _ _ _ hF B (lv_sub hl [1, 2, 3, 0] rfl)
  unfold F_X7_spread at hF
  refine lv_aload_n hx hb dX7_spread_0 rfl (lv_at hl 0 rfl) ?_
  refine gf_X7_28 C B hg dX7_spread_1 ?_
  refine gf_X7_93 C B (is6_of hg) dX7_spread_4 ?_
  refine lv_iload_n hx hb dX7_spread_7 rfl (lv_at hl 2 rfl) ?_
  obtain ⟨c10, hF⟩ := of_g hF
  refine fr_ia C B (ar_6_2 (is6_of hg)) c10 dX7_spread_8 ?_
  refine lv_istore_n (lv' := [(3, .int (fw_ri M ((g + 15) + 2) a2)), (0, .ref (fw_ad X g)), (1, .int a1), (2, .int a2)]) hx hb dX7_spread_9 rfl hl (by decide) rfl (fun ls hl => ?_)
  refine lv_aload_n hx hb dX7_spread_10 rfl (lv_at hl 1 rfl) ?_
  refine gf_X7_35 C B hg dX7_spread_11 ?_
  refine gf_X7_122 C B (is2_of hg) dX7_spread_14 ?_
  refine lv_iload_n hx hb dX7_spread_17 rfl (lv_at hl 2 rfl) ?_
  refine lv_iload_n hx hb dX7_spread_18 rfl (lv_at hl 3 rfl) ?_
  obtain ⟨c11, hF⟩ := of_g hF
  refine fr_is C B (ar_2_1 (is2_of hg)) c11 dX7_spread_19 (fun H locs B => ?_)
  obtain ⟨M12, eM12, hF⟩ := lt_e hF
  rw [← eM12] at B
  refine lv_iconst (v := 0) hx hb dX7_spread_20 (by decide) ?_
  refine lv_istore (lv' := [(4, .int 0), (3, .int (fw_ri M ((g + 15) + 2) a2)), (0, .ref (fw_ad X g)), (1, .int a1), (2, .int a2)]) hx hb dX7_spread_21 hl (by decide) rfl (fun ls hl => ?_)
  exact hJ23 64 (fw_ri M ((g + 15) + 2) a2) 0 M12 _ _ _ hF B (lv_sub hl [2, 3, 1, 0] rfl)
def F_X7_stopUnder (M : fw_M) (g : Nat) (a1 : Int32) : Option (Int32) :=
  if ix_i a1 6 then
  if ix_i (fw_ri M ((g + 11) + 1) a1) 5 then
  if ix_i (fw_ri M ((g + 11) + 2) a1) 6 then
  some (fw_ri M ((g + 1) + 4 + (fw_ri M ((g + 11) + 1) a1).toNatClampNeg) (fw_ri M ((g + 11) + 2) a1))
  else none
  else none
  else none
set_option maxHeartbeats 4000000 in
set_option maxRecDepth 100000 in
theorem cm_X7_stopUnder {l : Launch} {X : fw_X} {M : fw_M} {g : Nat} {a1 : Int32} (hg : is7 g) {o : Int32} (hF : F_X7_stopUnder M g a1 = some o) : ct_i l X yX7_stopUnder cX7_stopUnder 2 (some .int) ({ frames := 0, cells := 0, slots := 0, locals := 0 } : Room) M [.ref (fw_ad X g), .int a1] (.inl o, M) := by
  refine fw_open rfl (Nat.le_of_ble_eq_true rfl) (fun p e s m below meth c ls C hr hlk hnm hex hl B => ?_)
  have C : fr_C X p c cX7_stopUnder 2 RX7 s m ([.ref (fw_ad X g), .int a1] : List Value).toArray := C
  have hx := C.1.1
  have hb := C.1.2.1
  have hl : lv_has ls 2 [(0, .ref (fw_ad X g)), (1, .int a1)] := hl
  unfold F_X7_stopUnder at hF
  refine lv_aload_n hx hb dX7_stopUnder_0 rfl (lv_at hl 0 rfl) ?_
  refine gf_X7_12 C B hg dX7_stopUnder_1 ?_
  refine gf_X7_149 C B (is3_of hg) dX7_stopUnder_4 ?_
  refine lv_aload_n hx hb dX7_stopUnder_7 rfl (lv_at hl 0 rfl) ?_
  refine gf_X7_21 C B hg dX7_stopUnder_8 ?_
  refine gf_X7_103 C B (is1_of hg) dX7_stopUnder_11 ?_
  refine lv_iload_n hx hb dX7_stopUnder_14 rfl (lv_at hl 1 rfl) ?_
  obtain ⟨c1, hF⟩ := of_g hF
  refine fr_ia C B (ar_1_1 (is1_of hg)) c1 dX7_stopUnder_15 ?_
  obtain ⟨c2, hF⟩ := of_g hF
  refine fr_aa C B (aq_3 (is3_of hg)) c2 dX7_stopUnder_16 ?_
  refine lv_aload_n hx hb dX7_stopUnder_17 rfl (lv_at hl 0 rfl) ?_
  refine gf_X7_21 C B hg dX7_stopUnder_18 ?_
  refine gf_X7_153 C B (is1_of hg) dX7_stopUnder_21 ?_
  refine lv_iload_n hx hb dX7_stopUnder_24 rfl (lv_at hl 1 rfl) ?_
  refine fr_ia C B (ar_1_2 (is1_of hg)) c1 dX7_stopUnder_25 ?_
  obtain ⟨c3, hF⟩ := of_g hF
  refine fr_ia C B (ar_3_row (is3_of hg) (ix_lt c2)) c3 dX7_stopUnder_26 ?_
  exact fr_iret C B hr rfl hlk (by rw [← Option.some.inj hF]) (Nat.le_of_ble_eq_true rfl) (Nat.le_of_ble_eq_true rfl) dX7_stopUnder_27
def F_X7_wouldTransfer (M : fw_M) (g : Nat) (a1 : Int32) (a2 : Int32) : Option (Int32) :=
  if ix_i a1 8 then
  if ¬ (fw_ri M ((g + 15) + 2) a1) = (-1) then
    some 0
  else
    if ¬ (fw_ri M ((g + 15) + 5) a1) = (-1) then
      if (fw_ri M ((g + 15) + 5) a1) = a2 then
        some 0
      else
        if 1 < ((M g 4) - (fw_ri M ((g + 15) + 6) a1)) then
          some 0
        else
          some 1
    else
      some 0
  else none
set_option maxHeartbeats 4000000 in
set_option maxRecDepth 100000 in
theorem cm_X7_wouldTransfer {l : Launch} {X : fw_X} {M : fw_M} {g : Nat} {a1 : Int32} {a2 : Int32} (hg : is7 g) {o : Int32} (hF : F_X7_wouldTransfer M g a1 a2 = some o) : ct_i l X yX7_wouldTransfer cX7_wouldTransfer 3 (some .boolean) ({ frames := 0, cells := 0, slots := 0, locals := 0 } : Room) M [.ref (fw_ad X g), .int a1, .int a2] (.inl o, M) := by
  refine fw_open rfl (Nat.le_of_ble_eq_true rfl) (fun p e s m below meth c ls C hr hlk hnm hex hl B => ?_)
  have C : fr_C X p c cX7_wouldTransfer 3 RX7 s m ([.ref (fw_ad X g), .int a1, .int a2] : List Value).toArray := C
  have hx := C.1.1
  have hb := C.1.2.1
  have hl : lv_has ls 3 [(0, .ref (fw_ad X g)), (1, .int a1), (2, .int a2)] := hl
  unfold F_X7_wouldTransfer at hF
  refine lv_aload_n hx hb dX7_wouldTransfer_0 rfl (lv_at hl 0 rfl) ?_
  refine gf_X7_28 C B hg dX7_wouldTransfer_1 ?_
  refine gf_X7_93 C B (is6_of hg) dX7_wouldTransfer_4 ?_
  refine lv_iload_n hx hb dX7_wouldTransfer_7 rfl (lv_at hl 1 rfl) ?_
  obtain ⟨c1, hF⟩ := of_g hF
  refine fr_ia C B (ar_6_2 (is6_of hg)) c1 dX7_wouldTransfer_8 ?_
  refine lv_iconst (v := (-1)) hx hb dX7_wouldTransfer_9 (by decide) ?_
  refine lv_icmp_ne (tgt := 26) hx hb dX7_wouldTransfer_10 (by decide) (fun c2 => ?_) (fun c2 => ?_)
  · have hF := it_t hF c2
    refine lv_iconst (v := 0) hx hb dX7_wouldTransfer_26 (by decide) ?_
    exact fr_iret C B hr rfl hlk (by rw [← Option.some.inj hF]) (Nat.le_of_ble_eq_true rfl) (Nat.le_of_ble_eq_true rfl) dX7_wouldTransfer_27
  · have hF := it_f hF (not_not_intro c2)
    refine lv_aload_n hx hb dX7_wouldTransfer_13 rfl (lv_at hl 0 rfl) ?_
    refine gf_X7_28 C B hg dX7_wouldTransfer_14 ?_
    refine gf_X7_129 C B (is6_of hg) dX7_wouldTransfer_17 ?_
    refine lv_iload_n hx hb dX7_wouldTransfer_20 rfl (lv_at hl 1 rfl) ?_
    refine fr_ia C B (ar_6_5 (is6_of hg)) c1 dX7_wouldTransfer_21 ?_
    refine lv_iconst (v := (-1)) hx hb dX7_wouldTransfer_22 (by decide) ?_
    refine lv_icmp_ne (tgt := 28) hx hb dX7_wouldTransfer_23 (by decide) (fun c3 => ?_) (fun c3 => ?_)
    · have hF := it_t hF c3
      refine lv_aload_n hx hb dX7_wouldTransfer_28 rfl (lv_at hl 0 rfl) ?_
      refine gf_X7_28 C B hg dX7_wouldTransfer_29 ?_
      refine gf_X7_129 C B (is6_of hg) dX7_wouldTransfer_32 ?_
      refine lv_iload_n hx hb dX7_wouldTransfer_35 rfl (lv_at hl 1 rfl) ?_
      refine fr_ia C B (ar_6_5 (is6_of hg)) c1 dX7_wouldTransfer_36 ?_
      refine lv_iload_n hx hb dX7_wouldTransfer_37 rfl (lv_at hl 2 rfl) ?_
      refine lv_icmp_eq (tgt := 63) hx hb dX7_wouldTransfer_38 (by decide) (fun c4 => ?_) (fun c4 => ?_)
      · have hF := it_t hF c4
        refine lv_iconst (v := 0) hx hb dX7_wouldTransfer_63 (by decide) ?_
        exact fr_iret C B hr rfl hlk (by rw [← Option.some.inj hF]) (Nat.le_of_ble_eq_true rfl) (Nat.le_of_ble_eq_true rfl) dX7_wouldTransfer_64
      · have hF := it_f hF c4
        refine lv_aload_n hx hb dX7_wouldTransfer_41 rfl (lv_at hl 0 rfl) ?_
        refine gf_X7_52 C B hg dX7_wouldTransfer_42 ?_
        refine lv_aload_n hx hb dX7_wouldTransfer_45 rfl (lv_at hl 0 rfl) ?_
        refine gf_X7_28 C B hg dX7_wouldTransfer_46 ?_
        refine gf_X7_132 C B (is6_of hg) dX7_wouldTransfer_49 ?_
        refine lv_iload_n hx hb dX7_wouldTransfer_52 rfl (lv_at hl 1 rfl) ?_
        refine fr_ia C B (ar_6_6 (is6_of hg)) c1 dX7_wouldTransfer_53 ?_
        refine lv_isub hx hb dX7_wouldTransfer_54 ?_
        refine lv_iconst (v := 1) hx hb dX7_wouldTransfer_55 (by decide) ?_
        refine lv_icmp_gt (tgt := 63) hx hb dX7_wouldTransfer_56 (by decide) (fun c5 => ?_) (fun c5 => ?_)
        · have hF := it_t hF c5
          refine lv_iconst (v := 0) hx hb dX7_wouldTransfer_63 (by decide) ?_
          exact fr_iret C B hr rfl hlk (by rw [← Option.some.inj hF]) (Nat.le_of_ble_eq_true rfl) (Nat.le_of_ble_eq_true rfl) dX7_wouldTransfer_64
        · have hF := it_f hF c5
          refine lv_iconst (v := 1) hx hb dX7_wouldTransfer_59 (by decide) ?_
          refine lv_goto (tgt := 64) hx hb dX7_wouldTransfer_60 (by decide) ?_
          exact fr_iret C B hr rfl hlk (by rw [← Option.some.inj hF]) (Nat.le_of_ble_eq_true rfl) (Nat.le_of_ble_eq_true rfl) dX7_wouldTransfer_64
    · have hF := it_f hF (not_not_intro c3)
      refine lv_iconst (v := 0) hx hb dX7_wouldTransfer_26 (by decide) ?_
      exact fr_iret C B hr rfl hlk (by rw [← Option.some.inj hF]) (Nat.le_of_ble_eq_true rfl) (Nat.le_of_ble_eq_true rfl) dX7_wouldTransfer_27
def F_X7_countWiser_14 (M : fw_M) (g : Nat) (a1 : Int32)  : Nat → Int32 → Int32 → Int32 → Option (Int32)
  | 0, _, _, _ => none
  | n + 1, x2, x3, x4 =>
    if (M (g + 15) 0) ≤ x4 then
      some x3
    else
      bd_x (F_X2_countKnownBy M (g + 22) x4) fun r3 =>
      if x2 < r3 then
        F_X7_countWiser_14 M g a1 n x2 (x3 + 1) (x4 + 1)
      else
        if ¬ r3 = x2 then
          F_X7_countWiser_14 M g a1 n x2 x3 (x4 + 1)
        else
          if a1 ≤ x4 then
            F_X7_countWiser_14 M g a1 n x2 x3 (x4 + 1)
          else
            F_X7_countWiser_14 M g a1 n x2 (x3 + 1) (x4 + 1)
def F_X7_countWiser (M : fw_M) (g : Nat) (a1 : Int32) : Option (Int32) :=
  bd_x (F_X2_countKnownBy M (g + 22) a1) fun r9 =>
  F_X7_countWiser_14 M g a1 64 r9 0 0
set_option maxHeartbeats 4000000 in
set_option maxRecDepth 100000 in
theorem cm_X7_countWiser {l : Launch} {X : fw_X} {M : fw_M} {g : Nat} {a1 : Int32} (hg : is7 g) {o : Int32} (hF : F_X7_countWiser M g a1 = some o) : ct_i l X yX7_countWiser cX7_countWiser 6 (some .int) ({ frames := 2, cells := 0, slots := 0, locals := 45 } : Room) M [.ref (fw_ad X g), .int a1] (.inl o, M) := by
  refine fw_open rfl (Nat.le_of_ble_eq_true rfl) (fun p e s m below meth c ls C hr hlk hnm hex hl B => ?_)
  have C : fr_C X p c cX7_countWiser 6 RX7 s m ([.ref (fw_ad X g), .int a1] : List Value).toArray := C
  have hx := C.1.1
  have hb := C.1.2.1
  have hl : lv_has ls 6 [(0, .ref (fw_ad X g)), (1, .int a1)] := hl
  have hJ14 : ∀ (n : Nat), ∀ (x2 : Int32) (x3 : Int32) (x4 : Int32) (H : Heap) (locs : List Loc) (ls : Array Slot), F_X7_countWiser_14 M g a1 n x2 x3 x4 = some o → fr_H X s M H locs → lv_has ls 6 [(0, .ref (fw_ad X g)), (1, .int a1), (2, .int x2), (3, .int x3), (4, .int x4)] → W p l e ({ frames := 2, cells := 0, slots := 0, locals := 45 } : Room) s m ([.ref (fw_ad X g), .int a1] : List Value).toArray below meth c H locs 0 0 (vx_MQ below (fw_Qi X (.inl o, M)) (fw_Qx X (.inl o, M)) ([.ref (fw_ad X g), .int a1] : List Value).toArray s 0 0 (fw_A X)) (F0 m 14 ls []) := by
    intro n
    induction n with
    | zero =>
      intro x2 x3 x4 H locs ls hF B hl
      exact absurd hF (by simp [F_X7_countWiser_14])
    | succ n ih =>
      intro x2 x3 x4 H locs ls hF B hl
      rw [F_X7_countWiser_14] at hF
      refine lv_iload hx hb dX7_countWiser_14 (lv_at hl 4 rfl) ?_
      refine lv_aload_n hx hb dX7_countWiser_16 rfl (lv_at hl 0 rfl) ?_
      refine gf_X7_28 C B hg dX7_countWiser_17 ?_
      refine gf_X7_83 C B (is6_of hg) dX7_countWiser_20 ?_
      refine lv_icmp_ge (tgt := 64) hx hb dX7_countWiser_23 (by decide) (fun c1 => ?_) (fun c1 => ?_)
      · have hF := it_t hF c1
        refine lv_iload_n hx hb dX7_countWiser_64 rfl (lv_at hl 3 rfl) ?_
        exact fr_iret C B hr rfl hlk (by rw [← Option.some.inj hF]) (Nat.le_of_ble_eq_true rfl) (Nat.le_of_ble_eq_true rfl) dX7_countWiser_65
      · have hF := it_f hF c1
        refine lv_aload_n hx hb dX7_countWiser_26 rfl (lv_at hl 0 rfl) ?_
        refine gf_X7_35 C B hg dX7_countWiser_27 ?_
        refine lv_iload hx hb dX7_countWiser_30 (lv_at hl 4 rfl) ?_
        obtain ⟨r3, hf2, hF⟩ := bx_e hF
        refine fr_cVi (As := [.int x4]) (rest := []) C B (cm_X2_countKnownBy (is2_of hg) hf2) (ob_2 (is2_of hg)) rfl yw_X2_countKnownBy wm_X7_156 rfl hl.1 rfl (Nat.le_of_ble_eq_true rfl) ⟨Nat.le_of_ble_eq_true rfl, Nat.le_of_ble_eq_true rfl⟩ ⟨Nat.le_of_ble_eq_true rfl, Nat.le_of_ble_eq_true rfl⟩ dX7_countWiser_32 (fr_nx rfl) (fun r9 M9 H locs ho9 B => ?_)
        obtain ⟨rfl, rfl⟩ := oi_e ho9
        refine lv_istore (lv' := [(5, .int r3), (0, .ref (fw_ad X g)), (1, .int a1), (2, .int x2), (3, .int x3), (4, .int x4)]) hx hb dX7_countWiser_35 hl (by decide) rfl (fun ls hl => ?_)
        refine lv_iload hx hb dX7_countWiser_37 (lv_at hl 0 rfl) ?_
        refine lv_iload_n hx hb dX7_countWiser_39 rfl (lv_at hl 3 rfl) ?_
        refine lv_icmp_gt (tgt := 55) hx hb dX7_countWiser_40 (by decide) (fun c5 => ?_) (fun c5 => ?_)
        · have hF := it_t hF c5
          refine lv_iinc (v := (x3 + 1)) (lv' := [(3, .int (x3 + 1)), (5, .int r3), (0, .ref (fw_ad X g)), (1, .int a1), (2, .int x2), (4, .int x4)]) hx hb dX7_countWiser_55 hl (k := 4) rfl rfl (by decide) rfl (fun ls hl => ?_)
          refine lv_iinc (v := (x4 + 1)) (lv' := [(4, .int (x4 + 1)), (3, .int (x3 + 1)), (5, .int r3), (0, .ref (fw_ad X g)), (1, .int a1), (2, .int x2)]) hx hb dX7_countWiser_58 hl (k := 5) rfl rfl (by decide) rfl (fun ls hl => ?_)
          refine lv_goto (tgt := 14) hx hb dX7_countWiser_61 (by decide) ?_
          exact ih x2 (x3 + 1) (x4 + 1) _ _ _ hF B (lv_sub hl [3, 4, 5, 1, 0] rfl)
        · have hF := it_f hF c5
          refine lv_iload hx hb dX7_countWiser_43 (lv_at hl 0 rfl) ?_
          refine lv_iload_n hx hb dX7_countWiser_45 rfl (lv_at hl 3 rfl) ?_
          refine lv_icmp_ne (tgt := 58) hx hb dX7_countWiser_46 (by decide) (fun c6 => ?_) (fun c6 => ?_)
          · have hF := it_t hF c6
            refine lv_iinc (v := (x4 + 1)) (lv' := [(4, .int (x4 + 1)), (5, .int r3), (0, .ref (fw_ad X g)), (1, .int a1), (2, .int x2), (3, .int x3)]) hx hb dX7_countWiser_58 hl (k := 5) rfl rfl (by decide) rfl (fun ls hl => ?_)
            refine lv_goto (tgt := 14) hx hb dX7_countWiser_61 (by decide) ?_
            exact ih x2 x3 (x4 + 1) _ _ _ hF B (lv_sub hl [2, 3, 4, 5, 0] rfl)
          · have hF := it_f hF (not_not_intro c6)
            refine lv_iload hx hb dX7_countWiser_49 (lv_at hl 5 rfl) ?_
            refine lv_iload_n hx hb dX7_countWiser_51 rfl (lv_at hl 2 rfl) ?_
            refine lv_icmp_ge (tgt := 58) hx hb dX7_countWiser_52 (by decide) (fun c7 => ?_) (fun c7 => ?_)
            · have hF := it_t hF c7
              refine lv_iinc (v := (x4 + 1)) (lv' := [(4, .int (x4 + 1)), (5, .int r3), (0, .ref (fw_ad X g)), (1, .int a1), (2, .int x2), (3, .int x3)]) hx hb dX7_countWiser_58 hl (k := 5) rfl rfl (by decide) rfl (fun ls hl => ?_)
              refine lv_goto (tgt := 14) hx hb dX7_countWiser_61 (by decide) ?_
              exact ih x2 x3 (x4 + 1) _ _ _ hF B (lv_sub hl [2, 3, 4, 5, 0] rfl)
            · have hF := it_f hF c7
              refine lv_iinc (v := (x3 + 1)) (lv' := [(3, .int (x3 + 1)), (5, .int r3), (0, .ref (fw_ad X g)), (1, .int a1), (2, .int x2), (4, .int x4)]) hx hb dX7_countWiser_55 hl (k := 4) rfl rfl (by decide) rfl (fun ls hl => ?_)
              refine lv_iinc (v := (x4 + 1)) (lv' := [(4, .int (x4 + 1)), (3, .int (x3 + 1)), (5, .int r3), (0, .ref (fw_ad X g)), (1, .int a1), (2, .int x2)]) hx hb dX7_countWiser_58 hl (k := 5) rfl rfl (by decide) rfl (fun ls hl => ?_)
              refine lv_goto (tgt := 14) hx hb dX7_countWiser_61 (by decide) ?_
              exact ih x2 (x3 + 1) (x4 + 1) _ _ _ hF B (lv_sub hl [3, 4, 5, 1, 0] rfl)
  unfold F_X7_countWiser at hF
  refine lv_aload_n hx hb dX7_countWiser_0 rfl (lv_at hl 0 rfl) ?_
  refine gf_X7_35 C B hg dX7_countWiser_1 ?_
  refine lv_iload_n hx hb dX7_countWiser_4 rfl (lv_at hl 1 rfl) ?_
  obtain ⟨r9, hf8, hF⟩ := bx_e hF
  refine fr_cVi (As := [.int a1]) (rest := []) C B (cm_X2_countKnownBy (is2_of hg) hf8) (ob_2 (is2_of hg)) rfl yw_X2_countKnownBy wm_X7_156 rfl hl.1 rfl (Nat.le_of_ble_eq_true rfl) ⟨Nat.le_of_ble_eq_true rfl, Nat.le_of_ble_eq_true rfl⟩ ⟨Nat.le_of_ble_eq_true rfl, Nat.le_of_ble_eq_true rfl⟩ dX7_countWiser_5 (fr_nx rfl) (fun r9 M9 H locs ho9 B => ?_)
  obtain ⟨rfl, rfl⟩ := oi_e ho9
  refine lv_istore_n (lv' := [(2, .int r9), (0, .ref (fw_ad X g)), (1, .int a1)]) hx hb dX7_countWiser_8 rfl hl (by decide) rfl (fun ls hl => ?_)
  refine lv_iconst (v := 0) hx hb dX7_countWiser_9 (by decide) ?_
  refine lv_istore_n (lv' := [(3, .int 0), (2, .int r9), (0, .ref (fw_ad X g)), (1, .int a1)]) hx hb dX7_countWiser_10 rfl hl (by decide) rfl (fun ls hl => ?_)
  refine lv_iconst (v := 0) hx hb dX7_countWiser_11 (by decide) ?_
  refine lv_istore (lv' := [(4, .int 0), (3, .int 0), (2, .int r9), (0, .ref (fw_ad X g)), (1, .int a1)]) hx hb dX7_countWiser_12 hl (by decide) rfl (fun ls hl => ?_)
  exact hJ14 64 r9 0 0 _ _ _ hF B (lv_sub hl [3, 4, 2, 1, 0] rfl)
def F_X7_ticksByFormula (M : fw_M) (g : Nat) (a1 : Int32) (a2 : Int32) : Option (Int32) :=
  if ix_i a1 6 then
  bd_x (F_X3_positionOn M (g + 1) (fw_ri M ((g + 11) + 1) a1) a2) fun r3 =>
  if ¬ r3 = (-1) then
    if ix_i (fw_ri M ((g + 11) + 1) a1) 5 then
    if (fw_ri M ((g + 11) + 3) a1) ≤ 0 then
      if (fw_ri M ((g + 11) + 2) a1) < r3 then
        some ((fw_ri M ((g + 11) + 2) a1) + r3)
      else
        some ((fw_ri M ((g + 11) + 2) a1) - r3)
    else
      if r3 < (fw_ri M ((g + 11) + 2) a1) then
        some ((((fw_ri M ((g + 1) + 2) (fw_ri M ((g + 11) + 1) a1)) - 1) - (fw_ri M ((g + 11) + 2) a1)) + (((fw_ri M ((g + 1) + 2) (fw_ri M ((g + 11) + 1) a1)) - 1) - r3))
      else
        some (r3 - (fw_ri M ((g + 11) + 2) a1))
    else none
  else
    some (-1)
  else none
set_option maxHeartbeats 4000000 in
set_option maxRecDepth 100000 in
theorem cm_X7_ticksByFormula {l : Launch} {X : fw_X} {M : fw_M} {g : Nat} {a1 : Int32} {a2 : Int32} (hg : is7 g) {o : Int32} (hF : F_X7_ticksByFormula M g a1 a2 = some o) : ct_i l X yX7_ticksByFormula cX7_ticksByFormula 7 (some .int) ({ frames := 1, cells := 0, slots := 0, locals := 23 } : Room) M [.ref (fw_ad X g), .int a1, .int a2] (.inl o, M) := by
  refine fw_open rfl (Nat.le_of_ble_eq_true rfl) (fun p e s m below meth c ls C hr hlk hnm hex hl B => ?_)
  have C : fr_C X p c cX7_ticksByFormula 7 RX7 s m ([.ref (fw_ad X g), .int a1, .int a2] : List Value).toArray := C
  have hx := C.1.1
  have hb := C.1.2.1
  have hl : lv_has ls 7 [(0, .ref (fw_ad X g)), (1, .int a1), (2, .int a2)] := hl
  unfold F_X7_ticksByFormula at hF
  refine lv_aload_n hx hb dX7_ticksByFormula_0 rfl (lv_at hl 0 rfl) ?_
  refine gf_X7_21 C B hg dX7_ticksByFormula_1 ?_
  refine gf_X7_103 C B (is1_of hg) dX7_ticksByFormula_4 ?_
  refine lv_iload_n hx hb dX7_ticksByFormula_7 rfl (lv_at hl 1 rfl) ?_
  obtain ⟨c1, hF⟩ := of_g hF
  refine fr_ia C B (ar_1_1 (is1_of hg)) c1 dX7_ticksByFormula_8 ?_
  refine lv_istore_n (lv' := [(3, .int (fw_ri M ((g + 11) + 1) a1)), (0, .ref (fw_ad X g)), (1, .int a1), (2, .int a2)]) hx hb dX7_ticksByFormula_9 rfl hl (by decide) rfl (fun ls hl => ?_)
  refine lv_aload_n hx hb dX7_ticksByFormula_10 rfl (lv_at hl 1 rfl) ?_
  refine gf_X7_12 C B hg dX7_ticksByFormula_11 ?_
  refine lv_iload_n hx hb dX7_ticksByFormula_14 rfl (lv_at hl 0 rfl) ?_
  refine lv_iload_n hx hb dX7_ticksByFormula_15 rfl (lv_at hl 3 rfl) ?_
  obtain ⟨r3, hf2, hF⟩ := bx_e hF
  refine fr_cVi (As := [.int (fw_ri M ((g + 11) + 1) a1), .int a2]) (rest := []) C B (cm_X3_positionOn (is3_of hg) hf2) (ob_3 (is3_of hg)) rfl yw_X3_positionOn wm_X7_159 rfl hl.1 rfl (Nat.le_of_ble_eq_true rfl) ⟨Nat.le_of_ble_eq_true rfl, Nat.le_of_ble_eq_true rfl⟩ ⟨Nat.le_of_ble_eq_true rfl, Nat.le_of_ble_eq_true rfl⟩ dX7_ticksByFormula_16 (fr_nx rfl) (fun r9 M9 H locs ho9 B => ?_)
  obtain ⟨rfl, rfl⟩ := oi_e ho9
  refine lv_istore (lv' := [(4, .int r3), (3, .int (fw_ri M ((g + 11) + 1) a1)), (0, .ref (fw_ad X g)), (1, .int a1), (2, .int a2)]) hx hb dX7_ticksByFormula_19 hl (by decide) rfl (fun ls hl => ?_)
  refine lv_iload hx hb dX7_ticksByFormula_21 (lv_at hl 0 rfl) ?_
  refine lv_iconst (v := (-1)) hx hb dX7_ticksByFormula_23 (by decide) ?_
  refine lv_icmp_ne (tgt := 29) hx hb dX7_ticksByFormula_24 (by decide) (fun c5 => ?_) (fun c5 => ?_)
  · have hF := it_t hF c5
    refine lv_aload_n hx hb dX7_ticksByFormula_29 rfl (lv_at hl 2 rfl) ?_
    refine gf_X7_21 C B hg dX7_ticksByFormula_30 ?_
    refine gf_X7_153 C B (is1_of hg) dX7_ticksByFormula_33 ?_
    refine lv_iload_n hx hb dX7_ticksByFormula_36 rfl (lv_at hl 3 rfl) ?_
    refine fr_ia C B (ar_1_2 (is1_of hg)) c1 dX7_ticksByFormula_37 ?_
    refine lv_istore (lv' := [(5, .int (fw_ri M ((g + 11) + 2) a1)), (4, .int r3), (3, .int (fw_ri M ((g + 11) + 1) a1)), (0, .ref (fw_ad X g)), (1, .int a1), (2, .int a2)]) hx hb dX7_ticksByFormula_38 hl (by decide) rfl (fun ls hl => ?_)
    refine lv_aload_n hx hb dX7_ticksByFormula_40 rfl (lv_at hl 3 rfl) ?_
    refine gf_X7_12 C B hg dX7_ticksByFormula_41 ?_
    refine gf_X7_76 C B (is3_of hg) dX7_ticksByFormula_44 ?_
    refine lv_iload_n hx hb dX7_ticksByFormula_47 rfl (lv_at hl 2 rfl) ?_
    obtain ⟨c6, hF⟩ := of_g hF
    refine fr_ia C B (ar_3_2 (is3_of hg)) c6 dX7_ticksByFormula_48 ?_
    refine lv_iconst (v := 1) hx hb dX7_ticksByFormula_49 (by decide) ?_
    refine lv_isub hx hb dX7_ticksByFormula_50 ?_
    refine lv_istore (lv' := [(6, .int ((fw_ri M ((g + 1) + 2) (fw_ri M ((g + 11) + 1) a1)) - 1)), (5, .int (fw_ri M ((g + 11) + 2) a1)), (4, .int r3), (3, .int (fw_ri M ((g + 11) + 1) a1)), (0, .ref (fw_ad X g)), (1, .int a1), (2, .int a2)]) hx hb dX7_ticksByFormula_51 hl (by decide) rfl (fun ls hl => ?_)
    refine lv_aload_n hx hb dX7_ticksByFormula_53 rfl (lv_at hl 4 rfl) ?_
    refine gf_X7_21 C B hg dX7_ticksByFormula_54 ?_
    refine gf_X7_163 C B (is1_of hg) dX7_ticksByFormula_57 ?_
    refine lv_iload_n hx hb dX7_ticksByFormula_60 rfl (lv_at hl 5 rfl) ?_
    refine fr_ia C B (ar_1_3 (is1_of hg)) c1 dX7_ticksByFormula_61 ?_
    refine lv_if_le (tgt := 92) hx hb dX7_ticksByFormula_62 (by decide) (fun c7 => ?_) (fun c7 => ?_)
    · have hF := it_t hF c7
      refine lv_iload hx hb dX7_ticksByFormula_92 (lv_at hl 2 rfl) ?_
      refine lv_iload hx hb dX7_ticksByFormula_94 (lv_at hl 1 rfl) ?_
      refine lv_icmp_gt (tgt := 107) hx hb dX7_ticksByFormula_96 (by decide) (fun c8 => ?_) (fun c8 => ?_)
      · have hF := it_t hF c8
        refine lv_iload hx hb dX7_ticksByFormula_107 (lv_at hl 1 rfl) ?_
        refine lv_iload hx hb dX7_ticksByFormula_109 (lv_at hl 2 rfl) ?_
        refine lv_iadd hx hb dX7_ticksByFormula_111 ?_
        exact fr_iret C B hr rfl hlk (by rw [← Option.some.inj hF]) (Nat.le_of_ble_eq_true rfl) (Nat.le_of_ble_eq_true rfl) dX7_ticksByFormula_112
      · have hF := it_f hF c8
        refine lv_iload hx hb dX7_ticksByFormula_99 (lv_at hl 1 rfl) ?_
        refine lv_iload hx hb dX7_ticksByFormula_101 (lv_at hl 2 rfl) ?_
        refine lv_isub hx hb dX7_ticksByFormula_103 ?_
        refine lv_goto (tgt := 112) hx hb dX7_ticksByFormula_104 (by decide) ?_
        exact fr_iret C B hr rfl hlk (by rw [← Option.some.inj hF]) (Nat.le_of_ble_eq_true rfl) (Nat.le_of_ble_eq_true rfl) dX7_ticksByFormula_112
    · have hF := it_f hF c7
      refine lv_iload hx hb dX7_ticksByFormula_65 (lv_at hl 2 rfl) ?_
      refine lv_iload hx hb dX7_ticksByFormula_67 (lv_at hl 1 rfl) ?_
      refine lv_icmp_lt (tgt := 80) hx hb dX7_ticksByFormula_69 (by decide) (fun c9 => ?_) (fun c9 => ?_)
      · have hF := it_t hF c9
        refine lv_iload hx hb dX7_ticksByFormula_80 (lv_at hl 0 rfl) ?_
        refine lv_iload hx hb dX7_ticksByFormula_82 (lv_at hl 1 rfl) ?_
        refine lv_isub hx hb dX7_ticksByFormula_84 ?_
        refine lv_iload hx hb dX7_ticksByFormula_85 (lv_at hl 0 rfl) ?_
        refine lv_iload hx hb dX7_ticksByFormula_87 (lv_at hl 2 rfl) ?_
        refine lv_isub hx hb dX7_ticksByFormula_89 ?_
        refine lv_iadd hx hb dX7_ticksByFormula_90 ?_
        exact fr_iret C B hr rfl hlk (by rw [← Option.some.inj hF]) (Nat.le_of_ble_eq_true rfl) (Nat.le_of_ble_eq_true rfl) dX7_ticksByFormula_91
      · have hF := it_f hF c9
        refine lv_iload hx hb dX7_ticksByFormula_72 (lv_at hl 2 rfl) ?_
        refine lv_iload hx hb dX7_ticksByFormula_74 (lv_at hl 1 rfl) ?_
        refine lv_isub hx hb dX7_ticksByFormula_76 ?_
        refine lv_goto (tgt := 91) hx hb dX7_ticksByFormula_77 (by decide) ?_
        exact fr_iret C B hr rfl hlk (by rw [← Option.some.inj hF]) (Nat.le_of_ble_eq_true rfl) (Nat.le_of_ble_eq_true rfl) dX7_ticksByFormula_91
  · have hF := it_f hF (not_not_intro c5)
    refine lv_iconst (v := (-1)) hx hb dX7_ticksByFormula_27 (by decide) ?_
    exact fr_iret C B hr rfl hlk (by rw [← Option.some.inj hF]) (Nat.le_of_ble_eq_true rfl) (Nat.le_of_ble_eq_true rfl) dX7_ticksByFormula_28
def F_X7_ticksBySimulation_48 (M : fw_M) (g : Nat) (a1 : Int32) (a2 : Int32)  : Nat → Int32 → Int32 → Int32 → Int32 → Int32 → Option (Int32)
  | 0, _, _, _, _, _ => none
  | n + 1, x3, x4, x5, x6, x7 =>
    if 10 < x7 then
      some (-1)
    else
      if ix_i x3 5 then
      if ix_i x5 6 then
      if ¬ (fw_ri M ((g + 1) + 4 + x3.toNatClampNeg) x5) = a2 then
        bd_x (F_X1_turned M (x5 + x6) x6 x4) fun r6 =>
        F_X7_ticksBySimulation_48 M g a1 a2 n x3 x4 (x5 + x6) r6 (x7 + 1)
      else
        some x7
      else none
      else none
def F_X7_ticksBySimulation (M : fw_M) (g : Nat) (a1 : Int32) (a2 : Int32) : Option (Int32) :=
  if ix_i a1 6 then
  if ix_i (fw_ri M ((g + 11) + 1) a1) 5 then
  F_X7_ticksBySimulation_48 M g a1 a2 64 (fw_ri M ((g + 11) + 1) a1) ((fw_ri M ((g + 1) + 2) (fw_ri M ((g + 11) + 1) a1)) - 1) (fw_ri M ((g + 11) + 2) a1) (fw_ri M ((g + 11) + 3) a1) 0
  else none
  else none
set_option maxHeartbeats 4000000 in
set_option maxRecDepth 100000 in
theorem cm_X7_ticksBySimulation {l : Launch} {X : fw_X} {M : fw_M} {g : Nat} {a1 : Int32} {a2 : Int32} (hg : is7 g) {o : Int32} (hF : F_X7_ticksBySimulation M g a1 a2 = some o) : ct_i l X yX7_ticksBySimulation cX7_ticksBySimulation 8 (some .int) ({ frames := 1, cells := 0, slots := 0, locals := 22 } : Room) M [.ref (fw_ad X g), .int a1, .int a2] (.inl o, M) := by
  refine fw_open rfl (Nat.le_of_ble_eq_true rfl) (fun p e s m below meth c ls C hr hlk hnm hex hl B => ?_)
  have C : fr_C X p c cX7_ticksBySimulation 8 RX7 s m ([.ref (fw_ad X g), .int a1, .int a2] : List Value).toArray := C
  have hx := C.1.1
  have hb := C.1.2.1
  have hl : lv_has ls 8 [(0, .ref (fw_ad X g)), (1, .int a1), (2, .int a2)] := hl
  have hJ48 : ∀ (n : Nat), ∀ (x3 : Int32) (x4 : Int32) (x5 : Int32) (x6 : Int32) (x7 : Int32) (H : Heap) (locs : List Loc) (ls : Array Slot), F_X7_ticksBySimulation_48 M g a1 a2 n x3 x4 x5 x6 x7 = some o → fr_H X s M H locs → lv_has ls 8 [(0, .ref (fw_ad X g)), (2, .int a2), (3, .int x3), (4, .int x4), (5, .int x5), (6, .int x6), (7, .int x7)] → W p l e ({ frames := 1, cells := 0, slots := 0, locals := 22 } : Room) s m ([.ref (fw_ad X g), .int a1, .int a2] : List Value).toArray below meth c H locs 0 0 (vx_MQ below (fw_Qi X (.inl o, M)) (fw_Qx X (.inl o, M)) ([.ref (fw_ad X g), .int a1, .int a2] : List Value).toArray s 0 0 (fw_A X)) (F0 m 48 ls []) := by
    intro n
    induction n with
    | zero =>
      intro x3 x4 x5 x6 x7 H locs ls hF B hl
      exact absurd hF (by simp [F_X7_ticksBySimulation_48])
    | succ n ih =>
      intro x3 x4 x5 x6 x7 H locs ls hF B hl
      rw [F_X7_ticksBySimulation_48] at hF
      refine lv_iload hx hb dX7_ticksBySimulation_48 (lv_at hl 6 rfl) ?_
      refine lv_bipush (v := 10) hx hb dX7_ticksBySimulation_50 (by decide) ?_
      refine lv_icmp_gt (tgt := 98) hx hb dX7_ticksBySimulation_52 (by decide) (fun c1 => ?_) (fun c1 => ?_)
      · have hF := it_t hF c1
        refine lv_iconst (v := (-1)) hx hb dX7_ticksBySimulation_98 (by decide) ?_
        exact fr_iret C B hr rfl hlk (by rw [← Option.some.inj hF]) (Nat.le_of_ble_eq_true rfl) (Nat.le_of_ble_eq_true rfl) dX7_ticksBySimulation_99
      · have hF := it_f hF c1
        refine lv_aload_n hx hb dX7_ticksBySimulation_55 rfl (lv_at hl 0 rfl) ?_
        refine gf_X7_12 C B hg dX7_ticksBySimulation_56 ?_
        refine gf_X7_149 C B (is3_of hg) dX7_ticksBySimulation_59 ?_
        refine lv_iload_n hx hb dX7_ticksBySimulation_62 rfl (lv_at hl 2 rfl) ?_
        obtain ⟨c2, hF⟩ := of_g hF
        refine fr_aa C B (aq_3 (is3_of hg)) c2 dX7_ticksBySimulation_63 ?_
        refine lv_iload hx hb dX7_ticksBySimulation_64 (lv_at hl 4 rfl) ?_
        obtain ⟨c3, hF⟩ := of_g hF
        refine fr_ia C B (ar_3_row (is3_of hg) (ix_lt c2)) c3 dX7_ticksBySimulation_66 ?_
        refine lv_iload_n hx hb dX7_ticksBySimulation_67 rfl (lv_at hl 1 rfl) ?_
        refine lv_icmp_ne (tgt := 74) hx hb dX7_ticksBySimulation_68 (by decide) (fun c4 => ?_) (fun c4 => ?_)
        · have hF := it_t hF c4
          refine lv_iload hx hb dX7_ticksBySimulation_74 (lv_at hl 4 rfl) ?_
          refine lv_iload hx hb dX7_ticksBySimulation_76 (lv_at hl 5 rfl) ?_
          refine lv_iadd hx hb dX7_ticksBySimulation_78 ?_
          refine lv_istore (lv' := [(5, .int (x5 + x6)), (0, .ref (fw_ad X g)), (2, .int a2), (3, .int x3), (4, .int x4), (6, .int x6), (7, .int x7)]) hx hb dX7_ticksBySimulation_79 hl (by decide) rfl (fun ls hl => ?_)
          refine lv_iload hx hb dX7_ticksBySimulation_81 (lv_at hl 0 rfl) ?_
          refine lv_iload hx hb dX7_ticksBySimulation_83 (lv_at hl 5 rfl) ?_
          refine lv_iload hx hb dX7_ticksBySimulation_85 (lv_at hl 4 rfl) ?_
          obtain ⟨r6, hf5, hF⟩ := bx_e hF
          refine fr_cSi (As := [.int (x5 + x6), .int x6, .int x4]) (rest := []) C B (cm_X1_turned hf5) yw_X1_turned wm_X7_166 rfl hl.1 rfl (Nat.le_of_ble_eq_true rfl) ⟨Nat.le_of_ble_eq_true rfl, Nat.le_of_ble_eq_true rfl⟩ ⟨Nat.le_of_ble_eq_true rfl, Nat.le_of_ble_eq_true rfl⟩ dX7_ticksBySimulation_87 (fr_nx rfl) (fun r9 M9 H locs ho9 B => ?_)
          obtain ⟨rfl, rfl⟩ := oi_e ho9
          refine lv_istore (lv' := [(6, .int r6), (5, .int (x5 + x6)), (0, .ref (fw_ad X g)), (2, .int a2), (3, .int x3), (4, .int x4), (7, .int x7)]) hx hb dX7_ticksBySimulation_90 hl (by decide) rfl (fun ls hl => ?_)
          refine lv_iinc (v := (x7 + 1)) (lv' := [(7, .int (x7 + 1)), (6, .int r6), (5, .int (x5 + x6)), (0, .ref (fw_ad X g)), (2, .int a2), (3, .int x3), (4, .int x4)]) hx hb dX7_ticksBySimulation_92 hl (k := 6) rfl rfl (by decide) rfl (fun ls hl => ?_)
          refine lv_goto (tgt := 48) hx hb dX7_ticksBySimulation_95 (by decide) ?_
          exact ih x3 x4 (x5 + x6) r6 (x7 + 1) _ _ _ hF B (lv_sub hl [3, 4, 5, 6, 2, 1, 0] rfl)
        · have hF := it_f hF (not_not_intro c4)
          refine lv_iload hx hb dX7_ticksBySimulation_71 (lv_at hl 6 rfl) ?_
          exact fr_iret C B hr rfl hlk (by rw [← Option.some.inj hF]) (Nat.le_of_ble_eq_true rfl) (Nat.le_of_ble_eq_true rfl) dX7_ticksBySimulation_73
  unfold F_X7_ticksBySimulation at hF
  refine lv_aload_n hx hb dX7_ticksBySimulation_0 rfl (lv_at hl 0 rfl) ?_
  refine gf_X7_21 C B hg dX7_ticksBySimulation_1 ?_
  refine gf_X7_103 C B (is1_of hg) dX7_ticksBySimulation_4 ?_
  refine lv_iload_n hx hb dX7_ticksBySimulation_7 rfl (lv_at hl 1 rfl) ?_
  obtain ⟨c8, hF⟩ := of_g hF
  refine fr_ia C B (ar_1_1 (is1_of hg)) c8 dX7_ticksBySimulation_8 ?_
  refine lv_istore_n (lv' := [(3, .int (fw_ri M ((g + 11) + 1) a1)), (0, .ref (fw_ad X g)), (1, .int a1), (2, .int a2)]) hx hb dX7_ticksBySimulation_9 rfl hl (by decide) rfl (fun ls hl => ?_)
  refine lv_aload_n hx hb dX7_ticksBySimulation_10 rfl (lv_at hl 1 rfl) ?_
  refine gf_X7_12 C B hg dX7_ticksBySimulation_11 ?_
  refine gf_X7_76 C B (is3_of hg) dX7_ticksBySimulation_14 ?_
  refine lv_iload_n hx hb dX7_ticksBySimulation_17 rfl (lv_at hl 0 rfl) ?_
  obtain ⟨c9, hF⟩ := of_g hF
  refine fr_ia C B (ar_3_2 (is3_of hg)) c9 dX7_ticksBySimulation_18 ?_
  refine lv_iconst (v := 1) hx hb dX7_ticksBySimulation_19 (by decide) ?_
  refine lv_isub hx hb dX7_ticksBySimulation_20 ?_
  refine lv_istore (lv' := [(4, .int ((fw_ri M ((g + 1) + 2) (fw_ri M ((g + 11) + 1) a1)) - 1)), (3, .int (fw_ri M ((g + 11) + 1) a1)), (0, .ref (fw_ad X g)), (1, .int a1), (2, .int a2)]) hx hb dX7_ticksBySimulation_21 hl (by decide) rfl (fun ls hl => ?_)
  refine lv_aload_n hx hb dX7_ticksBySimulation_23 rfl (lv_at hl 2 rfl) ?_
  refine gf_X7_21 C B hg dX7_ticksBySimulation_24 ?_
  refine gf_X7_153 C B (is1_of hg) dX7_ticksBySimulation_27 ?_
  refine lv_iload_n hx hb dX7_ticksBySimulation_30 rfl (lv_at hl 3 rfl) ?_
  refine fr_ia C B (ar_1_2 (is1_of hg)) c8 dX7_ticksBySimulation_31 ?_
  refine lv_istore (lv' := [(5, .int (fw_ri M ((g + 11) + 2) a1)), (4, .int ((fw_ri M ((g + 1) + 2) (fw_ri M ((g + 11) + 1) a1)) - 1)), (3, .int (fw_ri M ((g + 11) + 1) a1)), (0, .ref (fw_ad X g)), (1, .int a1), (2, .int a2)]) hx hb dX7_ticksBySimulation_32 hl (by decide) rfl (fun ls hl => ?_)
  refine lv_aload_n hx hb dX7_ticksBySimulation_34 rfl (lv_at hl 3 rfl) ?_
  refine gf_X7_21 C B hg dX7_ticksBySimulation_35 ?_
  refine gf_X7_163 C B (is1_of hg) dX7_ticksBySimulation_38 ?_
  refine lv_iload_n hx hb dX7_ticksBySimulation_41 rfl (lv_at hl 4 rfl) ?_
  refine fr_ia C B (ar_1_3 (is1_of hg)) c8 dX7_ticksBySimulation_42 ?_
  refine lv_istore (lv' := [(6, .int (fw_ri M ((g + 11) + 3) a1)), (5, .int (fw_ri M ((g + 11) + 2) a1)), (4, .int ((fw_ri M ((g + 1) + 2) (fw_ri M ((g + 11) + 1) a1)) - 1)), (3, .int (fw_ri M ((g + 11) + 1) a1)), (0, .ref (fw_ad X g)), (1, .int a1), (2, .int a2)]) hx hb dX7_ticksBySimulation_43 hl (by decide) rfl (fun ls hl => ?_)
  refine lv_iconst (v := 0) hx hb dX7_ticksBySimulation_45 (by decide) ?_
  refine lv_istore (lv' := [(7, .int 0), (6, .int (fw_ri M ((g + 11) + 3) a1)), (5, .int (fw_ri M ((g + 11) + 2) a1)), (4, .int ((fw_ri M ((g + 1) + 2) (fw_ri M ((g + 11) + 1) a1)) - 1)), (3, .int (fw_ri M ((g + 11) + 1) a1)), (0, .ref (fw_ad X g)), (1, .int a1), (2, .int a2)]) hx hb dX7_ticksBySimulation_46 hl (by decide) rfl (fun ls hl => ?_)
  exact hJ48 64 (fw_ri M ((g + 11) + 1) a1) ((fw_ri M ((g + 1) + 2) (fw_ri M ((g + 11) + 1) a1)) - 1) (fw_ri M ((g + 11) + 2) a1) (fw_ri M ((g + 11) + 3) a1) 0 _ _ _ hF B (lv_sub hl [5, 7, 4, 3, 2, 1, 0] rfl)
def F_X7_faultOfStop (M : fw_M) (g : Nat) (a1 : Int32) : Option (Int32) :=
  bd_x (F_X8_isZone M a1) fun r2 =>
  if ¬ r2 = 0 then
    if (M (g + 1) 0) < 10 then
      some 0
    else
      some 3
  else
    some 2
set_option maxHeartbeats 4000000 in
set_option maxRecDepth 100000 in
theorem cm_X7_faultOfStop {l : Launch} {X : fw_X} {M : fw_M} {g : Nat} {a1 : Int32} (hg : is7 g) {o : Int32} (hF : F_X7_faultOfStop M g a1 = some o) : ct_i l X yX7_faultOfStop cX7_faultOfStop 2 (some .int) ({ frames := 1, cells := 0, slots := 0, locals := 20 } : Room) M [.ref (fw_ad X g), .int a1] (.inl o, M) := by
  refine fw_open rfl (Nat.le_of_ble_eq_true rfl) (fun p e s m below meth c ls C hr hlk hnm hex hl B => ?_)
  have C : fr_C X p c cX7_faultOfStop 2 RX7 s m ([.ref (fw_ad X g), .int a1] : List Value).toArray := C
  have hx := C.1.1
  have hb := C.1.2.1
  have hl : lv_has ls 2 [(0, .ref (fw_ad X g)), (1, .int a1)] := hl
  unfold F_X7_faultOfStop at hF
  refine lv_iload_n hx hb dX7_faultOfStop_0 rfl (lv_at hl 1 rfl) ?_
  obtain ⟨r2, hf1, hF⟩ := bx_e hF
  refine fr_cNi (As := [.int a1]) (rest := []) C B (cm_X8_isZone hf1) yw_X8_isZone rfl hl.1 rfl (Nat.le_of_ble_eq_true rfl) ⟨Nat.le_of_ble_eq_true rfl, Nat.le_of_ble_eq_true rfl⟩ ⟨Nat.le_of_ble_eq_true rfl, Nat.le_of_ble_eq_true rfl⟩ dX7_faultOfStop_1 (fr_nx rfl) (fun r9 M9 H locs ho9 B => ?_)
  obtain ⟨rfl, rfl⟩ := oi_e ho9
  refine lv_if_ne (tgt := 9) hx hb dX7_faultOfStop_4 (by decide) (fun c4 => ?_) (fun c4 => ?_)
  · have hF := it_t hF c4
    refine lv_aload_n hx hb dX7_faultOfStop_9 rfl (lv_at hl 0 rfl) ?_
    refine gf_X7_12 C B hg dX7_faultOfStop_10 ?_
    refine gf_X7_60 C B (is3_of hg) dX7_faultOfStop_13 ?_
    refine lv_bipush (v := 10) hx hb dX7_faultOfStop_16 (by decide) ?_
    refine lv_icmp_lt (tgt := 25) hx hb dX7_faultOfStop_18 (by decide) (fun c5 => ?_) (fun c5 => ?_)
    · have hF := it_t hF c5
      refine lv_iconst (v := 0) hx hb dX7_faultOfStop_25 (by decide) ?_
      exact fr_iret C B hr rfl hlk (by rw [← Option.some.inj hF]) (Nat.le_of_ble_eq_true rfl) (Nat.le_of_ble_eq_true rfl) dX7_faultOfStop_26
    · have hF := it_f hF c5
      refine lv_iconst (v := 3) hx hb dX7_faultOfStop_21 (by decide) ?_
      refine lv_goto (tgt := 26) hx hb dX7_faultOfStop_22 (by decide) ?_
      exact fr_iret C B hr rfl hlk (by rw [← Option.some.inj hF]) (Nat.le_of_ble_eq_true rfl) (Nat.le_of_ble_eq_true rfl) dX7_faultOfStop_26
  · have hF := it_f hF (not_not_intro c4)
    refine lv_iconst (v := 2) hx hb dX7_faultOfStop_7 (by decide) ?_
    exact fr_iret C B hr rfl hlk (by rw [← Option.some.inj hF]) (Nat.le_of_ble_eq_true rfl) (Nat.le_of_ble_eq_true rfl) dX7_faultOfStop_8
def F_X7_faultOfTicket (M : fw_M) (g : Nat) (a1 : Int32) (a2 : Int32) (a3 : Int32) : Option (Int32) :=
  bd_x (F_X6_hasPassenger M (g + 15) a1) fun r2 =>
  if ¬ r2 = 0 then
    bd_x (F_X8_isZone M a2) fun r6 =>
    if r6 = 0 then
      some 2
    else
      if a3 < 1 then
        some 2
      else
        if a3 ≤ 9 then
          if ix_i a1 8 then
          if ((fw_ri M ((g + 15) + 3) a1) + a3) ≤ 20 then
            some 0
          else
            some 3
          else none
        else
          some 2
  else
    some 1
set_option maxHeartbeats 4000000 in
set_option maxRecDepth 100000 in
theorem cm_X7_faultOfTicket {l : Launch} {X : fw_X} {M : fw_M} {g : Nat} {a1 : Int32} {a2 : Int32} {a3 : Int32} (hg : is7 g) {o : Int32} (hF : F_X7_faultOfTicket M g a1 a2 a3 = some o) : ct_i l X yX7_faultOfTicket cX7_faultOfTicket 4 (some .int) ({ frames := 1, cells := 0, slots := 0, locals := 21 } : Room) M [.ref (fw_ad X g), .int a1, .int a2, .int a3] (.inl o, M) := by
  refine fw_open rfl (Nat.le_of_ble_eq_true rfl) (fun p e s m below meth c ls C hr hlk hnm hex hl B => ?_)
  have C : fr_C X p c cX7_faultOfTicket 4 RX7 s m ([.ref (fw_ad X g), .int a1, .int a2, .int a3] : List Value).toArray := C
  have hx := C.1.1
  have hb := C.1.2.1
  have hl : lv_has ls 4 [(0, .ref (fw_ad X g)), (1, .int a1), (2, .int a2), (3, .int a3)] := hl
  unfold F_X7_faultOfTicket at hF
  refine lv_aload_n hx hb dX7_faultOfTicket_0 rfl (lv_at hl 0 rfl) ?_
  refine gf_X7_28 C B hg dX7_faultOfTicket_1 ?_
  refine lv_iload_n hx hb dX7_faultOfTicket_4 rfl (lv_at hl 1 rfl) ?_
  obtain ⟨r2, hf1, hF⟩ := bx_e hF
  refine fr_cVi (As := [.int a1]) (rest := []) C B (cm_X6_hasPassenger (is6_of hg) hf1) (ob_6 (is6_of hg)) rfl yw_X6_hasPassenger wm_X7_84 rfl hl.1 rfl (Nat.le_of_ble_eq_true rfl) ⟨Nat.le_of_ble_eq_true rfl, Nat.le_of_ble_eq_true rfl⟩ ⟨Nat.le_of_ble_eq_true rfl, Nat.le_of_ble_eq_true rfl⟩ dX7_faultOfTicket_5 (fr_nx rfl) (fun r9 M9 H locs ho9 B => ?_)
  obtain ⟨rfl, rfl⟩ := oi_e ho9
  refine lv_if_ne (tgt := 13) hx hb dX7_faultOfTicket_8 (by decide) (fun c4 => ?_) (fun c4 => ?_)
  · have hF := it_t hF c4
    refine lv_iload_n hx hb dX7_faultOfTicket_13 rfl (lv_at hl 2 rfl) ?_
    obtain ⟨r6, hf5, hF⟩ := bx_e hF
    refine fr_cNi (As := [.int a2]) (rest := []) C B (cm_X8_isZone hf5) yw_X8_isZone rfl hl.1 rfl (Nat.le_of_ble_eq_true rfl) ⟨Nat.le_of_ble_eq_true rfl, Nat.le_of_ble_eq_true rfl⟩ ⟨Nat.le_of_ble_eq_true rfl, Nat.le_of_ble_eq_true rfl⟩ dX7_faultOfTicket_14 (fr_nx rfl) (fun r9 M9 H locs ho9 B => ?_)
    obtain ⟨rfl, rfl⟩ := oi_e ho9
    refine lv_if_eq (tgt := 31) hx hb dX7_faultOfTicket_17 (by decide) (fun c8 => ?_) (fun c8 => ?_)
    · have hF := it_t hF c8
      refine lv_iconst (v := 2) hx hb dX7_faultOfTicket_31 (by decide) ?_
      exact fr_iret C B hr rfl hlk (by rw [← Option.some.inj hF]) (Nat.le_of_ble_eq_true rfl) (Nat.le_of_ble_eq_true rfl) dX7_faultOfTicket_32
    · have hF := it_f hF c8
      refine lv_iload_n hx hb dX7_faultOfTicket_20 rfl (lv_at hl 3 rfl) ?_
      refine lv_iconst (v := 1) hx hb dX7_faultOfTicket_21 (by decide) ?_
      refine lv_icmp_lt (tgt := 31) hx hb dX7_faultOfTicket_22 (by decide) (fun c9 => ?_) (fun c9 => ?_)
      · have hF := it_t hF c9
        refine lv_iconst (v := 2) hx hb dX7_faultOfTicket_31 (by decide) ?_
        exact fr_iret C B hr rfl hlk (by rw [← Option.some.inj hF]) (Nat.le_of_ble_eq_true rfl) (Nat.le_of_ble_eq_true rfl) dX7_faultOfTicket_32
      · have hF := it_f hF c9
        refine lv_iload_n hx hb dX7_faultOfTicket_25 rfl (lv_at hl 3 rfl) ?_
        refine lv_bipush (v := 9) hx hb dX7_faultOfTicket_26 (by decide) ?_
        refine lv_icmp_le (tgt := 33) hx hb dX7_faultOfTicket_28 (by decide) (fun c10 => ?_) (fun c10 => ?_)
        · have hF := it_t hF c10
          refine lv_aload_n hx hb dX7_faultOfTicket_33 rfl (lv_at hl 0 rfl) ?_
          refine gf_X7_28 C B hg dX7_faultOfTicket_34 ?_
          refine gf_X7_87 C B (is6_of hg) dX7_faultOfTicket_37 ?_
          refine lv_iload_n hx hb dX7_faultOfTicket_40 rfl (lv_at hl 1 rfl) ?_
          obtain ⟨c11, hF⟩ := of_g hF
          refine fr_ia C B (ar_6_3 (is6_of hg)) c11 dX7_faultOfTicket_41 ?_
          refine lv_iload_n hx hb dX7_faultOfTicket_42 rfl (lv_at hl 3 rfl) ?_
          refine lv_iadd hx hb dX7_faultOfTicket_43 ?_
          refine lv_bipush (v := 20) hx hb dX7_faultOfTicket_44 (by decide) ?_
          refine lv_icmp_le (tgt := 53) hx hb dX7_faultOfTicket_46 (by decide) (fun c12 => ?_) (fun c12 => ?_)
          · have hF := it_t hF c12
            refine lv_iconst (v := 0) hx hb dX7_faultOfTicket_53 (by decide) ?_
            exact fr_iret C B hr rfl hlk (by rw [← Option.some.inj hF]) (Nat.le_of_ble_eq_true rfl) (Nat.le_of_ble_eq_true rfl) dX7_faultOfTicket_54
          · have hF := it_f hF c12
            refine lv_iconst (v := 3) hx hb dX7_faultOfTicket_49 (by decide) ?_
            refine lv_goto (tgt := 54) hx hb dX7_faultOfTicket_50 (by decide) ?_
            exact fr_iret C B hr rfl hlk (by rw [← Option.some.inj hF]) (Nat.le_of_ble_eq_true rfl) (Nat.le_of_ble_eq_true rfl) dX7_faultOfTicket_54
        · have hF := it_f hF c10
          refine lv_iconst (v := 2) hx hb dX7_faultOfTicket_31 (by decide) ?_
          exact fr_iret C B hr rfl hlk (by rw [← Option.some.inj hF]) (Nat.le_of_ble_eq_true rfl) (Nat.le_of_ble_eq_true rfl) dX7_faultOfTicket_32
  · have hF := it_f hF (not_not_intro c4)
    refine lv_iconst (v := 1) hx hb dX7_faultOfTicket_11 (by decide) ?_
    exact fr_iret C B hr rfl hlk (by rw [← Option.some.inj hF]) (Nat.le_of_ble_eq_true rfl) (Nat.le_of_ble_eq_true rfl) dX7_faultOfTicket_12
def F_X7_faultOfBoarding (M : fw_M) (g : Nat) (a1 : Int32) (a2 : Int32) : Option (Int32) :=
  bd_x (F_X6_hasPassenger M (g + 15) a1) fun r2 =>
  if r2 = 0 then
    some 1
  else
    bd_x (F_X1_hasTram M (g + 11) a2) fun r6 =>
    if ¬ r6 = 0 then
      if ix_i a1 8 then
      if (fw_ri M ((g + 15) + 2) a1) = (-1) then
        bd_x (F_X7_stopUnder M g a2) fun r12 =>
        if (fw_ri M ((g + 15) + 1) a1) = r12 then
          if ix_i a2 6 then
          bd_x (F_X7_wouldTransfer M g a1 (fw_ri M ((g + 11) + 1) a2)) fun r17 =>
          if r17 = 0 then
            if (fw_ri M ((g + 15) + 3) a1) ≤ 0 then
              some 5
            else
              if ix_i (fw_ri M ((g + 15) + 1) a1) 10 then
              bd_x (F_X6_hasZone M (g + 15) a1 (fw_ri M ((g + 1) + 1) (fw_ri M ((g + 15) + 1) a1))) fun r24 =>
              if r24 = 0 then
                some 5
              else
                some 0
              else none
          else
            some 0
          else none
        else
          some 4
      else
        some 3
      else none
    else
      some 1
set_option maxHeartbeats 4000000 in
set_option maxRecDepth 100000 in
theorem cm_X7_faultOfBoarding {l : Launch} {X : fw_X} {M : fw_M} {g : Nat} {a1 : Int32} {a2 : Int32} (hg : is7 g) {o : Int32} (hF : F_X7_faultOfBoarding M g a1 a2 = some o) : ct_i l X yX7_faultOfBoarding cX7_faultOfBoarding 5 (some .int) ({ frames := 1, cells := 0, slots := 0, locals := 22 } : Room) M [.ref (fw_ad X g), .int a1, .int a2] (.inl o, M) := by
  refine fw_open rfl (Nat.le_of_ble_eq_true rfl) (fun p e s m below meth c ls C hr hlk hnm hex hl B => ?_)
  have C : fr_C X p c cX7_faultOfBoarding 5 RX7 s m ([.ref (fw_ad X g), .int a1, .int a2] : List Value).toArray := C
  have hx := C.1.1
  have hb := C.1.2.1
  have hl : lv_has ls 5 [(0, .ref (fw_ad X g)), (1, .int a1), (2, .int a2)] := hl
  unfold F_X7_faultOfBoarding at hF
  refine lv_aload_n hx hb dX7_faultOfBoarding_0 rfl (lv_at hl 0 rfl) ?_
  refine gf_X7_28 C B hg dX7_faultOfBoarding_1 ?_
  refine lv_iload_n hx hb dX7_faultOfBoarding_4 rfl (lv_at hl 1 rfl) ?_
  obtain ⟨r2, hf1, hF⟩ := bx_e hF
  refine fr_cVi (As := [.int a1]) (rest := []) C B (cm_X6_hasPassenger (is6_of hg) hf1) (ob_6 (is6_of hg)) rfl yw_X6_hasPassenger wm_X7_84 rfl hl.1 rfl (Nat.le_of_ble_eq_true rfl) ⟨Nat.le_of_ble_eq_true rfl, Nat.le_of_ble_eq_true rfl⟩ ⟨Nat.le_of_ble_eq_true rfl, Nat.le_of_ble_eq_true rfl⟩ dX7_faultOfBoarding_5 (fr_nx rfl) (fun r9 M9 H locs ho9 B => ?_)
  obtain ⟨rfl, rfl⟩ := oi_e ho9
  refine lv_if_eq (tgt := 22) hx hb dX7_faultOfBoarding_8 (by decide) (fun c4 => ?_) (fun c4 => ?_)
  · have hF := it_t hF c4
    refine lv_iconst (v := 1) hx hb dX7_faultOfBoarding_22 (by decide) ?_
    exact fr_iret C B hr rfl hlk (by rw [← Option.some.inj hF]) (Nat.le_of_ble_eq_true rfl) (Nat.le_of_ble_eq_true rfl) dX7_faultOfBoarding_23
  · have hF := it_f hF c4
    refine lv_aload_n hx hb dX7_faultOfBoarding_11 rfl (lv_at hl 0 rfl) ?_
    refine gf_X7_21 C B hg dX7_faultOfBoarding_12 ?_
    refine lv_iload_n hx hb dX7_faultOfBoarding_15 rfl (lv_at hl 2 rfl) ?_
    obtain ⟨r6, hf5, hF⟩ := bx_e hF
    refine fr_cVi (As := [.int a2]) (rest := []) C B (cm_X1_hasTram (is1_of hg) hf5) (ob_1 (is1_of hg)) rfl yw_X1_hasTram wm_X7_90 rfl hl.1 rfl (Nat.le_of_ble_eq_true rfl) ⟨Nat.le_of_ble_eq_true rfl, Nat.le_of_ble_eq_true rfl⟩ ⟨Nat.le_of_ble_eq_true rfl, Nat.le_of_ble_eq_true rfl⟩ dX7_faultOfBoarding_16 (fr_nx rfl) (fun r9 M9 H locs ho9 B => ?_)
    obtain ⟨rfl, rfl⟩ := oi_e ho9
    refine lv_if_ne (tgt := 24) hx hb dX7_faultOfBoarding_19 (by decide) (fun c8 => ?_) (fun c8 => ?_)
    · have hF := it_t hF c8
      refine lv_aload_n hx hb dX7_faultOfBoarding_24 rfl (lv_at hl 0 rfl) ?_
      refine gf_X7_28 C B hg dX7_faultOfBoarding_25 ?_
      refine gf_X7_93 C B (is6_of hg) dX7_faultOfBoarding_28 ?_
      refine lv_iload_n hx hb dX7_faultOfBoarding_31 rfl (lv_at hl 1 rfl) ?_
      obtain ⟨c9, hF⟩ := of_g hF
      refine fr_ia C B (ar_6_2 (is6_of hg)) c9 dX7_faultOfBoarding_32 ?_
      refine lv_iconst (v := (-1)) hx hb dX7_faultOfBoarding_33 (by decide) ?_
      refine lv_icmp_eq (tgt := 39) hx hb dX7_faultOfBoarding_34 (by decide) (fun c10 => ?_) (fun c10 => ?_)
      · have hF := it_t hF c10
        refine lv_aload_n hx hb dX7_faultOfBoarding_39 rfl (lv_at hl 0 rfl) ?_
        refine gf_X7_28 C B hg dX7_faultOfBoarding_40 ?_
        refine gf_X7_96 C B (is6_of hg) dX7_faultOfBoarding_43 ?_
        refine lv_iload_n hx hb dX7_faultOfBoarding_46 rfl (lv_at hl 1 rfl) ?_
        refine fr_ia C B (ar_6_1 (is6_of hg)) c9 dX7_faultOfBoarding_47 ?_
        refine lv_istore_n (lv' := [(3, .int (fw_ri M ((g + 15) + 1) a1)), (0, .ref (fw_ad X g)), (1, .int a1), (2, .int a2)]) hx hb dX7_faultOfBoarding_48 rfl hl (by decide) rfl (fun ls hl => ?_)
        refine lv_iload_n hx hb dX7_faultOfBoarding_49 rfl (lv_at hl 0 rfl) ?_
        refine lv_aload_n hx hb dX7_faultOfBoarding_50 rfl (lv_at hl 1 rfl) ?_
        refine lv_iload_n hx hb dX7_faultOfBoarding_51 rfl (lv_at hl 3 rfl) ?_
        obtain ⟨r12, hf11, hF⟩ := bx_e hF
        refine fr_cVi (As := [.int a2]) (rest := [.int (fw_ri M ((g + 15) + 1) a1)]) C B (cm_X7_stopUnder hg hf11) (ob_7 hg) rfl yw_X7_stopUnder wm_X7_99 rfl hl.1 rfl (Nat.le_of_ble_eq_true rfl) ⟨Nat.le_of_ble_eq_true rfl, Nat.le_of_ble_eq_true rfl⟩ ⟨Nat.le_of_ble_eq_true rfl, Nat.le_of_ble_eq_true rfl⟩ dX7_faultOfBoarding_52 (fr_nx rfl) (fun r9 M9 H locs ho9 B => ?_)
        obtain ⟨rfl, rfl⟩ := oi_e ho9
        refine lv_icmp_eq (tgt := 60) hx hb dX7_faultOfBoarding_55 (by decide) (fun c14 => ?_) (fun c14 => ?_)
        · have hF := it_t hF c14
          refine lv_aload_n hx hb dX7_faultOfBoarding_60 rfl (lv_at hl 1 rfl) ?_
          refine lv_iload_n hx hb dX7_faultOfBoarding_61 rfl (lv_at hl 2 rfl) ?_
          refine lv_aload_n hx hb dX7_faultOfBoarding_62 rfl (lv_at hl 1 rfl) ?_
          refine gf_X7_21 C B hg dX7_faultOfBoarding_63 ?_
          refine gf_X7_103 C B (is1_of hg) dX7_faultOfBoarding_66 ?_
          refine lv_iload_n hx hb dX7_faultOfBoarding_69 rfl (lv_at hl 3 rfl) ?_
          obtain ⟨c15, hF⟩ := of_g hF
          refine fr_ia C B (ar_1_1 (is1_of hg)) c15 dX7_faultOfBoarding_70 ?_
          obtain ⟨r17, hf16, hF⟩ := bx_e hF
          refine fr_cVi (As := [.int a1, .int (fw_ri M ((g + 11) + 1) a2)]) (rest := []) C B (cm_X7_wouldTransfer hg hf16) (ob_7 hg) rfl yw_X7_wouldTransfer wm_X7_106 rfl hl.1 rfl (Nat.le_of_ble_eq_true rfl) ⟨Nat.le_of_ble_eq_true rfl, Nat.le_of_ble_eq_true rfl⟩ ⟨Nat.le_of_ble_eq_true rfl, Nat.le_of_ble_eq_true rfl⟩ dX7_faultOfBoarding_71 (fr_nx rfl) (fun r9 M9 H locs ho9 B => ?_)
          obtain ⟨rfl, rfl⟩ := oi_e ho9
          refine lv_if_eq (tgt := 79) hx hb dX7_faultOfBoarding_74 (by decide) (fun c19 => ?_) (fun c19 => ?_)
          · have hF := it_t hF c19
            refine lv_aload_n hx hb dX7_faultOfBoarding_79 rfl (lv_at hl 1 rfl) ?_
            refine gf_X7_28 C B hg dX7_faultOfBoarding_80 ?_
            refine gf_X7_87 C B (is6_of hg) dX7_faultOfBoarding_83 ?_
            refine lv_iload_n hx hb dX7_faultOfBoarding_86 rfl (lv_at hl 2 rfl) ?_
            refine fr_ia C B (ar_6_3 (is6_of hg)) c9 dX7_faultOfBoarding_87 ?_
            refine lv_if_le (tgt := 115) hx hb dX7_faultOfBoarding_88 (by decide) (fun c20 => ?_) (fun c20 => ?_)
            · have hF := it_t hF c20
              refine lv_iconst (v := 0) hx hb dX7_faultOfBoarding_115 (by decide) ?_
              refine lv_istore (lv' := [(4, .int 0), (3, .int (fw_ri M ((g + 15) + 1) a1)), (0, .ref (fw_ad X g)), (1, .int a1), (2, .int a2)]) hx hb dX7_faultOfBoarding_116 hl (by decide) rfl (fun ls hl => ?_)
              refine lv_iload hx hb dX7_faultOfBoarding_118 (lv_at hl 0 rfl) ?_
              refine lv_if_eq (tgt := 127) hx hb dX7_faultOfBoarding_120 (by decide) (fun c21 => ?_) (fun c21 => ?_)
              · refine lv_iconst (v := 5) hx hb dX7_faultOfBoarding_127 (by decide) ?_
                exact fr_iret C B hr rfl hlk (by rw [← Option.some.inj hF]) (Nat.le_of_ble_eq_true rfl) (Nat.le_of_ble_eq_true rfl) dX7_faultOfBoarding_128
              · exact absurd c21 (by decide)
            · have hF := it_f hF c20
              refine lv_aload_n hx hb dX7_faultOfBoarding_91 rfl (lv_at hl 1 rfl) ?_
              refine gf_X7_28 C B hg dX7_faultOfBoarding_92 ?_
              refine lv_iload_n hx hb dX7_faultOfBoarding_95 rfl (lv_at hl 2 rfl) ?_
              refine lv_aload_n hx hb dX7_faultOfBoarding_96 rfl (lv_at hl 1 rfl) ?_
              refine gf_X7_12 C B hg dX7_faultOfBoarding_97 ?_
              refine gf_X7_109 C B (is3_of hg) dX7_faultOfBoarding_100 ?_
              refine lv_iload_n hx hb dX7_faultOfBoarding_103 rfl (lv_at hl 0 rfl) ?_
              obtain ⟨c22, hF⟩ := of_g hF
              refine fr_ia C B (ar_3_1 (is3_of hg)) c22 dX7_faultOfBoarding_104 ?_
              obtain ⟨r24, hf23, hF⟩ := bx_e hF
              refine fr_cVi (As := [.int a1, .int (fw_ri M ((g + 1) + 1) (fw_ri M ((g + 15) + 1) a1))]) (rest := []) C B (cm_X6_hasZone (is6_of hg) hf23) (ob_6 (is6_of hg)) rfl yw_X6_hasZone wm_X7_112 rfl hl.1 rfl (Nat.le_of_ble_eq_true rfl) ⟨Nat.le_of_ble_eq_true rfl, Nat.le_of_ble_eq_true rfl⟩ ⟨Nat.le_of_ble_eq_true rfl, Nat.le_of_ble_eq_true rfl⟩ dX7_faultOfBoarding_105 (fr_nx rfl) (fun r9 M9 H locs ho9 B => ?_)
              obtain ⟨rfl, rfl⟩ := oi_e ho9
              refine lv_if_eq (tgt := 115) hx hb dX7_faultOfBoarding_108 (by decide) (fun c26 => ?_) (fun c26 => ?_)
              · have hF := it_t hF c26
                refine lv_iconst (v := 0) hx hb dX7_faultOfBoarding_115 (by decide) ?_
                refine lv_istore (lv' := [(4, .int 0), (3, .int (fw_ri M ((g + 15) + 1) a1)), (0, .ref (fw_ad X g)), (1, .int a1), (2, .int a2)]) hx hb dX7_faultOfBoarding_116 hl (by decide) rfl (fun ls hl => ?_)
                refine lv_iload hx hb dX7_faultOfBoarding_118 (lv_at hl 0 rfl) ?_
                refine lv_if_eq (tgt := 127) hx hb dX7_faultOfBoarding_120 (by decide) (fun c27 => ?_) (fun c27 => ?_)
                · refine lv_iconst (v := 5) hx hb dX7_faultOfBoarding_127 (by decide) ?_
                  exact fr_iret C B hr rfl hlk (by rw [← Option.some.inj hF]) (Nat.le_of_ble_eq_true rfl) (Nat.le_of_ble_eq_true rfl) dX7_faultOfBoarding_128
                · exact absurd c27 (by decide)
              · have hF := it_f hF c26
                refine lv_iconst (v := 1) hx hb dX7_faultOfBoarding_111 (by decide) ?_
                refine lv_goto (tgt := 116) hx hb dX7_faultOfBoarding_112 (by decide) ?_
                refine lv_istore (lv' := [(4, .int 1), (3, .int (fw_ri M ((g + 15) + 1) a1)), (0, .ref (fw_ad X g)), (1, .int a1), (2, .int a2)]) hx hb dX7_faultOfBoarding_116 hl (by decide) rfl (fun ls hl => ?_)
                refine lv_iload hx hb dX7_faultOfBoarding_118 (lv_at hl 0 rfl) ?_
                refine lv_if_eq (tgt := 127) hx hb dX7_faultOfBoarding_120 (by decide) (fun c28 => ?_) (fun c28 => ?_)
                · exact absurd c28 (by decide)
                · refine lv_iconst (v := 0) hx hb dX7_faultOfBoarding_123 (by decide) ?_
                  refine lv_goto (tgt := 128) hx hb dX7_faultOfBoarding_124 (by decide) ?_
                  exact fr_iret C B hr rfl hlk (by rw [← Option.some.inj hF]) (Nat.le_of_ble_eq_true rfl) (Nat.le_of_ble_eq_true rfl) dX7_faultOfBoarding_128
          · have hF := it_f hF c19
            refine lv_iconst (v := 0) hx hb dX7_faultOfBoarding_77 (by decide) ?_
            exact fr_iret C B hr rfl hlk (by rw [← Option.some.inj hF]) (Nat.le_of_ble_eq_true rfl) (Nat.le_of_ble_eq_true rfl) dX7_faultOfBoarding_78
        · have hF := it_f hF c14
          refine lv_iconst (v := 4) hx hb dX7_faultOfBoarding_58 (by decide) ?_
          exact fr_iret C B hr rfl hlk (by rw [← Option.some.inj hF]) (Nat.le_of_ble_eq_true rfl) (Nat.le_of_ble_eq_true rfl) dX7_faultOfBoarding_59
      · have hF := it_f hF c10
        refine lv_iconst (v := 3) hx hb dX7_faultOfBoarding_37 (by decide) ?_
        exact fr_iret C B hr rfl hlk (by rw [← Option.some.inj hF]) (Nat.le_of_ble_eq_true rfl) (Nat.le_of_ble_eq_true rfl) dX7_faultOfBoarding_38
    · have hF := it_f hF (not_not_intro c8)
      refine lv_iconst (v := 1) hx hb dX7_faultOfBoarding_22 (by decide) ?_
      exact fr_iret C B hr rfl hlk (by rw [← Option.some.inj hF]) (Nat.le_of_ble_eq_true rfl) (Nat.le_of_ble_eq_true rfl) dX7_faultOfBoarding_23
def F_X7_passTick (M : fw_M) (g : Nat) : Option (Int32 × fw_M) :=
  lt_x (fw_up M g 4 ((M g 4) + 1)) fun M1 =>
  bd_p (F_X1_moveAll M1 (g + 11) (g + 1)) fun r3 M4 =>
  some (r3, M4)
set_option maxHeartbeats 4000000 in
set_option maxRecDepth 100000 in
theorem cm_X7_passTick {l : Launch} {X : fw_X} {M : fw_M} {g : Nat} (hg : is7 g) {o : Int32 × fw_M} (hF : F_X7_passTick M g = some o) : ct_i l X yX7_passTick cX7_passTick 1 (some .int) ({ frames := 2, cells := 0, slots := 0, locals := 46 } : Room) M [.ref (fw_ad X g)] (.inl o.1, o.2) := by
  refine fw_open rfl (Nat.le_of_ble_eq_true rfl) (fun p e s m below meth c ls C hr hlk hnm hex hl B => ?_)
  have C : fr_C X p c cX7_passTick 1 RX7 s m ([.ref (fw_ad X g)] : List Value).toArray := C
  have hx := C.1.1
  have hb := C.1.2.1
  have hl : lv_has ls 1 [(0, .ref (fw_ad X g))] := hl
  unfold F_X7_passTick at hF
  refine lv_aload_n hx hb dX7_passTick_0 rfl (lv_at hl 0 rfl) ?_
  refine lv_dup hx hb dX7_passTick_1 rfl ?_
  refine gf_X7_52 C B hg dX7_passTick_2 ?_
  refine lv_iconst (v := 1) hx hb dX7_passTick_5 (by decide) ?_
  refine lv_iadd hx hb dX7_passTick_6 ?_
  refine pf_X7_52 C B hg dX7_passTick_7 (fun H locs B => ?_)
  obtain ⟨M1, eM1, hF⟩ := lt_e hF
  rw [← eM1] at B
  refine lv_aload_n hx hb dX7_passTick_10 rfl (lv_at hl 0 rfl) ?_
  refine gf_X7_21 C B hg dX7_passTick_11 ?_
  refine lv_aload_n hx hb dX7_passTick_14 rfl (lv_at hl 0 rfl) ?_
  refine gf_X7_12 C B hg dX7_passTick_15 ?_
  obtain ⟨r3, M4, hf2, hF⟩ := bp_e hF
  refine fr_cVi (As := [.ref (fw_ad X (g + 1))]) (rest := []) C B (cm_X1_moveAll (is1_of hg) (is3_of hg) hf2) (ob_1 (is1_of hg)) rfl yw_X1_moveAll wm_X7_125 rfl hl.1 rfl (Nat.le_of_ble_eq_true rfl) ⟨Nat.le_of_ble_eq_true rfl, Nat.le_of_ble_eq_true rfl⟩ ⟨Nat.le_of_ble_eq_true rfl, Nat.le_of_ble_eq_true rfl⟩ dX7_passTick_18 (fr_nx rfl) (fun r9 M9 H locs ho9 B => ?_)
  obtain ⟨rfl, rfl⟩ := oi_e ho9
  exact fr_iret C B hr rfl hlk (by rw [← Option.some.inj hF]) (Nat.le_of_ble_eq_true rfl) (Nat.le_of_ble_eq_true rfl) dX7_passTick_21
def F_X7_letBoard_32 (g : Nat) (a1 : Int32) (a2 : Int32)  (x3 : Int32) (M : fw_M) : Option (Int32 × fw_M) :=
  if ix_i a1 8 then
  lt_x (fw_wi M ((g + 15) + 1) a1 (-1)) fun M2 =>
  lt_x (fw_wi M2 ((g + 15) + 2) a1 a2) fun M3 =>
  if ¬ x3 = 0 then
    some (0, M3)
  else
    some (1, M3)
  else none
def F_X7_letBoard (M : fw_M) (g : Nat) (a1 : Int32) (a2 : Int32) : Option (Int32 × fw_M) :=
  if ix_i a2 6 then
  bd_x (F_X7_wouldTransfer M g a1 (fw_ri M ((g + 11) + 1) a2)) fun r7 =>
  if ¬ r7 = 0 then
    F_X7_letBoard_32 g a1 a2 r7 M
  else
    if ix_i a1 8 then
    lt_x (fw_wi M ((g + 15) + 3) a1 ((fw_ri M ((g + 15) + 3) a1) - 1)) fun M11 =>
    F_X7_letBoard_32 g a1 a2 r7 M11
    else none
  else none
set_option maxHeartbeats 4000000 in
set_option maxRecDepth 100000 in
theorem cm_X7_letBoard {l : Launch} {X : fw_X} {M : fw_M} {g : Nat} {a1 : Int32} {a2 : Int32} (hg : is7 g) {o : Int32 × fw_M} (hF : F_X7_letBoard M g a1 a2 = some o) : ct_i l X yX7_letBoard cX7_letBoard 4 (some .boolean) ({ frames := 1, cells := 0, slots := 0, locals := 22 } : Room) M [.ref (fw_ad X g), .int a1, .int a2] (.inl o.1, o.2) := by
  refine fw_open rfl (Nat.le_of_ble_eq_true rfl) (fun p e s m below meth c ls C hr hlk hnm hex hl B => ?_)
  have C : fr_C X p c cX7_letBoard 4 RX7 s m ([.ref (fw_ad X g), .int a1, .int a2] : List Value).toArray := C
  have hx := C.1.1
  have hb := C.1.2.1
  have hl : lv_has ls 4 [(0, .ref (fw_ad X g)), (1, .int a1), (2, .int a2)] := hl
  have hJ32 : ∀ (x3 : Int32) (M : fw_M) (H : Heap) (locs : List Loc) (ls : Array Slot), F_X7_letBoard_32 g a1 a2 x3 M = some o → fr_H X s M H locs → lv_has ls 4 [(0, .ref (fw_ad X g)), (1, .int a1), (2, .int a2), (3, .int x3)] → W p l e ({ frames := 1, cells := 0, slots := 0, locals := 22 } : Room) s m ([.ref (fw_ad X g), .int a1, .int a2] : List Value).toArray below meth c H locs 0 0 (vx_MQ below (fw_Qi X (.inl o.1, o.2)) (fw_Qx X (.inl o.1, o.2)) ([.ref (fw_ad X g), .int a1, .int a2] : List Value).toArray s 0 0 (fw_A X)) (F0 m 32 ls []) := by
    intro x3 M H locs ls hF B hl
    unfold F_X7_letBoard_32 at hF
    refine lv_aload_n hx hb dX7_letBoard_32 rfl (lv_at hl 0 rfl) ?_
    refine gf_X7_28 C B hg dX7_letBoard_33 ?_
    refine gf_X7_96 C B (is6_of hg) dX7_letBoard_36 ?_
    refine lv_iload_n hx hb dX7_letBoard_39 rfl (lv_at hl 1 rfl) ?_
    refine lv_iconst (v := (-1)) hx hb dX7_letBoard_40 (by decide) ?_
    obtain ⟨c1, hF⟩ := of_g hF
    refine fr_is C B (ar_6_1 (is6_of hg)) c1 dX7_letBoard_41 (fun H locs B => ?_)
    obtain ⟨M2, eM2, hF⟩ := lt_e hF
    rw [← eM2] at B
    refine lv_aload_n hx hb dX7_letBoard_42 rfl (lv_at hl 0 rfl) ?_
    refine gf_X7_28 C B hg dX7_letBoard_43 ?_
    refine gf_X7_93 C B (is6_of hg) dX7_letBoard_46 ?_
    refine lv_iload_n hx hb dX7_letBoard_49 rfl (lv_at hl 1 rfl) ?_
    refine lv_iload_n hx hb dX7_letBoard_50 rfl (lv_at hl 2 rfl) ?_
    refine fr_is C B (ar_6_2 (is6_of hg)) c1 dX7_letBoard_51 (fun H locs B => ?_)
    obtain ⟨M3, eM3, hF⟩ := lt_e hF
    rw [← eM3] at B
    refine lv_iload_n hx hb dX7_letBoard_52 rfl (lv_at hl 3 rfl) ?_
    refine lv_if_ne (tgt := 60) hx hb dX7_letBoard_53 (by decide) (fun c4 => ?_) (fun c4 => ?_)
    · have hF := it_t hF c4
      refine lv_iconst (v := 0) hx hb dX7_letBoard_60 (by decide) ?_
      exact fr_iret C B hr rfl hlk (by rw [← Option.some.inj hF]) (Nat.le_of_ble_eq_true rfl) (Nat.le_of_ble_eq_true rfl) dX7_letBoard_61
    · have hF := it_f hF (not_not_intro c4)
      refine lv_iconst (v := 1) hx hb dX7_letBoard_56 (by decide) ?_
      refine lv_goto (tgt := 61) hx hb dX7_letBoard_57 (by decide) ?_
      exact fr_iret C B hr rfl hlk (by rw [← Option.some.inj hF]) (Nat.le_of_ble_eq_true rfl) (Nat.le_of_ble_eq_true rfl) dX7_letBoard_61
  unfold F_X7_letBoard at hF
  refine lv_aload_n hx hb dX7_letBoard_0 rfl (lv_at hl 0 rfl) ?_
  refine lv_iload_n hx hb dX7_letBoard_1 rfl (lv_at hl 1 rfl) ?_
  refine lv_aload_n hx hb dX7_letBoard_2 rfl (lv_at hl 0 rfl) ?_
  refine gf_X7_21 C B hg dX7_letBoard_3 ?_
  refine gf_X7_103 C B (is1_of hg) dX7_letBoard_6 ?_
  refine lv_iload_n hx hb dX7_letBoard_9 rfl (lv_at hl 2 rfl) ?_
  obtain ⟨c5, hF⟩ := of_g hF
  refine fr_ia C B (ar_1_1 (is1_of hg)) c5 dX7_letBoard_10 ?_
  obtain ⟨r7, hf6, hF⟩ := bx_e hF
  refine fr_cVi (As := [.int a1, .int (fw_ri M ((g + 11) + 1) a2)]) (rest := []) C B (cm_X7_wouldTransfer hg hf6) (ob_7 hg) rfl yw_X7_wouldTransfer wm_X7_106 rfl hl.1 rfl (Nat.le_of_ble_eq_true rfl) ⟨Nat.le_of_ble_eq_true rfl, Nat.le_of_ble_eq_true rfl⟩ ⟨Nat.le_of_ble_eq_true rfl, Nat.le_of_ble_eq_true rfl⟩ dX7_letBoard_11 (fr_nx rfl) (fun r9 M9 H locs ho9 B => ?_)
  obtain ⟨rfl, rfl⟩ := oi_e ho9
  refine lv_istore_n (lv' := [(3, .int r7), (0, .ref (fw_ad X g)), (1, .int a1), (2, .int a2)]) hx hb dX7_letBoard_14 rfl hl (by decide) rfl (fun ls hl => ?_)
  refine lv_iload_n hx hb dX7_letBoard_15 rfl (lv_at hl 0 rfl) ?_
  refine lv_if_ne (tgt := 32) hx hb dX7_letBoard_16 (by decide) (fun c9 => ?_) (fun c9 => ?_)
  · have hF := it_t hF c9
    exact hJ32 r7 M _ _ _ hF B (lv_sub hl [1, 2, 3, 0] rfl)
  · have hF := it_f hF (not_not_intro c9)
    refine lv_aload_n hx hb dX7_letBoard_19 rfl (lv_at hl 1 rfl) ?_
    refine gf_X7_28 C B hg dX7_letBoard_20 ?_
    refine gf_X7_87 C B (is6_of hg) dX7_letBoard_23 ?_
    refine lv_iload_n hx hb dX7_letBoard_26 rfl (lv_at hl 2 rfl) ?_
    refine lv_dup2_11 hx hb dX7_letBoard_27 rfl rfl ?_
    obtain ⟨c10, hF⟩ := of_g hF
    refine fr_ia C B (ar_6_3 (is6_of hg)) c10 dX7_letBoard_28 ?_
    refine lv_iconst (v := 1) hx hb dX7_letBoard_29 (by decide) ?_
    refine lv_isub hx hb dX7_letBoard_30 ?_
    refine fr_is C B (ar_6_3 (is6_of hg)) c10 dX7_letBoard_31 (fun H locs B => ?_)
    obtain ⟨M11, eM11, hF⟩ := lt_e hF
    rw [← eM11] at B
    exact hJ32 r7 M11 _ _ _ hF B (lv_sub hl [1, 2, 3, 0] rfl)
def F_X7_letAlight (M : fw_M) (g : Nat) (a1 : Int32) : Option (Int32 × fw_M) :=
  if ix_i a1 8 then
  bd_x (F_X7_stopUnder M g (fw_ri M ((g + 15) + 2) a1)) fun r3 =>
  lt_x (fw_wi M ((g + 15) + 2) a1 (-1)) fun M5 =>
  lt_x (fw_wi M5 ((g + 15) + 1) a1 r3) fun M6 =>
  if ix_i (fw_ri M ((g + 15) + 2) a1) 6 then
  lt_x (fw_wi M6 ((g + 15) + 5) a1 (fw_ri M6 ((g + 11) + 1) (fw_ri M ((g + 15) + 2) a1))) fun M8 =>
  lt_x (fw_wi M8 ((g + 15) + 6) a1 (M8 g 4)) fun M9 =>
  bd_x (F_X3_isEnd M9 (g + 1) r3) fun r11 =>
  if r11 = 0 then
    some (r3, M9)
  else
    bd_x (F_X2_revealAllOf M9 (g + 22) a1) fun M16 =>
    some (r3, M16)
  else none
  else none
set_option maxHeartbeats 4000000 in
set_option maxRecDepth 100000 in
theorem cm_X7_letAlight {l : Launch} {X : fw_X} {M : fw_M} {g : Nat} {a1 : Int32} (hg : is7 g) {o : Int32 × fw_M} (hF : F_X7_letAlight M g a1 = some o) : ct_i l X yX7_letAlight cX7_letAlight 4 (some .int) ({ frames := 1, cells := 0, slots := 0, locals := 22 } : Room) M [.ref (fw_ad X g), .int a1] (.inl o.1, o.2) := by
  refine fw_open rfl (Nat.le_of_ble_eq_true rfl) (fun p e s m below meth c ls C hr hlk hnm hex hl B => ?_)
  have C : fr_C X p c cX7_letAlight 4 RX7 s m ([.ref (fw_ad X g), .int a1] : List Value).toArray := C
  have hx := C.1.1
  have hb := C.1.2.1
  have hl : lv_has ls 4 [(0, .ref (fw_ad X g)), (1, .int a1)] := hl
  unfold F_X7_letAlight at hF
  refine lv_aload_n hx hb dX7_letAlight_0 rfl (lv_at hl 0 rfl) ?_
  refine gf_X7_28 C B hg dX7_letAlight_1 ?_
  refine gf_X7_93 C B (is6_of hg) dX7_letAlight_4 ?_
  refine lv_iload_n hx hb dX7_letAlight_7 rfl (lv_at hl 1 rfl) ?_
  obtain ⟨c1, hF⟩ := of_g hF
  refine fr_ia C B (ar_6_2 (is6_of hg)) c1 dX7_letAlight_8 ?_
  refine lv_istore_n (lv' := [(2, .int (fw_ri M ((g + 15) + 2) a1)), (0, .ref (fw_ad X g)), (1, .int a1)]) hx hb dX7_letAlight_9 rfl hl (by decide) rfl (fun ls hl => ?_)
  refine lv_aload_n hx hb dX7_letAlight_10 rfl (lv_at hl 1 rfl) ?_
  refine lv_iload_n hx hb dX7_letAlight_11 rfl (lv_at hl 0 rfl) ?_
  obtain ⟨r3, hf2, hF⟩ := bx_e hF
  refine fr_cVi (As := [.int (fw_ri M ((g + 15) + 2) a1)]) (rest := []) C B (cm_X7_stopUnder hg hf2) (ob_7 hg) rfl yw_X7_stopUnder wm_X7_99 rfl hl.1 rfl (Nat.le_of_ble_eq_true rfl) ⟨Nat.le_of_ble_eq_true rfl, Nat.le_of_ble_eq_true rfl⟩ ⟨Nat.le_of_ble_eq_true rfl, Nat.le_of_ble_eq_true rfl⟩ dX7_letAlight_12 (fr_nx rfl) (fun r9 M9 H locs ho9 B => ?_)
  obtain ⟨rfl, rfl⟩ := oi_e ho9
  refine lv_istore_n (lv' := [(3, .int r3), (2, .int (fw_ri M ((g + 15) + 2) a1)), (0, .ref (fw_ad X g)), (1, .int a1)]) hx hb dX7_letAlight_15 rfl hl (by decide) rfl (fun ls hl => ?_)
  refine lv_aload_n hx hb dX7_letAlight_16 rfl (lv_at hl 2 rfl) ?_
  refine gf_X7_28 C B hg dX7_letAlight_17 ?_
  refine gf_X7_93 C B (is6_of hg) dX7_letAlight_20 ?_
  refine lv_iload_n hx hb dX7_letAlight_23 rfl (lv_at hl 3 rfl) ?_
  refine lv_iconst (v := (-1)) hx hb dX7_letAlight_24 (by decide) ?_
  refine fr_is C B (ar_6_2 (is6_of hg)) c1 dX7_letAlight_25 (fun H locs B => ?_)
  obtain ⟨M5, eM5, hF⟩ := lt_e hF
  rw [← eM5] at B
  refine lv_aload_n hx hb dX7_letAlight_26 rfl (lv_at hl 2 rfl) ?_
  refine gf_X7_28 C B hg dX7_letAlight_27 ?_
  refine gf_X7_96 C B (is6_of hg) dX7_letAlight_30 ?_
  refine lv_iload_n hx hb dX7_letAlight_33 rfl (lv_at hl 3 rfl) ?_
  refine lv_iload_n hx hb dX7_letAlight_34 rfl (lv_at hl 0 rfl) ?_
  refine fr_is C B (ar_6_1 (is6_of hg)) c1 dX7_letAlight_35 (fun H locs B => ?_)
  obtain ⟨M6, eM6, hF⟩ := lt_e hF
  rw [← eM6] at B
  refine lv_aload_n hx hb dX7_letAlight_36 rfl (lv_at hl 2 rfl) ?_
  refine gf_X7_28 C B hg dX7_letAlight_37 ?_
  refine gf_X7_129 C B (is6_of hg) dX7_letAlight_40 ?_
  refine lv_iload_n hx hb dX7_letAlight_43 rfl (lv_at hl 3 rfl) ?_
  refine lv_aload_n hx hb dX7_letAlight_44 rfl (lv_at hl 2 rfl) ?_
  refine gf_X7_21 C B hg dX7_letAlight_45 ?_
  refine gf_X7_103 C B (is1_of hg) dX7_letAlight_48 ?_
  refine lv_iload_n hx hb dX7_letAlight_51 rfl (lv_at hl 1 rfl) ?_
  obtain ⟨c7, hF⟩ := of_g hF
  refine fr_ia C B (ar_1_1 (is1_of hg)) c7 dX7_letAlight_52 ?_
  refine fr_is C B (ar_6_5 (is6_of hg)) c1 dX7_letAlight_53 (fun H locs B => ?_)
  obtain ⟨M8, eM8, hF⟩ := lt_e hF
  rw [← eM8] at B
  refine lv_aload_n hx hb dX7_letAlight_54 rfl (lv_at hl 2 rfl) ?_
  refine gf_X7_28 C B hg dX7_letAlight_55 ?_
  refine gf_X7_132 C B (is6_of hg) dX7_letAlight_58 ?_
  refine lv_iload_n hx hb dX7_letAlight_61 rfl (lv_at hl 3 rfl) ?_
  refine lv_aload_n hx hb dX7_letAlight_62 rfl (lv_at hl 2 rfl) ?_
  refine gf_X7_52 C B hg dX7_letAlight_63 ?_
  refine fr_is C B (ar_6_6 (is6_of hg)) c1 dX7_letAlight_66 (fun H locs B => ?_)
  obtain ⟨M9, eM9, hF⟩ := lt_e hF
  rw [← eM9] at B
  refine lv_aload_n hx hb dX7_letAlight_67 rfl (lv_at hl 2 rfl) ?_
  refine gf_X7_12 C B hg dX7_letAlight_68 ?_
  refine lv_iload_n hx hb dX7_letAlight_71 rfl (lv_at hl 0 rfl) ?_
  obtain ⟨r11, hf10, hF⟩ := bx_e hF
  refine fr_cVi (As := [.int r3]) (rest := []) C B (cm_X3_isEnd (is3_of hg) hf10) (ob_3 (is3_of hg)) rfl yw_X3_isEnd wm_X7_135 rfl hl.1 rfl (Nat.le_of_ble_eq_true rfl) ⟨Nat.le_of_ble_eq_true rfl, Nat.le_of_ble_eq_true rfl⟩ ⟨Nat.le_of_ble_eq_true rfl, Nat.le_of_ble_eq_true rfl⟩ dX7_letAlight_72 (fr_nx rfl) (fun r9 M9 H locs ho9 B => ?_)
  obtain ⟨rfl, rfl⟩ := oi_e ho9
  refine lv_if_eq (tgt := 86) hx hb dX7_letAlight_75 (by decide) (fun c13 => ?_) (fun c13 => ?_)
  · have hF := it_t hF c13
    refine lv_iload_n hx hb dX7_letAlight_86 rfl (lv_at hl 0 rfl) ?_
    exact fr_iret C B hr rfl hlk (by rw [← Option.some.inj hF]) (Nat.le_of_ble_eq_true rfl) (Nat.le_of_ble_eq_true rfl) dX7_letAlight_87
  · have hF := it_f hF c13
    refine lv_aload_n hx hb dX7_letAlight_78 rfl (lv_at hl 2 rfl) ?_
    refine gf_X7_35 C B hg dX7_letAlight_79 ?_
    refine lv_iload_n hx hb dX7_letAlight_82 rfl (lv_at hl 3 rfl) ?_
    obtain ⟨M16, hf14, hF⟩ := bx_e hF
    refine fr_cVv (As := [.int a1]) (rest := []) C B (cm_X2_revealAllOf (is2_of hg) hf14) (ob_2 (is2_of hg)) rfl yw_X2_revealAllOf wm_X7_138 rfl hl.1 rfl (Nat.le_of_ble_eq_true rfl) ⟨Nat.le_of_ble_eq_true rfl, Nat.le_of_ble_eq_true rfl⟩ ⟨Nat.le_of_ble_eq_true rfl, Nat.le_of_ble_eq_true rfl⟩ dX7_letAlight_83 (fr_nx rfl) (fun M9 H locs ho9 B => ?_)
    obtain ⟨-, rfl⟩ := oi_e ho9
    refine lv_iload_n hx hb dX7_letAlight_86 rfl (lv_at hl 0 rfl) ?_
    exact fr_iret C B hr rfl hlk (by rw [← Option.some.inj hF]) (Nat.le_of_ble_eq_true rfl) (Nat.le_of_ble_eq_true rfl) dX7_letAlight_87
def F_X7_faultOfCommand (M : fw_M) (g : Nat) (a1 : Int32) (a2 : Int32) (a3 : Int32) (a4 : Int32) : Option (Int32) :=
  if a1 = 0 then
    bd_x (F_X7_faultOfStop M g a2) fun r3 =>
    some r3
  else
  if a1 = 1 then
    bd_x (F_X7_faultOfLine M g a2 a3) fun r7 =>
    some r7
  else
  if a1 = 2 then
    bd_x (F_X7_faultOfExtension M g a2 a3) fun r11 =>
    some r11
  else
  if a1 = 3 then
    bd_x (F_X7_faultOfTram M g a2) fun r15 =>
    some r15
  else
  if a1 = 4 then
    bd_x (F_X7_faultOfPassenger M g a2) fun r19 =>
    some r19
  else
  if a1 = 5 then
    bd_x (F_X7_faultOfTicket M g a2 a3 a4) fun r23 =>
    some r23
  else
  if a1 = 6 then
    bd_x (F_X7_faultOfBoarding M g a2 a3) fun r27 =>
    some r27
  else
  if a1 = 7 then
    bd_x (F_X7_faultOfAlighting M g a2) fun r31 =>
    some r31
  else
  if a1 = 8 then
    bd_x (F_X7_faultOfSecret M g a2) fun r35 =>
    some r35
  else
  if a1 = 9 then
    bd_x (F_X7_faultOfWhisper M g a2 a3) fun r39 =>
    some r39
  else
  some 0
set_option maxHeartbeats 4000000 in
set_option maxRecDepth 100000 in
theorem cm_X7_faultOfCommand {l : Launch} {X : fw_X} {M : fw_M} {g : Nat} {a1 : Int32} {a2 : Int32} {a3 : Int32} {a4 : Int32} (hg : is7 g) {o : Int32} (hF : F_X7_faultOfCommand M g a1 a2 a3 a4 = some o) : ct_i l X yX7_faultOfCommand cX7_faultOfCommand 5 (some .int) ({ frames := 2, cells := 0, slots := 0, locals := 46 } : Room) M [.ref (fw_ad X g), .int a1, .int a2, .int a3, .int a4] (.inl o, M) := by
  refine fw_open rfl (Nat.le_of_ble_eq_true rfl) (fun p e s m below meth c ls C hr hlk hnm hex hl B => ?_)
  have C : fr_C X p c cX7_faultOfCommand 5 RX7 s m ([.ref (fw_ad X g), .int a1, .int a2, .int a3, .int a4] : List Value).toArray := C
  have hx := C.1.1
  have hb := C.1.2.1
  have hl : lv_has ls 5 [(0, .ref (fw_ad X g)), (1, .int a1), (2, .int a2), (3, .int a3), (4, .int a4)] := hl
  unfold F_X7_faultOfCommand at hF
  refine lv_iload_n hx hb dX7_faultOfCommand_0 rfl (lv_at hl 1 rfl) ?_
  by_cases c1 : a1 = 0
  · have hF := it_t hF c1
    refine lv_tableIn (tgt := 56) hx hb dX7_faultOfCommand_1 (by rw [c1]; decide) (by rw [c1]; decide) (by rw [c1]; rfl) (by decide) ?_
    refine lv_aload_n hx hb dX7_faultOfCommand_56 rfl (lv_at hl 0 rfl) ?_
    refine lv_iload_n hx hb dX7_faultOfCommand_57 rfl (lv_at hl 2 rfl) ?_
    obtain ⟨r3, hf2, hF⟩ := bx_e hF
    refine fr_cVi (As := [.int a2]) (rest := []) C B (cm_X7_faultOfStop hg hf2) (ob_7 hg) rfl yw_X7_faultOfStop wm_X7_178 rfl hl.1 rfl (Nat.le_of_ble_eq_true rfl) ⟨Nat.le_of_ble_eq_true rfl, Nat.le_of_ble_eq_true rfl⟩ ⟨Nat.le_of_ble_eq_true rfl, Nat.le_of_ble_eq_true rfl⟩ dX7_faultOfCommand_58 (fr_nx rfl) (fun r9 M9 H locs ho9 B => ?_)
    obtain ⟨rfl, rfl⟩ := oi_e ho9
    exact fr_iret C B hr rfl hlk (by rw [← Option.some.inj hF]) (Nat.le_of_ble_eq_true rfl) (Nat.le_of_ble_eq_true rfl) dX7_faultOfCommand_61
  have hF := it_f hF c1
  by_cases c5 : a1 = 1
  · have hF := it_t hF c5
    refine lv_tableIn (tgt := 62) hx hb dX7_faultOfCommand_1 (by rw [c5]; decide) (by rw [c5]; decide) (by rw [c5]; rfl) (by decide) ?_
    refine lv_aload_n hx hb dX7_faultOfCommand_62 rfl (lv_at hl 0 rfl) ?_
    refine lv_iload_n hx hb dX7_faultOfCommand_63 rfl (lv_at hl 2 rfl) ?_
    refine lv_iload_n hx hb dX7_faultOfCommand_64 rfl (lv_at hl 3 rfl) ?_
    obtain ⟨r7, hf6, hF⟩ := bx_e hF
    refine fr_cVi (As := [.int a2, .int a3]) (rest := []) C B (cm_X7_faultOfLine hg hf6) (ob_7 hg) rfl yw_X7_faultOfLine wm_X7_181 rfl hl.1 rfl (Nat.le_of_ble_eq_true rfl) ⟨Nat.le_of_ble_eq_true rfl, Nat.le_of_ble_eq_true rfl⟩ ⟨Nat.le_of_ble_eq_true rfl, Nat.le_of_ble_eq_true rfl⟩ dX7_faultOfCommand_65 (fr_nx rfl) (fun r9 M9 H locs ho9 B => ?_)
    obtain ⟨rfl, rfl⟩ := oi_e ho9
    exact fr_iret C B hr rfl hlk (by rw [← Option.some.inj hF]) (Nat.le_of_ble_eq_true rfl) (Nat.le_of_ble_eq_true rfl) dX7_faultOfCommand_68
  have hF := it_f hF c5
  by_cases c9 : a1 = 2
  · have hF := it_t hF c9
    refine lv_tableIn (tgt := 69) hx hb dX7_faultOfCommand_1 (by rw [c9]; decide) (by rw [c9]; decide) (by rw [c9]; rfl) (by decide) ?_
    refine lv_aload_n hx hb dX7_faultOfCommand_69 rfl (lv_at hl 0 rfl) ?_
    refine lv_iload_n hx hb dX7_faultOfCommand_70 rfl (lv_at hl 2 rfl) ?_
    refine lv_iload_n hx hb dX7_faultOfCommand_71 rfl (lv_at hl 3 rfl) ?_
    obtain ⟨r11, hf10, hF⟩ := bx_e hF
    refine fr_cVi (As := [.int a2, .int a3]) (rest := []) C B (cm_X7_faultOfExtension hg hf10) (ob_7 hg) rfl yw_X7_faultOfExtension wm_X7_184 rfl hl.1 rfl (Nat.le_of_ble_eq_true rfl) ⟨Nat.le_of_ble_eq_true rfl, Nat.le_of_ble_eq_true rfl⟩ ⟨Nat.le_of_ble_eq_true rfl, Nat.le_of_ble_eq_true rfl⟩ dX7_faultOfCommand_72 (fr_nx rfl) (fun r9 M9 H locs ho9 B => ?_)
    obtain ⟨rfl, rfl⟩ := oi_e ho9
    exact fr_iret C B hr rfl hlk (by rw [← Option.some.inj hF]) (Nat.le_of_ble_eq_true rfl) (Nat.le_of_ble_eq_true rfl) dX7_faultOfCommand_75
  have hF := it_f hF c9
  by_cases c13 : a1 = 3
  · have hF := it_t hF c13
    refine lv_tableIn (tgt := 76) hx hb dX7_faultOfCommand_1 (by rw [c13]; decide) (by rw [c13]; decide) (by rw [c13]; rfl) (by decide) ?_
    refine lv_aload_n hx hb dX7_faultOfCommand_76 rfl (lv_at hl 0 rfl) ?_
    refine lv_iload_n hx hb dX7_faultOfCommand_77 rfl (lv_at hl 2 rfl) ?_
    obtain ⟨r15, hf14, hF⟩ := bx_e hF
    refine fr_cVi (As := [.int a2]) (rest := []) C B (cm_X7_faultOfTram hg hf14) (ob_7 hg) rfl yw_X7_faultOfTram wm_X7_187 rfl hl.1 rfl (Nat.le_of_ble_eq_true rfl) ⟨Nat.le_of_ble_eq_true rfl, Nat.le_of_ble_eq_true rfl⟩ ⟨Nat.le_of_ble_eq_true rfl, Nat.le_of_ble_eq_true rfl⟩ dX7_faultOfCommand_78 (fr_nx rfl) (fun r9 M9 H locs ho9 B => ?_)
    obtain ⟨rfl, rfl⟩ := oi_e ho9
    exact fr_iret C B hr rfl hlk (by rw [← Option.some.inj hF]) (Nat.le_of_ble_eq_true rfl) (Nat.le_of_ble_eq_true rfl) dX7_faultOfCommand_81
  have hF := it_f hF c13
  by_cases c17 : a1 = 4
  · have hF := it_t hF c17
    refine lv_tableIn (tgt := 82) hx hb dX7_faultOfCommand_1 (by rw [c17]; decide) (by rw [c17]; decide) (by rw [c17]; rfl) (by decide) ?_
    refine lv_aload_n hx hb dX7_faultOfCommand_82 rfl (lv_at hl 0 rfl) ?_
    refine lv_iload_n hx hb dX7_faultOfCommand_83 rfl (lv_at hl 2 rfl) ?_
    obtain ⟨r19, hf18, hF⟩ := bx_e hF
    refine fr_cVi (As := [.int a2]) (rest := []) C B (cm_X7_faultOfPassenger hg hf18) (ob_7 hg) rfl yw_X7_faultOfPassenger wm_X7_190 rfl hl.1 rfl (Nat.le_of_ble_eq_true rfl) ⟨Nat.le_of_ble_eq_true rfl, Nat.le_of_ble_eq_true rfl⟩ ⟨Nat.le_of_ble_eq_true rfl, Nat.le_of_ble_eq_true rfl⟩ dX7_faultOfCommand_84 (fr_nx rfl) (fun r9 M9 H locs ho9 B => ?_)
    obtain ⟨rfl, rfl⟩ := oi_e ho9
    exact fr_iret C B hr rfl hlk (by rw [← Option.some.inj hF]) (Nat.le_of_ble_eq_true rfl) (Nat.le_of_ble_eq_true rfl) dX7_faultOfCommand_87
  have hF := it_f hF c17
  by_cases c21 : a1 = 5
  · have hF := it_t hF c21
    refine lv_tableIn (tgt := 88) hx hb dX7_faultOfCommand_1 (by rw [c21]; decide) (by rw [c21]; decide) (by rw [c21]; rfl) (by decide) ?_
    refine lv_aload_n hx hb dX7_faultOfCommand_88 rfl (lv_at hl 0 rfl) ?_
    refine lv_iload_n hx hb dX7_faultOfCommand_89 rfl (lv_at hl 2 rfl) ?_
    refine lv_iload_n hx hb dX7_faultOfCommand_90 rfl (lv_at hl 3 rfl) ?_
    refine lv_iload hx hb dX7_faultOfCommand_91 (lv_at hl 4 rfl) ?_
    obtain ⟨r23, hf22, hF⟩ := bx_e hF
    refine fr_cVi (As := [.int a2, .int a3, .int a4]) (rest := []) C B (cm_X7_faultOfTicket hg hf22) (ob_7 hg) rfl yw_X7_faultOfTicket wm_X7_193 rfl hl.1 rfl (Nat.le_of_ble_eq_true rfl) ⟨Nat.le_of_ble_eq_true rfl, Nat.le_of_ble_eq_true rfl⟩ ⟨Nat.le_of_ble_eq_true rfl, Nat.le_of_ble_eq_true rfl⟩ dX7_faultOfCommand_93 (fr_nx rfl) (fun r9 M9 H locs ho9 B => ?_)
    obtain ⟨rfl, rfl⟩ := oi_e ho9
    exact fr_iret C B hr rfl hlk (by rw [← Option.some.inj hF]) (Nat.le_of_ble_eq_true rfl) (Nat.le_of_ble_eq_true rfl) dX7_faultOfCommand_96
  have hF := it_f hF c21
  by_cases c25 : a1 = 6
  · have hF := it_t hF c25
    refine lv_tableIn (tgt := 97) hx hb dX7_faultOfCommand_1 (by rw [c25]; decide) (by rw [c25]; decide) (by rw [c25]; rfl) (by decide) ?_
    refine lv_aload_n hx hb dX7_faultOfCommand_97 rfl (lv_at hl 0 rfl) ?_
    refine lv_iload_n hx hb dX7_faultOfCommand_98 rfl (lv_at hl 2 rfl) ?_
    refine lv_iload_n hx hb dX7_faultOfCommand_99 rfl (lv_at hl 3 rfl) ?_
    obtain ⟨r27, hf26, hF⟩ := bx_e hF
    refine fr_cVi (As := [.int a2, .int a3]) (rest := []) C B (cm_X7_faultOfBoarding hg hf26) (ob_7 hg) rfl yw_X7_faultOfBoarding wm_X7_196 rfl hl.1 rfl (Nat.le_of_ble_eq_true rfl) ⟨Nat.le_of_ble_eq_true rfl, Nat.le_of_ble_eq_true rfl⟩ ⟨Nat.le_of_ble_eq_true rfl, Nat.le_of_ble_eq_true rfl⟩ dX7_faultOfCommand_100 (fr_nx rfl) (fun r9 M9 H locs ho9 B => ?_)
    obtain ⟨rfl, rfl⟩ := oi_e ho9
    exact fr_iret C B hr rfl hlk (by rw [← Option.some.inj hF]) (Nat.le_of_ble_eq_true rfl) (Nat.le_of_ble_eq_true rfl) dX7_faultOfCommand_103
  have hF := it_f hF c25
  by_cases c29 : a1 = 7
  · have hF := it_t hF c29
    refine lv_tableIn (tgt := 104) hx hb dX7_faultOfCommand_1 (by rw [c29]; decide) (by rw [c29]; decide) (by rw [c29]; rfl) (by decide) ?_
    refine lv_aload_n hx hb dX7_faultOfCommand_104 rfl (lv_at hl 0 rfl) ?_
    refine lv_iload_n hx hb dX7_faultOfCommand_105 rfl (lv_at hl 2 rfl) ?_
    obtain ⟨r31, hf30, hF⟩ := bx_e hF
    refine fr_cVi (As := [.int a2]) (rest := []) C B (cm_X7_faultOfAlighting hg hf30) (ob_7 hg) rfl yw_X7_faultOfAlighting wm_X7_199 rfl hl.1 rfl (Nat.le_of_ble_eq_true rfl) ⟨Nat.le_of_ble_eq_true rfl, Nat.le_of_ble_eq_true rfl⟩ ⟨Nat.le_of_ble_eq_true rfl, Nat.le_of_ble_eq_true rfl⟩ dX7_faultOfCommand_106 (fr_nx rfl) (fun r9 M9 H locs ho9 B => ?_)
    obtain ⟨rfl, rfl⟩ := oi_e ho9
    exact fr_iret C B hr rfl hlk (by rw [← Option.some.inj hF]) (Nat.le_of_ble_eq_true rfl) (Nat.le_of_ble_eq_true rfl) dX7_faultOfCommand_109
  have hF := it_f hF c29
  by_cases c33 : a1 = 8
  · have hF := it_t hF c33
    refine lv_tableIn (tgt := 110) hx hb dX7_faultOfCommand_1 (by rw [c33]; decide) (by rw [c33]; decide) (by rw [c33]; rfl) (by decide) ?_
    refine lv_aload_n hx hb dX7_faultOfCommand_110 rfl (lv_at hl 0 rfl) ?_
    refine lv_iload_n hx hb dX7_faultOfCommand_111 rfl (lv_at hl 2 rfl) ?_
    obtain ⟨r35, hf34, hF⟩ := bx_e hF
    refine fr_cVi (As := [.int a2]) (rest := []) C B (cm_X7_faultOfSecret hg hf34) (ob_7 hg) rfl yw_X7_faultOfSecret wm_X7_202 rfl hl.1 rfl (Nat.le_of_ble_eq_true rfl) ⟨Nat.le_of_ble_eq_true rfl, Nat.le_of_ble_eq_true rfl⟩ ⟨Nat.le_of_ble_eq_true rfl, Nat.le_of_ble_eq_true rfl⟩ dX7_faultOfCommand_112 (fr_nx rfl) (fun r9 M9 H locs ho9 B => ?_)
    obtain ⟨rfl, rfl⟩ := oi_e ho9
    exact fr_iret C B hr rfl hlk (by rw [← Option.some.inj hF]) (Nat.le_of_ble_eq_true rfl) (Nat.le_of_ble_eq_true rfl) dX7_faultOfCommand_115
  have hF := it_f hF c33
  by_cases c37 : a1 = 9
  · have hF := it_t hF c37
    refine lv_tableIn (tgt := 116) hx hb dX7_faultOfCommand_1 (by rw [c37]; decide) (by rw [c37]; decide) (by rw [c37]; rfl) (by decide) ?_
    refine lv_aload_n hx hb dX7_faultOfCommand_116 rfl (lv_at hl 0 rfl) ?_
    refine lv_iload_n hx hb dX7_faultOfCommand_117 rfl (lv_at hl 2 rfl) ?_
    refine lv_iload_n hx hb dX7_faultOfCommand_118 rfl (lv_at hl 3 rfl) ?_
    obtain ⟨r39, hf38, hF⟩ := bx_e hF
    refine fr_cVi (As := [.int a2, .int a3]) (rest := []) C B (cm_X7_faultOfWhisper hg hf38) (ob_7 hg) rfl yw_X7_faultOfWhisper wm_X7_205 rfl hl.1 rfl (Nat.le_of_ble_eq_true rfl) ⟨Nat.le_of_ble_eq_true rfl, Nat.le_of_ble_eq_true rfl⟩ ⟨Nat.le_of_ble_eq_true rfl, Nat.le_of_ble_eq_true rfl⟩ dX7_faultOfCommand_119 (fr_nx rfl) (fun r9 M9 H locs ho9 B => ?_)
    obtain ⟨rfl, rfl⟩ := oi_e ho9
    exact fr_iret C B hr rfl hlk (by rw [← Option.some.inj hF]) (Nat.le_of_ble_eq_true rfl) (Nat.le_of_ble_eq_true rfl) dX7_faultOfCommand_122
  have hF := it_f hF c37
  refine fr_sw (tgt := 123) hx hb dX7_faultOfCommand_1 ?_ (by decide) ?_
  · intro v h1 h2 h3
    rcases (show v = 0 ∨ v = 1 ∨ v = 2 ∨ v = 3 ∨ v = 4 ∨ v = 5 ∨ v = 6 ∨ v = 7 ∨ v = 8 ∨ v = 9 by omega) with rfl | rfl | rfl | rfl | rfl | rfl | rfl | rfl | rfl | rfl
    · exact absurd h3 c1
    · exact absurd h3 c5
    · exact absurd h3 c9
    · exact absurd h3 c13
    · exact absurd h3 c17
    · exact absurd h3 c21
    · exact absurd h3 c25
    · exact absurd h3 c29
    · exact absurd h3 c33
    · exact absurd h3 c37
  refine lv_iconst (v := 0) hx hb dX7_faultOfCommand_123 (by decide) ?_
  exact fr_iret C B hr rfl hlk (by rw [← Option.some.inj hF]) (Nat.le_of_ble_eq_true rfl) (Nat.le_of_ble_eq_true rfl) dX7_faultOfCommand_124
def F_X7_applyCommand (M : fw_M) (g : Nat) (a1 : Int32) (a2 : Int32) (a3 : Int32) (a4 : Int32) : Option (fw_M) :=
  if a1 = 0 then
    bd_p (F_X3_putStop M (g + 1) a2) fun r3 M4 =>
    some M4
  else
  if a1 = 1 then
    bd_p (F_X3_putLine M (g + 1) a2 a3) fun r7 M8 =>
    some M8
  else
  if a1 = 2 then
    bd_p (F_X3_appendStop M (g + 1) a2 a3) fun r11 M12 =>
    some M12
  else
  if a1 = 3 then
    bd_p (F_X1_putTram M (g + 11) a2) fun r15 M16 =>
    some M16
  else
  if a1 = 4 then
    bd_p (F_X6_putPassenger M (g + 15) a2) fun r19 M20 =>
    some M20
  else
  if a1 = 5 then
    bd_p (F_X6_addToTicket M (g + 15) a2 a3 a4) fun r23 M24 =>
    some M24
  else
  if a1 = 6 then
    bd_p (F_X7_letBoard M g a2 a3) fun r27 M28 =>
    some M28
  else
  if a1 = 7 then
    bd_p (F_X7_letAlight M g a2) fun r31 M32 =>
    some M32
  else
  if a1 = 8 then
    bd_p (F_X2_putSecret M (g + 22) a2) fun r35 M36 =>
    some M36
  else
  if a1 = 9 then
    bd_p (F_X7_spread M g a2 a3) fun r39 M40 =>
    some M40
  else
  bd_p (F_X7_passTick M g) fun r42 M43 =>
  some M43
set_option maxHeartbeats 4000000 in
set_option maxRecDepth 100000 in
theorem cm_X7_applyCommand {l : Launch} {X : fw_X} {M : fw_M} {g : Nat} {a1 : Int32} {a2 : Int32} {a3 : Int32} {a4 : Int32} (hg : is7 g) {o : fw_M} (hF : F_X7_applyCommand M g a1 a2 a3 a4 = some o) : ct_v l X yX7_applyCommand cX7_applyCommand 5 none ({ frames := 3, cells := 0, slots := 0, locals := 66 } : Room) M [.ref (fw_ad X g), .int a1, .int a2, .int a3, .int a4] (.inl 0, o) := by
  refine fw_open rfl (Nat.le_of_ble_eq_true rfl) (fun p e s m below meth c ls C hr hlk hnm hex hl B => ?_)
  have C : fr_C X p c cX7_applyCommand 5 RX7 s m ([.ref (fw_ad X g), .int a1, .int a2, .int a3, .int a4] : List Value).toArray := C
  have hx := C.1.1
  have hb := C.1.2.1
  have hl : lv_has ls 5 [(0, .ref (fw_ad X g)), (1, .int a1), (2, .int a2), (3, .int a3), (4, .int a4)] := hl
  unfold F_X7_applyCommand at hF
  refine lv_iload_n hx hb dX7_applyCommand_0 rfl (lv_at hl 1 rfl) ?_
  by_cases c1 : a1 = 0
  · have hF := it_t hF c1
    refine lv_tableIn (tgt := 56) hx hb dX7_applyCommand_1 (by rw [c1]; decide) (by rw [c1]; decide) (by rw [c1]; rfl) (by decide) ?_
    refine lv_aload_n hx hb dX7_applyCommand_56 rfl (lv_at hl 0 rfl) ?_
    refine gf_X7_12 C B hg dX7_applyCommand_57 ?_
    refine lv_iload_n hx hb dX7_applyCommand_60 rfl (lv_at hl 2 rfl) ?_
    obtain ⟨r3, M4, hf2, hF⟩ := bp_e hF
    refine fr_cVi (As := [.int a2]) (rest := []) C B (cm_X3_putStop (is3_of hg) hf2) (ob_3 (is3_of hg)) rfl yw_X3_putStop wm_X7_208 rfl hl.1 rfl (Nat.le_of_ble_eq_true rfl) ⟨Nat.le_of_ble_eq_true rfl, Nat.le_of_ble_eq_true rfl⟩ ⟨Nat.le_of_ble_eq_true rfl, Nat.le_of_ble_eq_true rfl⟩ dX7_applyCommand_61 (fr_nx rfl) (fun r9 M9 H locs ho9 B => ?_)
    obtain ⟨rfl, rfl⟩ := oi_e ho9
    refine lv_pop hx hb dX7_applyCommand_64 rfl ?_
    refine lv_goto (tgt := 179) hx hb dX7_applyCommand_65 (by decide) ?_
    exact fr_vret C B hr hlk (by rw [← Option.some.inj hF]) (Nat.le_of_ble_eq_true rfl) (Nat.le_of_ble_eq_true rfl) dX7_applyCommand_179
  have hF := it_f hF c1
  by_cases c5 : a1 = 1
  · have hF := it_t hF c5
    refine lv_tableIn (tgt := 68) hx hb dX7_applyCommand_1 (by rw [c5]; decide) (by rw [c5]; decide) (by rw [c5]; rfl) (by decide) ?_
    refine lv_aload_n hx hb dX7_applyCommand_68 rfl (lv_at hl 0 rfl) ?_
    refine gf_X7_12 C B hg dX7_applyCommand_69 ?_
    refine lv_iload_n hx hb dX7_applyCommand_72 rfl (lv_at hl 2 rfl) ?_
    refine lv_iload_n hx hb dX7_applyCommand_73 rfl (lv_at hl 3 rfl) ?_
    obtain ⟨r7, M8, hf6, hF⟩ := bp_e hF
    refine fr_cVi (As := [.int a2, .int a3]) (rest := []) C B (cm_X3_putLine (is3_of hg) hf6) (ob_3 (is3_of hg)) rfl yw_X3_putLine wm_X7_211 rfl hl.1 rfl (Nat.le_of_ble_eq_true rfl) ⟨Nat.le_of_ble_eq_true rfl, Nat.le_of_ble_eq_true rfl⟩ ⟨Nat.le_of_ble_eq_true rfl, Nat.le_of_ble_eq_true rfl⟩ dX7_applyCommand_74 (fr_nx rfl) (fun r9 M9 H locs ho9 B => ?_)
    obtain ⟨rfl, rfl⟩ := oi_e ho9
    refine lv_pop hx hb dX7_applyCommand_77 rfl ?_
    refine lv_goto (tgt := 179) hx hb dX7_applyCommand_78 (by decide) ?_
    exact fr_vret C B hr hlk (by rw [← Option.some.inj hF]) (Nat.le_of_ble_eq_true rfl) (Nat.le_of_ble_eq_true rfl) dX7_applyCommand_179
  have hF := it_f hF c5
  by_cases c9 : a1 = 2
  · have hF := it_t hF c9
    refine lv_tableIn (tgt := 81) hx hb dX7_applyCommand_1 (by rw [c9]; decide) (by rw [c9]; decide) (by rw [c9]; rfl) (by decide) ?_
    refine lv_aload_n hx hb dX7_applyCommand_81 rfl (lv_at hl 0 rfl) ?_
    refine gf_X7_12 C B hg dX7_applyCommand_82 ?_
    refine lv_iload_n hx hb dX7_applyCommand_85 rfl (lv_at hl 2 rfl) ?_
    refine lv_iload_n hx hb dX7_applyCommand_86 rfl (lv_at hl 3 rfl) ?_
    obtain ⟨r11, M12, hf10, hF⟩ := bp_e hF
    refine fr_cVi (As := [.int a2, .int a3]) (rest := []) C B (cm_X3_appendStop (is3_of hg) hf10) (ob_3 (is3_of hg)) rfl yw_X3_appendStop wm_X7_214 rfl hl.1 rfl (Nat.le_of_ble_eq_true rfl) ⟨Nat.le_of_ble_eq_true rfl, Nat.le_of_ble_eq_true rfl⟩ ⟨Nat.le_of_ble_eq_true rfl, Nat.le_of_ble_eq_true rfl⟩ dX7_applyCommand_87 (fr_nx rfl) (fun r9 M9 H locs ho9 B => ?_)
    obtain ⟨rfl, rfl⟩ := oi_e ho9
    refine lv_pop hx hb dX7_applyCommand_90 rfl ?_
    refine lv_goto (tgt := 179) hx hb dX7_applyCommand_91 (by decide) ?_
    exact fr_vret C B hr hlk (by rw [← Option.some.inj hF]) (Nat.le_of_ble_eq_true rfl) (Nat.le_of_ble_eq_true rfl) dX7_applyCommand_179
  have hF := it_f hF c9
  by_cases c13 : a1 = 3
  · have hF := it_t hF c13
    refine lv_tableIn (tgt := 94) hx hb dX7_applyCommand_1 (by rw [c13]; decide) (by rw [c13]; decide) (by rw [c13]; rfl) (by decide) ?_
    refine lv_aload_n hx hb dX7_applyCommand_94 rfl (lv_at hl 0 rfl) ?_
    refine gf_X7_21 C B hg dX7_applyCommand_95 ?_
    refine lv_iload_n hx hb dX7_applyCommand_98 rfl (lv_at hl 2 rfl) ?_
    obtain ⟨r15, M16, hf14, hF⟩ := bp_e hF
    refine fr_cVi (As := [.int a2]) (rest := []) C B (cm_X1_putTram (is1_of hg) hf14) (ob_1 (is1_of hg)) rfl yw_X1_putTram wm_X7_217 rfl hl.1 rfl (Nat.le_of_ble_eq_true rfl) ⟨Nat.le_of_ble_eq_true rfl, Nat.le_of_ble_eq_true rfl⟩ ⟨Nat.le_of_ble_eq_true rfl, Nat.le_of_ble_eq_true rfl⟩ dX7_applyCommand_99 (fr_nx rfl) (fun r9 M9 H locs ho9 B => ?_)
    obtain ⟨rfl, rfl⟩ := oi_e ho9
    refine lv_pop hx hb dX7_applyCommand_102 rfl ?_
    refine lv_goto (tgt := 179) hx hb dX7_applyCommand_103 (by decide) ?_
    exact fr_vret C B hr hlk (by rw [← Option.some.inj hF]) (Nat.le_of_ble_eq_true rfl) (Nat.le_of_ble_eq_true rfl) dX7_applyCommand_179
  have hF := it_f hF c13
  by_cases c17 : a1 = 4
  · have hF := it_t hF c17
    refine lv_tableIn (tgt := 106) hx hb dX7_applyCommand_1 (by rw [c17]; decide) (by rw [c17]; decide) (by rw [c17]; rfl) (by decide) ?_
    refine lv_aload_n hx hb dX7_applyCommand_106 rfl (lv_at hl 0 rfl) ?_
    refine gf_X7_28 C B hg dX7_applyCommand_107 ?_
    refine lv_iload_n hx hb dX7_applyCommand_110 rfl (lv_at hl 2 rfl) ?_
    obtain ⟨r19, M20, hf18, hF⟩ := bp_e hF
    refine fr_cVi (As := [.int a2]) (rest := []) C B (cm_X6_putPassenger (is6_of hg) hf18) (ob_6 (is6_of hg)) rfl yw_X6_putPassenger wm_X7_220 rfl hl.1 rfl (Nat.le_of_ble_eq_true rfl) ⟨Nat.le_of_ble_eq_true rfl, Nat.le_of_ble_eq_true rfl⟩ ⟨Nat.le_of_ble_eq_true rfl, Nat.le_of_ble_eq_true rfl⟩ dX7_applyCommand_111 (fr_nx rfl) (fun r9 M9 H locs ho9 B => ?_)
    obtain ⟨rfl, rfl⟩ := oi_e ho9
    refine lv_pop hx hb dX7_applyCommand_114 rfl ?_
    refine lv_goto (tgt := 179) hx hb dX7_applyCommand_115 (by decide) ?_
    exact fr_vret C B hr hlk (by rw [← Option.some.inj hF]) (Nat.le_of_ble_eq_true rfl) (Nat.le_of_ble_eq_true rfl) dX7_applyCommand_179
  have hF := it_f hF c17
  by_cases c21 : a1 = 5
  · have hF := it_t hF c21
    refine lv_tableIn (tgt := 118) hx hb dX7_applyCommand_1 (by rw [c21]; decide) (by rw [c21]; decide) (by rw [c21]; rfl) (by decide) ?_
    refine lv_aload_n hx hb dX7_applyCommand_118 rfl (lv_at hl 0 rfl) ?_
    refine gf_X7_28 C B hg dX7_applyCommand_119 ?_
    refine lv_iload_n hx hb dX7_applyCommand_122 rfl (lv_at hl 2 rfl) ?_
    refine lv_iload_n hx hb dX7_applyCommand_123 rfl (lv_at hl 3 rfl) ?_
    refine lv_iload hx hb dX7_applyCommand_124 (lv_at hl 4 rfl) ?_
    obtain ⟨r23, M24, hf22, hF⟩ := bp_e hF
    refine fr_cVi (As := [.int a2, .int a3, .int a4]) (rest := []) C B (cm_X6_addToTicket (is6_of hg) hf22) (ob_6 (is6_of hg)) rfl yw_X6_addToTicket wm_X7_223 rfl hl.1 rfl (Nat.le_of_ble_eq_true rfl) ⟨Nat.le_of_ble_eq_true rfl, Nat.le_of_ble_eq_true rfl⟩ ⟨Nat.le_of_ble_eq_true rfl, Nat.le_of_ble_eq_true rfl⟩ dX7_applyCommand_126 (fr_nx rfl) (fun r9 M9 H locs ho9 B => ?_)
    obtain ⟨rfl, rfl⟩ := oi_e ho9
    refine lv_pop hx hb dX7_applyCommand_129 rfl ?_
    refine lv_goto (tgt := 179) hx hb dX7_applyCommand_130 (by decide) ?_
    exact fr_vret C B hr hlk (by rw [← Option.some.inj hF]) (Nat.le_of_ble_eq_true rfl) (Nat.le_of_ble_eq_true rfl) dX7_applyCommand_179
  have hF := it_f hF c21
  by_cases c25 : a1 = 6
  · have hF := it_t hF c25
    refine lv_tableIn (tgt := 133) hx hb dX7_applyCommand_1 (by rw [c25]; decide) (by rw [c25]; decide) (by rw [c25]; rfl) (by decide) ?_
    refine lv_aload_n hx hb dX7_applyCommand_133 rfl (lv_at hl 0 rfl) ?_
    refine lv_iload_n hx hb dX7_applyCommand_134 rfl (lv_at hl 2 rfl) ?_
    refine lv_iload_n hx hb dX7_applyCommand_135 rfl (lv_at hl 3 rfl) ?_
    obtain ⟨r27, M28, hf26, hF⟩ := bp_e hF
    refine fr_cVi (As := [.int a2, .int a3]) (rest := []) C B (cm_X7_letBoard hg hf26) (ob_7 hg) rfl yw_X7_letBoard wm_X7_226 rfl hl.1 rfl (Nat.le_of_ble_eq_true rfl) ⟨Nat.le_of_ble_eq_true rfl, Nat.le_of_ble_eq_true rfl⟩ ⟨Nat.le_of_ble_eq_true rfl, Nat.le_of_ble_eq_true rfl⟩ dX7_applyCommand_136 (fr_nx rfl) (fun r9 M9 H locs ho9 B => ?_)
    obtain ⟨rfl, rfl⟩ := oi_e ho9
    refine lv_pop hx hb dX7_applyCommand_139 rfl ?_
    refine lv_goto (tgt := 179) hx hb dX7_applyCommand_140 (by decide) ?_
    exact fr_vret C B hr hlk (by rw [← Option.some.inj hF]) (Nat.le_of_ble_eq_true rfl) (Nat.le_of_ble_eq_true rfl) dX7_applyCommand_179
  have hF := it_f hF c25
  by_cases c29 : a1 = 7
  · have hF := it_t hF c29
    refine lv_tableIn (tgt := 143) hx hb dX7_applyCommand_1 (by rw [c29]; decide) (by rw [c29]; decide) (by rw [c29]; rfl) (by decide) ?_
    refine lv_aload_n hx hb dX7_applyCommand_143 rfl (lv_at hl 0 rfl) ?_
    refine lv_iload_n hx hb dX7_applyCommand_144 rfl (lv_at hl 2 rfl) ?_
    obtain ⟨r31, M32, hf30, hF⟩ := bp_e hF
    refine fr_cVi (As := [.int a2]) (rest := []) C B (cm_X7_letAlight hg hf30) (ob_7 hg) rfl yw_X7_letAlight wm_X7_229 rfl hl.1 rfl (Nat.le_of_ble_eq_true rfl) ⟨Nat.le_of_ble_eq_true rfl, Nat.le_of_ble_eq_true rfl⟩ ⟨Nat.le_of_ble_eq_true rfl, Nat.le_of_ble_eq_true rfl⟩ dX7_applyCommand_145 (fr_nx rfl) (fun r9 M9 H locs ho9 B => ?_)
    obtain ⟨rfl, rfl⟩ := oi_e ho9
    refine lv_pop hx hb dX7_applyCommand_148 rfl ?_
    refine lv_goto (tgt := 179) hx hb dX7_applyCommand_149 (by decide) ?_
    exact fr_vret C B hr hlk (by rw [← Option.some.inj hF]) (Nat.le_of_ble_eq_true rfl) (Nat.le_of_ble_eq_true rfl) dX7_applyCommand_179
  have hF := it_f hF c29
  by_cases c33 : a1 = 8
  · have hF := it_t hF c33
    refine lv_tableIn (tgt := 152) hx hb dX7_applyCommand_1 (by rw [c33]; decide) (by rw [c33]; decide) (by rw [c33]; rfl) (by decide) ?_
    refine lv_aload_n hx hb dX7_applyCommand_152 rfl (lv_at hl 0 rfl) ?_
    refine gf_X7_35 C B hg dX7_applyCommand_153 ?_
    refine lv_iload_n hx hb dX7_applyCommand_156 rfl (lv_at hl 2 rfl) ?_
    obtain ⟨r35, M36, hf34, hF⟩ := bp_e hF
    refine fr_cVi (As := [.int a2]) (rest := []) C B (cm_X2_putSecret (is2_of hg) hf34) (ob_2 (is2_of hg)) rfl yw_X2_putSecret wm_X7_232 rfl hl.1 rfl (Nat.le_of_ble_eq_true rfl) ⟨Nat.le_of_ble_eq_true rfl, Nat.le_of_ble_eq_true rfl⟩ ⟨Nat.le_of_ble_eq_true rfl, Nat.le_of_ble_eq_true rfl⟩ dX7_applyCommand_157 (fr_nx rfl) (fun r9 M9 H locs ho9 B => ?_)
    obtain ⟨rfl, rfl⟩ := oi_e ho9
    refine lv_pop hx hb dX7_applyCommand_160 rfl ?_
    refine lv_goto (tgt := 179) hx hb dX7_applyCommand_161 (by decide) ?_
    exact fr_vret C B hr hlk (by rw [← Option.some.inj hF]) (Nat.le_of_ble_eq_true rfl) (Nat.le_of_ble_eq_true rfl) dX7_applyCommand_179
  have hF := it_f hF c33
  by_cases c37 : a1 = 9
  · have hF := it_t hF c37
    refine lv_tableIn (tgt := 164) hx hb dX7_applyCommand_1 (by rw [c37]; decide) (by rw [c37]; decide) (by rw [c37]; rfl) (by decide) ?_
    refine lv_aload_n hx hb dX7_applyCommand_164 rfl (lv_at hl 0 rfl) ?_
    refine lv_iload_n hx hb dX7_applyCommand_165 rfl (lv_at hl 2 rfl) ?_
    refine lv_iload_n hx hb dX7_applyCommand_166 rfl (lv_at hl 3 rfl) ?_
    obtain ⟨r39, M40, hf38, hF⟩ := bp_e hF
    refine fr_cVi (As := [.int a2, .int a3]) (rest := []) C B (cm_X7_spread hg hf38) (ob_7 hg) rfl yw_X7_spread wm_X7_235 rfl hl.1 rfl (Nat.le_of_ble_eq_true rfl) ⟨Nat.le_of_ble_eq_true rfl, Nat.le_of_ble_eq_true rfl⟩ ⟨Nat.le_of_ble_eq_true rfl, Nat.le_of_ble_eq_true rfl⟩ dX7_applyCommand_167 (fr_nx rfl) (fun r9 M9 H locs ho9 B => ?_)
    obtain ⟨rfl, rfl⟩ := oi_e ho9
    refine lv_pop hx hb dX7_applyCommand_170 rfl ?_
    refine lv_goto (tgt := 179) hx hb dX7_applyCommand_171 (by decide) ?_
    exact fr_vret C B hr hlk (by rw [← Option.some.inj hF]) (Nat.le_of_ble_eq_true rfl) (Nat.le_of_ble_eq_true rfl) dX7_applyCommand_179
  have hF := it_f hF c37
  refine fr_sw (tgt := 174) hx hb dX7_applyCommand_1 ?_ (by decide) ?_
  · intro v h1 h2 h3
    rcases (show v = 0 ∨ v = 1 ∨ v = 2 ∨ v = 3 ∨ v = 4 ∨ v = 5 ∨ v = 6 ∨ v = 7 ∨ v = 8 ∨ v = 9 by omega) with rfl | rfl | rfl | rfl | rfl | rfl | rfl | rfl | rfl | rfl
    · exact absurd h3 c1
    · exact absurd h3 c5
    · exact absurd h3 c9
    · exact absurd h3 c13
    · exact absurd h3 c17
    · exact absurd h3 c21
    · exact absurd h3 c25
    · exact absurd h3 c29
    · exact absurd h3 c33
    · exact absurd h3 c37
  refine lv_aload_n hx hb dX7_applyCommand_174 rfl (lv_at hl 0 rfl) ?_
  obtain ⟨r42, M43, hf41, hF⟩ := bp_e hF
  refine fr_cVi (As := []) (rest := []) C B (cm_X7_passTick hg hf41) (ob_7 hg) rfl yw_X7_passTick wm_X7_238 rfl hl.1 rfl (Nat.le_of_ble_eq_true rfl) ⟨Nat.le_of_ble_eq_true rfl, Nat.le_of_ble_eq_true rfl⟩ ⟨Nat.le_of_ble_eq_true rfl, Nat.le_of_ble_eq_true rfl⟩ dX7_applyCommand_175 (fr_nx rfl) (fun r9 M9 H locs ho9 B => ?_)
  obtain ⟨rfl, rfl⟩ := oi_e ho9
  refine lv_pop hx hb dX7_applyCommand_178 rfl ?_
  exact fr_vret C B hr hlk (by rw [← Option.some.inj hF]) (Nat.le_of_ble_eq_true rfl) (Nat.le_of_ble_eq_true rfl) dX7_applyCommand_179
def F_X7_attempt_31 (g : Nat) (a1 : Int32) (k2 : Nat) (n2 : Nat)  (x3 : Int32) (M : fw_M) : Option (Int32 × fw_M) :=
  if x3 = 0 then
    if (x3 = 0 ∨ x3 = 1) then
    some (x3, M)
    else none
  else
    if ix_i 0 n2 then
    if ix_i 1 n2 then
    if ix_i 2 n2 then
    bd_x (F_X7_applyCommand M g a1 (fw_ri M k2 0) (fw_ri M k2 1) (fw_ri M k2 2)) fun M8 =>
    if (x3 = 0 ∨ x3 = 1) then
    some (x3, M8)
    else none
    else none
    else none
    else none
def F_X7_attempt (M : fw_M) (g : Nat) (a1 : Int32) (k2 : Nat) (n2 : Nat) : Option (Int32 × fw_M) :=
  if 3 ≤ (nI n2) then
    if ix_i 0 n2 then
    if ix_i 1 n2 then
    if ix_i 2 n2 then
    bd_x (F_X7_faultOfCommand M g a1 (fw_ri M k2 0) (fw_ri M k2 1) (fw_ri M k2 2)) fun r15 =>
    if ¬ r15 = 0 then
      F_X7_attempt_31 g a1 k2 n2 0 M
    else
      F_X7_attempt_31 g a1 k2 n2 1 M
    else none
    else none
    else none
  else
    some (0, M)
set_option maxHeartbeats 4000000 in
set_option maxRecDepth 100000 in
theorem cm_X7_attempt {l : Launch} {X : fw_X} {M : fw_M} {g : Nat} {a1 : Int32} {k2 : Nat} {n2 : Nat} (hg : is7 g) (h2 : ar_I X k2 n2) {o : Int32 × fw_M} (hF : F_X7_attempt M g a1 k2 n2 = some o) : ct_i l X yX7_attempt cX7_attempt 4 (some .boolean) ({ frames := 4, cells := 0, slots := 0, locals := 90 } : Room) M [.ref (fw_ad X g), .int a1, .ref (fw_ad X k2)] (.inl o.1, o.2) := by
  refine fw_open rfl (Nat.le_of_ble_eq_true rfl) (fun p e s m below meth c ls C hr hlk hnm hex hl B => ?_)
  have C : fr_C X p c cX7_attempt 4 RX7 s m ([.ref (fw_ad X g), .int a1, .ref (fw_ad X k2)] : List Value).toArray := C
  have hx := C.1.1
  have hb := C.1.2.1
  have hl : lv_has ls 4 [(0, .ref (fw_ad X g)), (1, .int a1), (2, .ref (fw_ad X k2))] := hl
  have hJ31 : ∀ (x3 : Int32) (M : fw_M) (H : Heap) (locs : List Loc) (ls : Array Slot), F_X7_attempt_31 g a1 k2 n2 x3 M = some o → fr_H X s M H locs → lv_has ls 4 [(0, .ref (fw_ad X g)), (1, .int a1), (2, .ref (fw_ad X k2)), (3, .int x3)] → W p l e ({ frames := 4, cells := 0, slots := 0, locals := 90 } : Room) s m ([.ref (fw_ad X g), .int a1, .ref (fw_ad X k2)] : List Value).toArray below meth c H locs 0 0 (vx_MQ below (fw_Qi X (.inl o.1, o.2)) (fw_Qx X (.inl o.1, o.2)) ([.ref (fw_ad X g), .int a1, .ref (fw_ad X k2)] : List Value).toArray s 0 0 (fw_A X)) (F0 m 31 ls []) := by
    intro x3 M H locs ls hF B hl
    unfold F_X7_attempt_31 at hF
    refine lv_iload_n hx hb dX7_attempt_31 rfl (lv_at hl 3 rfl) ?_
    refine lv_if_eq (tgt := 49) hx hb dX7_attempt_32 (by decide) (fun c1 => ?_) (fun c1 => ?_)
    · have hF := it_t hF c1
      refine lv_iload_n hx hb dX7_attempt_49 rfl (lv_at hl 3 rfl) ?_
      obtain ⟨c2, hF⟩ := of_g hF
      exact fr_iret C B hr (nz_b c2) hlk (by rw [← Option.some.inj hF]) (Nat.le_of_ble_eq_true rfl) (Nat.le_of_ble_eq_true rfl) dX7_attempt_50
    · have hF := it_f hF c1
      refine lv_aload_n hx hb dX7_attempt_35 rfl (lv_at hl 0 rfl) ?_
      refine lv_iload_n hx hb dX7_attempt_36 rfl (lv_at hl 1 rfl) ?_
      refine lv_aload_n hx hb dX7_attempt_37 rfl (lv_at hl 2 rfl) ?_
      refine lv_iconst (v := 0) hx hb dX7_attempt_38 (by decide) ?_
      obtain ⟨c3, hF⟩ := of_g hF
      refine fr_ia C B h2 c3 dX7_attempt_39 ?_
      refine lv_aload_n hx hb dX7_attempt_40 rfl (lv_at hl 2 rfl) ?_
      refine lv_iconst (v := 1) hx hb dX7_attempt_41 (by decide) ?_
      obtain ⟨c4, hF⟩ := of_g hF
      refine fr_ia C B h2 c4 dX7_attempt_42 ?_
      refine lv_aload_n hx hb dX7_attempt_43 rfl (lv_at hl 2 rfl) ?_
      refine lv_iconst (v := 2) hx hb dX7_attempt_44 (by decide) ?_
      obtain ⟨c5, hF⟩ := of_g hF
      refine fr_ia C B h2 c5 dX7_attempt_45 ?_
      obtain ⟨M8, hf6, hF⟩ := bx_e hF
      refine fr_cVv (As := [.int a1, .int (fw_ri M k2 0), .int (fw_ri M k2 1), .int (fw_ri M k2 2)]) (rest := []) C B (cm_X7_applyCommand hg hf6) (ob_7 hg) rfl yw_X7_applyCommand wm_X7_174 rfl hl.1 rfl (Nat.le_of_ble_eq_true rfl) ⟨Nat.le_of_ble_eq_true rfl, Nat.le_of_ble_eq_true rfl⟩ ⟨Nat.le_of_ble_eq_true rfl, Nat.le_of_ble_eq_true rfl⟩ dX7_attempt_46 (fr_nx rfl) (fun M9 H locs ho9 B => ?_)
      obtain ⟨-, rfl⟩ := oi_e ho9
      refine lv_iload_n hx hb dX7_attempt_49 rfl (lv_at hl 3 rfl) ?_
      obtain ⟨c9, hF⟩ := of_g hF
      exact fr_iret C B hr (nz_b c9) hlk (by rw [← Option.some.inj hF]) (Nat.le_of_ble_eq_true rfl) (Nat.le_of_ble_eq_true rfl) dX7_attempt_50
  unfold F_X7_attempt at hF
  refine lv_aload_n hx hb dX7_attempt_0 rfl (lv_at hl 2 rfl) ?_
  refine fr_al C B h2 rfl dX7_attempt_1 ?_
  refine lv_iconst (v := 3) hx hb dX7_attempt_2 (by decide) ?_
  refine lv_icmp_ge (tgt := 8) hx hb dX7_attempt_3 (by decide) (fun c10 => ?_) (fun c10 => ?_)
  · have hF := it_t hF c10
    refine lv_aload_n hx hb dX7_attempt_8 rfl (lv_at hl 0 rfl) ?_
    refine lv_iload_n hx hb dX7_attempt_9 rfl (lv_at hl 1 rfl) ?_
    refine lv_aload_n hx hb dX7_attempt_10 rfl (lv_at hl 2 rfl) ?_
    refine lv_iconst (v := 0) hx hb dX7_attempt_11 (by decide) ?_
    obtain ⟨c11, hF⟩ := of_g hF
    refine fr_ia C B h2 c11 dX7_attempt_12 ?_
    refine lv_aload_n hx hb dX7_attempt_13 rfl (lv_at hl 2 rfl) ?_
    refine lv_iconst (v := 1) hx hb dX7_attempt_14 (by decide) ?_
    obtain ⟨c12, hF⟩ := of_g hF
    refine fr_ia C B h2 c12 dX7_attempt_15 ?_
    refine lv_aload_n hx hb dX7_attempt_16 rfl (lv_at hl 2 rfl) ?_
    refine lv_iconst (v := 2) hx hb dX7_attempt_17 (by decide) ?_
    obtain ⟨c13, hF⟩ := of_g hF
    refine fr_ia C B h2 c13 dX7_attempt_18 ?_
    obtain ⟨r15, hf14, hF⟩ := bx_e hF
    refine fr_cVi (As := [.int a1, .int (fw_ri M k2 0), .int (fw_ri M k2 1), .int (fw_ri M k2 2)]) (rest := []) C B (cm_X7_faultOfCommand hg hf14) (ob_7 hg) rfl yw_X7_faultOfCommand wm_X7_170 rfl hl.1 rfl (Nat.le_of_ble_eq_true rfl) ⟨Nat.le_of_ble_eq_true rfl, Nat.le_of_ble_eq_true rfl⟩ ⟨Nat.le_of_ble_eq_true rfl, Nat.le_of_ble_eq_true rfl⟩ dX7_attempt_19 (fr_nx rfl) (fun r9 M9 H locs ho9 B => ?_)
    obtain ⟨rfl, rfl⟩ := oi_e ho9
    refine lv_if_ne (tgt := 29) hx hb dX7_attempt_22 (by decide) (fun c17 => ?_) (fun c17 => ?_)
    · have hF := it_t hF c17
      refine lv_iconst (v := 0) hx hb dX7_attempt_29 (by decide) ?_
      refine lv_istore_n (lv' := [(3, .int 0), (0, .ref (fw_ad X g)), (1, .int a1), (2, .ref (fw_ad X k2))]) hx hb dX7_attempt_30 rfl hl (by decide) rfl (fun ls hl => ?_)
      exact hJ31 0 M _ _ _ hF B (lv_sub hl [1, 2, 3, 0] rfl)
    · have hF := it_f hF (not_not_intro c17)
      refine lv_iconst (v := 1) hx hb dX7_attempt_25 (by decide) ?_
      refine lv_goto (tgt := 30) hx hb dX7_attempt_26 (by decide) ?_
      refine lv_istore_n (lv' := [(3, .int 1), (0, .ref (fw_ad X g)), (1, .int a1), (2, .ref (fw_ad X k2))]) hx hb dX7_attempt_30 rfl hl (by decide) rfl (fun ls hl => ?_)
      exact hJ31 1 M _ _ _ hF B (lv_sub hl [1, 2, 3, 0] rfl)
  · have hF := it_f hF c10
    refine lv_iconst (v := 0) hx hb dX7_attempt_6 (by decide) ?_
    exact fr_iret C B hr rfl hlk (by rw [← Option.some.inj hF]) (Nat.le_of_ble_eq_true rfl) (Nat.le_of_ble_eq_true rfl) dX7_attempt_7
