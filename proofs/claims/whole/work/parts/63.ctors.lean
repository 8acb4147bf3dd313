def grB (X : fw_X) (a : Nat) : List va_E := (.inr (3, [.int 0, .int 0, .ref (a + 1), .ref (a + 2), .ref (a + 3), .ref (a + 9)]) :: (((([] ++ [.inl (fw_kp X 0, 10, .inl (fun _ => 0))]) ++ [.inl (fw_kp X 0, 5, .inl (fun _ => 0))]) ++ (.inl (fw_kp X 2, 5, .inr (.inr (.inr (.inr (fun j => some ((a + 3) + 1 + j)))))) :: List.replicate 5 (.inl (fw_kp X 0, 6, .inl (fun _ => 0))))) ++ [.inl (fw_kp X 0, 5, .inl (fun _ => 0))]))
theorem grB_len {X : fw_X} {a : Nat} : (grB X a).length = 10 := by simp [grB]
theorem dz_X3 : ∀ j, j < 6 → defaultValue (tyX3 j) = vp_V [.int 0, .int 0, .null, .null, .null, .null] j := by decide +kernel
set_option maxHeartbeats 4000000 in
set_option maxRecDepth 100000 in
theorem cm_X3_init {l : Launch} {X : fw_X} {a : Nat} : ct_n l X yX3_init cX3_init 1 ({ frames := 1, cells := 9, slots := 55, locals := 40 } : Room) a [.ref a] (.inr (3, [.int 0, .int 0, .null, .null, .null, .null])) (grB X a) := by
  refine cn_open rfl (Nat.le_of_ble_eq_true rfl) (fun p e s m below meth c ls C hN hsz hz hr hlk hnm hl B => ?_)
  have C : fr_C X p c cX3_init 1 RX3 s m ([.ref a] : List Value).toArray := C
  have hx := C.1.1
  have hb := C.1.2.1
  obtain ⟨H, hH⟩ : ∃ H, H = s.heap := ⟨_, rfl⟩
  obtain ⟨locs, hL⟩ : ∃ L : List Loc, L = [] := ⟨_, rfl⟩
  rw [← hH, ← hL] at B
  rw [← hH]
  show W p l e ({ frames := 1, cells := 9, slots := 55, locals := 40 } : Room) s m _ below meth c H [] 0 0 _ (F0 m 0 ls [])
  rw [← hL]
  have hl : lv_has ls 1 [(0, .ref a)] := hl
  have B : cn_H X s a (.inr (3, [.int 0, .int 0, .null, .null, .null, .null]) :: []) H locs := B
  refine lv_aload_n hx hb dX3_init_0 rfl (lv_at hl 0 rfl) ?_
  refine cn_obj C wm_X3_3 wn_obj wc_obj hl.1 (Nat.le_of_ble_eq_true rfl) (Nat.le_of_ble_eq_true rfl) dX3_init_1 ?_
  refine lv_aload_n hx hb dX3_init_4 rfl (lv_at hl 0 rfl) ?_
  refine lv_bipush (v := 10) hx hb dX3_init_5 (by decide) ?_
  refine cn_newa (atype := .int) (k := 0) (q := (a + 1)) (a0 := (10, .inl (fun _ => 0))) C B rfl rfl (fun h => h) wa_i rfl (by decide) rfl (Nat.le_of_ble_eq_true rfl) (by simp) (Nat.le_of_ble_eq_true rfl) (Nat.le_of_ble_eq_true rfl) dX3_init_7 (fun H B => ?_)
  have B : cn_H X s a (.inr (3, [.int 0, .int 0, .null, .null, .null, .null]) :: ([] ++ [.inl (fw_kp X 0, 10, .inl (fun _ => 0))])) H locs := B
  refine cn_put (j := 2) C B rfl in_X3 tyX3 tyX3_ok nmX3 (by decide) wf_X3_9 (fun _ h => h) (Or.inr ⟨hnm, rfl⟩) rfl rfl (by simp) dX3_init_9 (fun H locs B => ?_)
  have B : cn_H X s a (.inr (3, [.int 0, .int 0, .ref (a + 1), .null, .null, .null]) :: ([] ++ [.inl (fw_kp X 0, 10, .inl (fun _ => 0))])) H locs := B
  refine lv_aload_n hx hb dX3_init_12 rfl (lv_at hl 0 rfl) ?_
  refine lv_iconst (v := 5) hx hb dX3_init_13 (by decide) ?_
  refine cn_newa (atype := .int) (k := 0) (q := (a + 2)) (a0 := (5, .inl (fun _ => 0))) C B rfl rfl (fun h => h) wa_i rfl (by decide) rfl (Nat.le_of_ble_eq_true rfl) (by simp) (Nat.le_of_ble_eq_true rfl) (Nat.le_of_ble_eq_true rfl) dX3_init_14 (fun H B => ?_)
  have B : cn_H X s a (.inr (3, [.int 0, .int 0, .ref (a + 1), .null, .null, .null]) :: (([] ++ [.inl (fw_kp X 0, 10, .inl (fun _ => 0))]) ++ [.inl (fw_kp X 0, 5, .inl (fun _ => 0))])) H locs := B
  refine cn_put (j := 3) C B rfl in_X3 tyX3 tyX3_ok nmX3 (by decide) wf_X3_15 (fun _ h => h) (Or.inr ⟨hnm, rfl⟩) rfl rfl (by simp) dX3_init_16 (fun H locs B => ?_)
  have B : cn_H X s a (.inr (3, [.int 0, .int 0, .ref (a + 1), .ref (a + 2), .null, .null]) :: (([] ++ [.inl (fw_kp X 0, 10, .inl (fun _ => 0))]) ++ [.inl (fw_kp X 0, 5, .inl (fun _ => 0))])) H locs := B
  refine lv_aload_n hx hb dX3_init_19 rfl (lv_at hl 0 rfl) ?_
  refine lv_iconst (v := 5) hx hb dX3_init_20 (by decide) ?_
  refine lv_bipush (v := 6) hx hb dX3_init_21 (by decide) ?_
  refine cn_multi (N := 5) (K := 6) (q := (a + 3)) C hN B wq_X3_18 wa_i (by decide) (by decide) rfl rfl (Nat.le_of_ble_eq_true rfl) (Nat.le_of_ble_eq_true rfl) (by simp) (Nat.le_of_ble_eq_true rfl) (Nat.le_of_ble_eq_true rfl) dX3_init_23 (fun H locs B => ?_)
  have B : cn_H X s a (.inr (3, [.int 0, .int 0, .ref (a + 1), .ref (a + 2), .null, .null]) :: ((([] ++ [.inl (fw_kp X 0, 10, .inl (fun _ => 0))]) ++ [.inl (fw_kp X 0, 5, .inl (fun _ => 0))]) ++ (.inl (fw_kp X 2, 5, .inr (.inr (.inr (.inr (fun j => some ((a + 3) + 1 + j)))))) :: List.replicate 5 (.inl (fw_kp X 0, 6, .inl (fun _ => 0)))))) H locs := B
  refine cn_put (j := 4) C B rfl in_X3 tyX3 tyX3_ok nmX3 (by decide) wf_X3_20 (fun _ h => h) (Or.inr ⟨hnm, rfl⟩) rfl rfl (by simp) dX3_init_27 (fun H locs B => ?_)
  have B : cn_H X s a (.inr (3, [.int 0, .int 0, .ref (a + 1), .ref (a + 2), .ref (a + 3), .null]) :: ((([] ++ [.inl (fw_kp X 0, 10, .inl (fun _ => 0))]) ++ [.inl (fw_kp X 0, 5, .inl (fun _ => 0))]) ++ (.inl (fw_kp X 2, 5, .inr (.inr (.inr (.inr (fun j => some ((a + 3) + 1 + j)))))) :: List.replicate 5 (.inl (fw_kp X 0, 6, .inl (fun _ => 0)))))) H locs := B
  refine lv_aload_n hx hb dX3_init_30 rfl (lv_at hl 0 rfl) ?_
  refine lv_iconst (v := 5) hx hb dX3_init_31 (by decide) ?_
  refine cn_newa (atype := .int) (k := 0) (q := (a + 9)) (a0 := (5, .inl (fun _ => 0))) C B rfl rfl (fun h => h) wa_i rfl (by decide) rfl (Nat.le_of_ble_eq_true rfl) (by simp) (Nat.le_of_ble_eq_true rfl) (Nat.le_of_ble_eq_true rfl) dX3_init_32 (fun H B => ?_)
  have B : cn_H X s a (.inr (3, [.int 0, .int 0, .ref (a + 1), .ref (a + 2), .ref (a + 3), .null]) :: (((([] ++ [.inl (fw_kp X 0, 10, .inl (fun _ => 0))]) ++ [.inl (fw_kp X 0, 5, .inl (fun _ => 0))]) ++ (.inl (fw_kp X 2, 5, .inr (.inr (.inr (.inr (fun j => some ((a + 3) + 1 + j)))))) :: List.replicate 5 (.inl (fw_kp X 0, 6, .inl (fun _ => 0))))) ++ [.inl (fw_kp X 0, 5, .inl (fun _ => 0))])) H locs := B
  refine cn_put (j := 5) C B rfl in_X3 tyX3 tyX3_ok nmX3 (by decide) wf_X3_23 (fun _ h => h) (Or.inr ⟨hnm, rfl⟩) rfl rfl (by simp) dX3_init_34 (fun H locs B => ?_)
  have B : cn_H X s a (.inr (3, [.int 0, .int 0, .ref (a + 1), .ref (a + 2), .ref (a + 3), .ref (a + 9)]) :: (((([] ++ [.inl (fw_kp X 0, 10, .inl (fun _ => 0))]) ++ [.inl (fw_kp X 0, 5, .inl (fun _ => 0))]) ++ (.inl (fw_kp X 2, 5, .inr (.inr (.inr (.inr (fun j => some ((a + 3) + 1 + j)))))) :: List.replicate 5 (.inl (fw_kp X 0, 6, .inl (fun _ => 0))))) ++ [.inl (fw_kp X 0, 5, .inl (fun _ => 0))])) H locs := B
  exact cn_ret C B hr hlk (Nat.le_of_ble_eq_true rfl) (Nat.le_of_ble_eq_true rfl) dX3_init_37
def flB (X : fw_X) (a : Nat) : List va_E := (.inr (1, [.int 0, .ref (a + 1), .ref (a + 2), .ref (a + 3)]) :: ((([] ++ [.inl (fw_kp X 0, 6, .inl (fun _ => 0))]) ++ [.inl (fw_kp X 0, 6, .inl (fun _ => 0))]) ++ [.inl (fw_kp X 0, 6, .inl (fun _ => 0))]))
theorem flB_len {X : fw_X} {a : Nat} : (flB X a).length = 4 := by simp [flB, grB_len]
theorem dz_X1 : ∀ j, j < 4 → defaultValue (tyX1 j) = vp_V [.int 0, .null, .null, .null] j := by decide +kernel
set_option maxHeartbeats 4000000 in
set_option maxRecDepth 100000 in
theorem cm_X1_init {l : Launch} {X : fw_X} {a : Nat} : ct_n l X yX1_init cX1_init 1 ({ frames := 1, cells := 3, slots := 18, locals := 40 } : Room) a [.ref a] (.inr (1, [.int 0, .null, .null, .null])) (flB X a) := by
  refine cn_open rfl (Nat.le_of_ble_eq_true rfl) (fun p e s m below meth c ls C hN hsz hz hr hlk hnm hl B => ?_)
  have C : fr_C X p c cX1_init 1 RX1 s m ([.ref a] : List Value).toArray := C
  have hx := C.1.1
  have hb := C.1.2.1
  obtain ⟨H, hH⟩ : ∃ H, H = s.heap := ⟨_, rfl⟩
  obtain ⟨locs, hL⟩ : ∃ L : List Loc, L = [] := ⟨_, rfl⟩
  rw [← hH, ← hL] at B
  rw [← hH]
  show W p l e ({ frames := 1, cells := 3, slots := 18, locals := 40 } : Room) s m _ below meth c H [] 0 0 _ (F0 m 0 ls [])
  rw [← hL]
  have hl : lv_has ls 1 [(0, .ref a)] := hl
  have B : cn_H X s a (.inr (1, [.int 0, .null, .null, .null]) :: []) H locs := B
  refine lv_aload_n hx hb dX1_init_0 rfl (lv_at hl 0 rfl) ?_
  refine cn_obj C wm_X1_3 wn_obj wc_obj hl.1 (Nat.le_of_ble_eq_true rfl) (Nat.le_of_ble_eq_true rfl) dX1_init_1 ?_
  refine lv_aload_n hx hb dX1_init_4 rfl (lv_at hl 0 rfl) ?_
  refine lv_bipush (v := 6) hx hb dX1_init_5 (by decide) ?_
  refine cn_newa (atype := .int) (k := 0) (q := (a + 1)) (a0 := (6, .inl (fun _ => 0))) C B rfl rfl (fun h => h) wa_i rfl (by decide) rfl (Nat.le_of_ble_eq_true rfl) (by simp [grB_len]) (Nat.le_of_ble_eq_true rfl) (Nat.le_of_ble_eq_true rfl) dX1_init_7 (fun H B => ?_)
  have B : cn_H X s a (.inr (1, [.int 0, .null, .null, .null]) :: ([] ++ [.inl (fw_kp X 0, 6, .inl (fun _ => 0))])) H locs := B
  refine cn_put (j := 1) C B rfl in_X1 tyX1 tyX1_ok nmX1 (by decide) wf_X1_9 (fun _ h => h) (Or.inr ⟨hnm, rfl⟩) rfl rfl (by simp) dX1_init_9 (fun H locs B => ?_)
  have B : cn_H X s a (.inr (1, [.int 0, .ref (a + 1), .null, .null]) :: ([] ++ [.inl (fw_kp X 0, 6, .inl (fun _ => 0))])) H locs := B
  refine lv_aload_n hx hb dX1_init_12 rfl (lv_at hl 0 rfl) ?_
  refine lv_bipush (v := 6) hx hb dX1_init_13 (by decide) ?_
  refine cn_newa (atype := .int) (k := 0) (q := (a + 2)) (a0 := (6, .inl (fun _ => 0))) C B rfl rfl (fun h => h) wa_i rfl (by decide) rfl (Nat.le_of_ble_eq_true rfl) (by simp [grB_len]) (Nat.le_of_ble_eq_true rfl) (Nat.le_of_ble_eq_true rfl) dX1_init_15 (fun H B => ?_)
  have B : cn_H X s a (.inr (1, [.int 0, .ref (a + 1), .null, .null]) :: (([] ++ [.inl (fw_kp X 0, 6, .inl (fun _ => 0))]) ++ [.inl (fw_kp X 0, 6, .inl (fun _ => 0))])) H locs := B
  refine cn_put (j := 2) C B rfl in_X1 tyX1 tyX1_ok nmX1 (by decide) wf_X1_15 (fun _ h => h) (Or.inr ⟨hnm, rfl⟩) rfl rfl (by simp) dX1_init_17 (fun H locs B => ?_)
  have B : cn_H X s a (.inr (1, [.int 0, .ref (a + 1), .ref (a + 2), .null]) :: (([] ++ [.inl (fw_kp X 0, 6, .inl (fun _ => 0))]) ++ [.inl (fw_kp X 0, 6, .inl (fun _ => 0))])) H locs := B
  refine lv_aload_n hx hb dX1_init_20 rfl (lv_at hl 0 rfl) ?_
  refine lv_bipush (v := 6) hx hb dX1_init_21 (by decide) ?_
  refine cn_newa (atype := .int) (k := 0) (q := (a + 3)) (a0 := (6, .inl (fun _ => 0))) C B rfl rfl (fun h => h) wa_i rfl (by decide) rfl (Nat.le_of_ble_eq_true rfl) (by simp [grB_len]) (Nat.le_of_ble_eq_true rfl) (Nat.le_of_ble_eq_true rfl) dX1_init_23 (fun H B => ?_)
  have B : cn_H X s a (.inr (1, [.int 0, .ref (a + 1), .ref (a + 2), .null]) :: ((([] ++ [.inl (fw_kp X 0, 6, .inl (fun _ => 0))]) ++ [.inl (fw_kp X 0, 6, .inl (fun _ => 0))]) ++ [.inl (fw_kp X 0, 6, .inl (fun _ => 0))])) H locs := B
  refine cn_put (j := 3) C B rfl in_X1 tyX1 tyX1_ok nmX1 (by decide) wf_X1_18 (fun _ h => h) (Or.inr ⟨hnm, rfl⟩) rfl rfl (by simp) dX1_init_25 (fun H locs B => ?_)
  have B : cn_H X s a (.inr (1, [.int 0, .ref (a + 1), .ref (a + 2), .ref (a + 3)]) :: ((([] ++ [.inl (fw_kp X 0, 6, .inl (fun _ => 0))]) ++ [.inl (fw_kp X 0, 6, .inl (fun _ => 0))]) ++ [.inl (fw_kp X 0, 6, .inl (fun _ => 0))])) H locs := B
  exact cn_ret C B hr hlk (Nat.le_of_ble_eq_true rfl) (Nat.le_of_ble_eq_true rfl) dX1_init_28
def riB (X : fw_X) (a : Nat) : List va_E := (.inr (6, [.int 0, .ref (a + 1), .ref (a + 2), .ref (a + 3), .ref (a + 4), .ref (a + 5), .ref (a + 6)]) :: (((((([] ++ [.inl (fw_kp X 0, 8, .inl (fun _ => 0))]) ++ [.inl (fw_kp X 0, 8, .inl (fun _ => 0))]) ++ [.inl (fw_kp X 0, 8, .inl (fun _ => 0))]) ++ [.inl (fw_kp X 0, 8, .inl (fun _ => 0))]) ++ [.inl (fw_kp X 0, 8, .inl (fun _ => 0))]) ++ [.inl (fw_kp X 0, 8, .inl (fun _ => 0))]))
theorem riB_len {X : fw_X} {a : Nat} : (riB X a).length = 7 := by simp [riB, grB_len, flB_len]
theorem dz_X6 : ∀ j, j < 7 → defaultValue (tyX6 j) = vp_V [.int 0, .null, .null, .null, .null, .null, .null] j := by decide +kernel
set_option maxHeartbeats 4000000 in
set_option maxRecDepth 100000 in
theorem cm_X6_init {l : Launch} {X : fw_X} {a : Nat} : ct_n l X yX6_init cX6_init 1 ({ frames := 1, cells := 6, slots := 48, locals := 40 } : Room) a [.ref a] (.inr (6, [.int 0, .null, .null, .null, .null, .null, .null])) (riB X a) := by
  refine cn_open rfl (Nat.le_of_ble_eq_true rfl) (fun p e s m below meth c ls C hN hsz hz hr hlk hnm hl B => ?_)
  have C : fr_C X p c cX6_init 1 RX6 s m ([.ref a] : List Value).toArray := C
  have hx := C.1.1
  have hb := C.1.2.1
  obtain ⟨H, hH⟩ : ∃ H, H = s.heap := ⟨_, rfl⟩
  obtain ⟨locs, hL⟩ : ∃ L : List Loc, L = [] := ⟨_, rfl⟩
  rw [← hH, ← hL] at B
  rw [← hH]
  show W p l e ({ frames := 1, cells := 6, slots := 48, locals := 40 } : Room) s m _ below meth c H [] 0 0 _ (F0 m 0 ls [])
  rw [← hL]
  have hl : lv_has ls 1 [(0, .ref a)] := hl
  have B : cn_H X s a (.inr (6, [.int 0, .null, .null, .null, .null, .null, .null]) :: []) H locs := B
  refine lv_aload_n hx hb dX6_init_0 rfl (lv_at hl 0 rfl) ?_
  refine cn_obj C wm_X6_3 wn_obj wc_obj hl.1 (Nat.le_of_ble_eq_true rfl) (Nat.le_of_ble_eq_true rfl) dX6_init_1 ?_
  refine lv_aload_n hx hb dX6_init_4 rfl (lv_at hl 0 rfl) ?_
  refine lv_bipush (v := 8) hx hb dX6_init_5 (by decide) ?_
  refine cn_newa (atype := .int) (k := 0) (q := (a + 1)) (a0 := (8, .inl (fun _ => 0))) C B rfl rfl (fun h => h) wa_i rfl (by decide) rfl (Nat.le_of_ble_eq_true rfl) (by simp [grB_len, flB_len]) (Nat.le_of_ble_eq_true rfl) (Nat.le_of_ble_eq_true rfl) dX6_init_7 (fun H B => ?_)
  have B : cn_H X s a (.inr (6, [.int 0, .null, .null, .null, .null, .null, .null]) :: ([] ++ [.inl (fw_kp X 0, 8, .inl (fun _ => 0))])) H locs := B
  refine cn_put (j := 1) C B rfl in_X6 tyX6 tyX6_ok nmX6 (by decide) wf_X6_9 (fun _ h => h) (Or.inr ⟨hnm, rfl⟩) rfl rfl (by simp) dX6_init_9 (fun H locs B => ?_)
  have B : cn_H X s a (.inr (6, [.int 0, .ref (a + 1), .null, .null, .null, .null, .null]) :: ([] ++ [.inl (fw_kp X 0, 8, .inl (fun _ => 0))])) H locs := B
  refine lv_aload_n hx hb dX6_init_12 rfl (lv_at hl 0 rfl) ?_
  refine lv_bipush (v := 8) hx hb dX6_init_13 (by decide) ?_
  refine cn_newa (atype := .int) (k := 0) (q := (a + 2)) (a0 := (8, .inl (fun _ => 0))) C B rfl rfl (fun h => h) wa_i rfl (by decide) rfl (Nat.le_of_ble_eq_true rfl) (by simp [grB_len, flB_len]) (Nat.le_of_ble_eq_true rfl) (Nat.le_of_ble_eq_true rfl) dX6_init_15 (fun H B => ?_)
  have B : cn_H X s a (.inr (6, [.int 0, .ref (a + 1), .null, .null, .null, .null, .null]) :: (([] ++ [.inl (fw_kp X 0, 8, .inl (fun _ => 0))]) ++ [.inl (fw_kp X 0, 8, .inl (fun _ => 0))])) H locs := B
  refine cn_put (j := 2) C B rfl in_X6 tyX6 tyX6_ok nmX6 (by decide) wf_X6_15 (fun _ h => h) (Or.inr ⟨hnm, rfl⟩) rfl rfl (by simp) dX6_init_17 (fun H locs B => ?_)
  have B : cn_H X s a (.inr (6, [.int 0, .ref (a + 1), .ref (a + 2), .null, .null, .null, .null]) :: (([] ++ [.inl (fw_kp X 0, 8, .inl (fun _ => 0))]) ++ [.inl (fw_kp X 0, 8, .inl (fun _ => 0))])) H locs := B
  refine lv_aload_n hx hb dX6_init_20 rfl (lv_at hl 0 rfl) ?_
  refine lv_bipush (v := 8) hx hb dX6_init_21 (by decide) ?_
  refine cn_newa (atype := .int) (k := 0) (q := (a + 3)) (a0 := (8, .inl (fun _ => 0))) C B rfl rfl (fun h => h) wa_i rfl (by decide) rfl (Nat.le_of_ble_eq_true rfl) (by simp [grB_len, flB_len]) (Nat.le_of_ble_eq_true rfl) (Nat.le_of_ble_eq_true rfl) dX6_init_23 (fun H B => ?_)
  have B : cn_H X s a (.inr (6, [.int 0, .ref (a + 1), .ref (a + 2), .null, .null, .null, .null]) :: ((([] ++ [.inl (fw_kp X 0, 8, .inl (fun _ => 0))]) ++ [.inl (fw_kp X 0, 8, .inl (fun _ => 0))]) ++ [.inl (fw_kp X 0, 8, .inl (fun _ => 0))])) H locs := B
  refine cn_put (j := 3) C B rfl in_X6 tyX6 tyX6_ok nmX6 (by decide) wf_X6_18 (fun _ h => h) (Or.inr ⟨hnm, rfl⟩) rfl rfl (by simp) dX6_init_25 (fun H locs B => ?_)
  have B : cn_H X s a (.inr (6, [.int 0, .ref (a + 1), .ref (a + 2), .ref (a + 3), .null, .null, .null]) :: ((([] ++ [.inl (fw_kp X 0, 8, .inl (fun _ => 0))]) ++ [.inl (fw_kp X 0, 8, .inl (fun _ => 0))]) ++ [.inl (fw_kp X 0, 8, .inl (fun _ => 0))])) H locs := B
  refine lv_aload_n hx hb dX6_init_28 rfl (lv_at hl 0 rfl) ?_
  refine lv_bipush (v := 8) hx hb dX6_init_29 (by decide) ?_
  refine cn_newa (atype := .int) (k := 0) (q := (a + 4)) (a0 := (8, .inl (fun _ => 0))) C B rfl rfl (fun h => h) wa_i rfl (by decide) rfl (Nat.le_of_ble_eq_true rfl) (by simp [grB_len, flB_len]) (Nat.le_of_ble_eq_true rfl) (Nat.le_of_ble_eq_true rfl) dX6_init_31 (fun H B => ?_)
  have B : cn_H X s a (.inr (6, [.int 0, .ref (a + 1), .ref (a + 2), .ref (a + 3), .null, .null, .null]) :: (((([] ++ [.inl (fw_kp X 0, 8, .inl (fun _ => 0))]) ++ [.inl (fw_kp X 0, 8, .inl (fun _ => 0))]) ++ [.inl (fw_kp X 0, 8, .inl (fun _ => 0))]) ++ [.inl (fw_kp X 0, 8, .inl (fun _ => 0))])) H locs := B
  refine cn_put (j := 4) C B rfl in_X6 tyX6 tyX6_ok nmX6 (by decide) wf_X6_21 (fun _ h => h) (Or.inr ⟨hnm, rfl⟩) rfl rfl (by simp) dX6_init_33 (fun H locs B => ?_)
  have B : cn_H X s a (.inr (6, [.int 0, .ref (a + 1), .ref (a + 2), .ref (a + 3), .ref (a + 4), .null, .null]) :: (((([] ++ [.inl (fw_kp X 0, 8, .inl (fun _ => 0))]) ++ [.inl (fw_kp X 0, 8, .inl (fun _ => 0))]) ++ [.inl (fw_kp X 0, 8, .inl (fun _ => 0))]) ++ [.inl (fw_kp X 0, 8, .inl (fun _ => 0))])) H locs := B
  refine lv_aload_n hx hb dX6_init_36 rfl (lv_at hl 0 rfl) ?_
  refine lv_bipush (v := 8) hx hb dX6_init_37 (by decide) ?_
  refine cn_newa (atype := .int) (k := 0) (q := (a + 5)) (a0 := (8, .inl (fun _ => 0))) C B rfl rfl (fun h => h) wa_i rfl (by decide) rfl (Nat.le_of_ble_eq_true rfl) (by simp [grB_len, flB_len]) (Nat.le_of_ble_eq_true rfl) (Nat.le_of_ble_eq_true rfl) dX6_init_39 (fun H B => ?_)
  have B : cn_H X s a (.inr (6, [.int 0, .ref (a + 1), .ref (a + 2), .ref (a + 3), .ref (a + 4), .null, .null]) :: ((((([] ++ [.inl (fw_kp X 0, 8, .inl (fun _ => 0))]) ++ [.inl (fw_kp X 0, 8, .inl (fun _ => 0))]) ++ [.inl (fw_kp X 0, 8, .inl (fun _ => 0))]) ++ [.inl (fw_kp X 0, 8, .inl (fun _ => 0))]) ++ [.inl (fw_kp X 0, 8, .inl (fun _ => 0))])) H locs := B
  refine cn_put (j := 5) C B rfl in_X6 tyX6 tyX6_ok nmX6 (by decide) wf_X6_24 (fun _ h => h) (Or.inr ⟨hnm, rfl⟩) rfl rfl (by simp) dX6_init_41 (fun H locs B => ?_)
  have B : cn_H X s a (.inr (6, [.int 0, .ref (a + 1), .ref (a + 2), .ref (a + 3), .ref (a + 4), .ref (a + 5), .null]) :: ((((([] ++ [.inl (fw_kp X 0, 8, .inl (fun _ => 0))]) ++ [.inl (fw_kp X 0, 8, .inl (fun _ => 0))]) ++ [.inl (fw_kp X 0, 8, .inl (fun _ => 0))]) ++ [.inl (fw_kp X 0, 8, .inl (fun _ => 0))]) ++ [.inl (fw_kp X 0, 8, .inl (fun _ => 0))])) H locs := B
  refine lv_aload_n hx hb dX6_init_44 rfl (lv_at hl 0 rfl) ?_
  refine lv_bipush (v := 8) hx hb dX6_init_45 (by decide) ?_
  refine cn_newa (atype := .int) (k := 0) (q := (a + 6)) (a0 := (8, .inl (fun _ => 0))) C B rfl rfl (fun h => h) wa_i rfl (by decide) rfl (Nat.le_of_ble_eq_true rfl) (by simp [grB_len, flB_len]) (Nat.le_of_ble_eq_true rfl) (Nat.le_of_ble_eq_true rfl) dX6_init_47 (fun H B => ?_)
  have B : cn_H X s a (.inr (6, [.int 0, .ref (a + 1), .ref (a + 2), .ref (a + 3), .ref (a + 4), .ref (a + 5), .null]) :: (((((([] ++ [.inl (fw_kp X 0, 8, .inl (fun _ => 0))]) ++ [.inl (fw_kp X 0, 8, .inl (fun _ => 0))]) ++ [.inl (fw_kp X 0, 8, .inl (fun _ => 0))]) ++ [.inl (fw_kp X 0, 8, .inl (fun _ => 0))]) ++ [.inl (fw_kp X 0, 8, .inl (fun _ => 0))]) ++ [.inl (fw_kp X 0, 8, .inl (fun _ => 0))])) H locs := B
  refine cn_put (j := 6) C B rfl in_X6 tyX6 tyX6_ok nmX6 (by decide) wf_X6_27 (fun _ h => h) (Or.inr ⟨hnm, rfl⟩) rfl rfl (by simp) dX6_init_49 (fun H locs B => ?_)
  have B : cn_H X s a (.inr (6, [.int 0, .ref (a + 1), .ref (a + 2), .ref (a + 3), .ref (a + 4), .ref (a + 5), .ref (a + 6)]) :: (((((([] ++ [.inl (fw_kp X 0, 8, .inl (fun _ => 0))]) ++ [.inl (fw_kp X 0, 8, .inl (fun _ => 0))]) ++ [.inl (fw_kp X 0, 8, .inl (fun _ => 0))]) ++ [.inl (fw_kp X 0, 8, .inl (fun _ => 0))]) ++ [.inl (fw_kp X 0, 8, .inl (fun _ => 0))]) ++ [.inl (fw_kp X 0, 8, .inl (fun _ => 0))])) H locs := B
  exact cn_ret C B hr hlk (Nat.le_of_ble_eq_true rfl) (Nat.le_of_ble_eq_true rfl) dX6_init_52
def goB (X : fw_X) (a : Nat) : List va_E := (.inr (2, [.int 0, .ref (a + 1), .ref (a + 2)]) :: (([] ++ [.inl (fw_kp X 0, 6, .inl (fun _ => 0))]) ++ [.inl (fw_kp X 0, 6, .inl (fun _ => 0))]))
theorem goB_len {X : fw_X} {a : Nat} : (goB X a).length = 3 := by simp [goB, grB_len, flB_len, riB_len]
theorem dz_X2 : ∀ j, j < 3 → defaultValue (tyX2 j) = vp_V [.int 0, .null, .null] j := by decide +kernel
set_option maxHeartbeats 4000000 in
set_option maxRecDepth 100000 in
theorem cm_X2_init {l : Launch} {X : fw_X} {a : Nat} : ct_n l X yX2_init cX2_init 1 ({ frames := 1, cells := 2, slots := 12, locals := 40 } : Room) a [.ref a] (.inr (2, [.int 0, .null, .null])) (goB X a) := by
  refine cn_open rfl (Nat.le_of_ble_eq_true rfl) (fun p e s m below meth c ls C hN hsz hz hr hlk hnm hl B => ?_)
  have C : fr_C X p c cX2_init 1 RX2 s m ([.ref a] : List Value).toArray := C
  have hx := C.1.1
  have hb := C.1.2.1
  obtain ⟨H, hH⟩ : ∃ H, H = s.heap := ⟨_, rfl⟩
  obtain ⟨locs, hL⟩ : ∃ L : List Loc, L = [] := ⟨_, rfl⟩
  rw [← hH, ← hL] at B
  rw [← hH]
  show W p l e ({ frames := 1, cells := 2, slots := 12, locals := 40 } : Room) s m _ below meth c H [] 0 0 _ (F0 m 0 ls [])
  rw [← hL]
  have hl : lv_has ls 1 [(0, .ref a)] := hl
  have B : cn_H X s a (.inr (2, [.int 0, .null, .null]) :: []) H locs := B
  refine lv_aload_n hx hb dX2_init_0 rfl (lv_at hl 0 rfl) ?_
  refine cn_obj C wm_X2_3 wn_obj wc_obj hl.1 (Nat.le_of_ble_eq_true rfl) (Nat.le_of_ble_eq_true rfl) dX2_init_1 ?_
  refine lv_aload_n hx hb dX2_init_4 rfl (lv_at hl 0 rfl) ?_
  refine lv_bipush (v := 6) hx hb dX2_init_5 (by decide) ?_
  refine cn_newa (atype := .int) (k := 0) (q := (a + 1)) (a0 := (6, .inl (fun _ => 0))) C B rfl rfl (fun h => h) wa_i rfl (by decide) rfl (Nat.le_of_ble_eq_true rfl) (by simp [grB_len, flB_len, riB_len]) (Nat.le_of_ble_eq_true rfl) (Nat.le_of_ble_eq_true rfl) dX2_init_7 (fun H B => ?_)
  have B : cn_H X s a (.inr (2, [.int 0, .null, .null]) :: ([] ++ [.inl (fw_kp X 0, 6, .inl (fun _ => 0))])) H locs := B
  refine cn_put (j := 1) C B rfl in_X2 tyX2 tyX2_ok nmX2 (by decide) wf_X2_9 (fun _ h => h) (Or.inr ⟨hnm, rfl⟩) rfl rfl (by simp) dX2_init_9 (fun H locs B => ?_)
  have B : cn_H X s a (.inr (2, [.int 0, .ref (a + 1), .null]) :: ([] ++ [.inl (fw_kp X 0, 6, .inl (fun _ => 0))])) H locs := B
  refine lv_aload_n hx hb dX2_init_12 rfl (lv_at hl 0 rfl) ?_
  refine lv_bipush (v := 6) hx hb dX2_init_13 (by decide) ?_
  refine cn_newa (atype := .int) (k := 0) (q := (a + 2)) (a0 := (6, .inl (fun _ => 0))) C B rfl rfl (fun h => h) wa_i rfl (by decide) rfl (Nat.le_of_ble_eq_true rfl) (by simp [grB_len, flB_len, riB_len]) (Nat.le_of_ble_eq_true rfl) (Nat.le_of_ble_eq_true rfl) dX2_init_15 (fun H B => ?_)
  have B : cn_H X s a (.inr (2, [.int 0, .ref (a + 1), .null]) :: (([] ++ [.inl (fw_kp X 0, 6, .inl (fun _ => 0))]) ++ [.inl (fw_kp X 0, 6, .inl (fun _ => 0))])) H locs := B
  refine cn_put (j := 2) C B rfl in_X2 tyX2 tyX2_ok nmX2 (by decide) wf_X2_15 (fun _ h => h) (Or.inr ⟨hnm, rfl⟩) rfl rfl (by simp) dX2_init_17 (fun H locs B => ?_)
  have B : cn_H X s a (.inr (2, [.int 0, .ref (a + 1), .ref (a + 2)]) :: (([] ++ [.inl (fw_kp X 0, 6, .inl (fun _ => 0))]) ++ [.inl (fw_kp X 0, 6, .inl (fun _ => 0))])) H locs := B
  exact cn_ret C B hr hlk (Nat.le_of_ble_eq_true rfl) (Nat.le_of_ble_eq_true rfl) dX2_init_20
def stB (X : fw_X) (a : Nat) : List va_E := (.inr (7, [.ref (a + 1), .ref (a + 11), .ref (a + 15), .ref (a + 22), .int 0]) :: (((([] ++ grB X (a + 1)) ++ flB X (a + 11)) ++ riB X (a + 15)) ++ goB X (a + 22)))
theorem stB_len {X : fw_X} {a : Nat} : (stB X a).length = 25 := by simp [stB, grB_len, flB_len, riB_len, goB_len]
theorem dz_X7 : ∀ j, j < 5 → defaultValue (tyX7 j) = vp_V [.null, .null, .null, .null, .int 0] j := by decide +kernel
set_option maxHeartbeats 4000000 in
set_option maxRecDepth 100000 in
theorem cm_X7_init {l : Launch} {X : fw_X} {a : Nat} : ct_n l X yX7_init cX7_init 1 ({ frames := 2, cells := 24, slots := 153, locals := 60 } : Room) a [.ref a] (.inr (7, [.null, .null, .null, .null, .int 0])) (stB X a) := by
  refine cn_open rfl (Nat.le_of_ble_eq_true rfl) (fun p e s m below meth c ls C hN hsz hz hr hlk hnm hl B => ?_)
  have C : fr_C X p c cX7_init 1 RX7 s m ([.ref a] : List Value).toArray := C
  have hx := C.1.1
  have hb := C.1.2.1
  obtain ⟨H, hH⟩ : ∃ H, H = s.heap := ⟨_, rfl⟩
  obtain ⟨locs, hL⟩ : ∃ L : List Loc, L = [] := ⟨_, rfl⟩
  rw [← hH, ← hL] at B
  rw [← hH]
  show W p l e ({ frames := 2, cells := 24, slots := 153, locals := 60 } : Room) s m _ below meth c H [] 0 0 _ (F0 m 0 ls [])
  rw [← hL]
  have hl : lv_has ls 1 [(0, .ref a)] := hl
  have B : cn_H X s a (.inr (7, [.null, .null, .null, .null, .int 0]) :: []) H locs := B
  refine lv_aload_n hx hb dX7_init_0 rfl (lv_at hl 0 rfl) ?_
  refine cn_obj C wm_X7_3 wn_obj wc_obj hl.1 (Nat.le_of_ble_eq_true rfl) (Nat.le_of_ble_eq_true rfl) dX7_init_1 ?_
  refine lv_aload_n hx hb dX7_init_4 rfl (lv_at hl 0 rfl) ?_
  refine cn_new (ci := 3) (q := (a + 1)) (fs := [.int 0, .int 0, .null, .null, .null, .null]) C B rfl in_X3 tyX3 tyX3_ok wq_X7_9 wz_X3 wi_X3 dz_X3 (by simp [grB_len, flB_len, riB_len, goB_len]) (Nat.le_of_ble_eq_true rfl) (Nat.le_of_ble_eq_true rfl) dX7_init_5 (fun H B => ?_)
  refine lv_dup hx hb dX7_init_8 rfl ?_
  refine cn_call (ws := (.inr (7, [.null, .null, .null, .null, .int 0]) :: [])) (As := []) (rest := [.ref (a + 1), .ref a]) C hN B hz (by simp [grB_len, flB_len, riB_len, goB_len]) (cm_X3_init (l := l)) yi_X3_init wm_X7_11 rfl hl.1 rfl (Nat.le_of_ble_eq_true rfl) ⟨(Nat.le_of_ble_eq_true rfl), (Nat.le_of_ble_eq_true rfl)⟩ ⟨(Nat.le_of_ble_eq_true rfl), (Nat.le_of_ble_eq_true rfl)⟩ dX7_init_9 (fun H locs B => ?_)
  have B : cn_H X s a (.inr (7, [.null, .null, .null, .null, .int 0]) :: ([] ++ grB X (a + 1))) H locs := B
  refine cn_put (j := 0) C B rfl in_X7 tyX7 tyX7_ok nmX7 (by decide) wf_X7_12 (fun _ h => h) (Or.inr ⟨hnm, rfl⟩) rfl rfl (by simp) dX7_init_12 (fun H locs B => ?_)
  have B : cn_H X s a (.inr (7, [.ref (a + 1), .null, .null, .null, .int 0]) :: ([] ++ grB X (a + 1))) H locs := B
  refine lv_aload_n hx hb dX7_init_15 rfl (lv_at hl 0 rfl) ?_
  refine cn_new (ci := 1) (q := (a + 11)) (fs := [.int 0, .null, .null, .null]) C B rfl in_X1 tyX1 tyX1_ok wq_X7_18 wz_X1 wi_X1 dz_X1 (by simp [grB_len, flB_len, riB_len, goB_len]) (Nat.le_of_ble_eq_true rfl) (Nat.le_of_ble_eq_true rfl) dX7_init_16 (fun H B => ?_)
  refine lv_dup hx hb dX7_init_19 rfl ?_
  refine cn_call (ws := (.inr (7, [.ref (a + 1), .null, .null, .null, .int 0]) :: ([] ++ grB X (a + 1)))) (As := []) (rest := [.ref (a + 11), .ref a]) C hN B hz (by simp [grB_len, flB_len, riB_len, goB_len]) (cm_X1_init (l := l)) yi_X1_init wm_X7_20 rfl hl.1 rfl (Nat.le_of_ble_eq_true rfl) ⟨(Nat.le_of_ble_eq_true rfl), (Nat.le_of_ble_eq_true rfl)⟩ ⟨(Nat.le_of_ble_eq_true rfl), (Nat.le_of_ble_eq_true rfl)⟩ dX7_init_20 (fun H locs B => ?_)
  have B : cn_H X s a (.inr (7, [.ref (a + 1), .null, .null, .null, .int 0]) :: (([] ++ grB X (a + 1)) ++ flB X (a + 11))) H locs := B
  refine cn_put (j := 1) C B rfl in_X7 tyX7 tyX7_ok nmX7 (by decide) wf_X7_21 (fun _ h => h) (Or.inr ⟨hnm, rfl⟩) rfl rfl (by simp) dX7_init_23 (fun H locs B => ?_)
  have B : cn_H X s a (.inr (7, [.ref (a + 1), .ref (a + 11), .null, .null, .int 0]) :: (([] ++ grB X (a + 1)) ++ flB X (a + 11))) H locs := B
  refine lv_aload_n hx hb dX7_init_26 rfl (lv_at hl 0 rfl) ?_
  refine cn_new (ci := 6) (q := (a + 15)) (fs := [.int 0, .null, .null, .null, .null, .null, .null]) C B rfl in_X6 tyX6 tyX6_ok wq_X7_25 wz_X6 wi_X6 dz_X6 (by simp [grB_len, flB_len, riB_len, goB_len]) (Nat.le_of_ble_eq_true rfl) (Nat.le_of_ble_eq_true rfl) dX7_init_27 (fun H B => ?_)
  refine lv_dup hx hb dX7_init_30 rfl ?_
  refine cn_call (ws := (.inr (7, [.ref (a + 1), .ref (a + 11), .null, .null, .int 0]) :: (([] ++ grB X (a + 1)) ++ flB X (a + 11)))) (As := []) (rest := [.ref (a + 15), .ref a]) C hN B hz (by simp [grB_len, flB_len, riB_len, goB_len]) (cm_X6_init (l := l)) yi_X6_init wm_X7_27 rfl hl.1 rfl (Nat.le_of_ble_eq_true rfl) ⟨(Nat.le_of_ble_eq_true rfl), (Nat.le_of_ble_eq_true rfl)⟩ ⟨(Nat.le_of_ble_eq_true rfl), (Nat.le_of_ble_eq_true rfl)⟩ dX7_init_31 (fun H locs B => ?_)
  have B : cn_H X s a (.inr (7, [.ref (a + 1), .ref (a + 11), .null, .null, .int 0]) :: ((([] ++ grB X (a + 1)) ++ flB X (a + 11)) ++ riB X (a + 15))) H locs := B
  refine cn_put (j := 2) C B rfl in_X7 tyX7 tyX7_ok nmX7 (by decide) wf_X7_28 (fun _ h => h) (Or.inr ⟨hnm, rfl⟩) rfl rfl (by simp) dX7_init_34 (fun H locs B => ?_)
  have B : cn_H X s a (.inr (7, [.ref (a + 1), .ref (a + 11), .ref (a + 15), .null, .int 0]) :: ((([] ++ grB X (a + 1)) ++ flB X (a + 11)) ++ riB X (a + 15))) H locs := B
  refine lv_aload_n hx hb dX7_init_37 rfl (lv_at hl 0 rfl) ?_
  refine cn_new (ci := 2) (q := (a + 22)) (fs := [.int 0, .null, .null]) C B rfl in_X2 tyX2 tyX2_ok wq_X7_32 wz_X2 wi_X2 dz_X2 (by simp [grB_len, flB_len, riB_len, goB_len]) (Nat.le_of_ble_eq_true rfl) (Nat.le_of_ble_eq_true rfl) dX7_init_38 (fun H B => ?_)
  refine lv_dup hx hb dX7_init_41 rfl ?_
  refine cn_call (ws := (.inr (7, [.ref (a + 1), .ref (a + 11), .ref (a + 15), .null, .int 0]) :: ((([] ++ grB X (a + 1)) ++ flB X (a + 11)) ++ riB X (a + 15)))) (As := []) (rest := [.ref (a + 22), .ref a]) C hN B hz (by simp [grB_len, flB_len, riB_len, goB_len]) (cm_X2_init (l := l)) yi_X2_init wm_X7_34 rfl hl.1 rfl (Nat.le_of_ble_eq_true rfl) ⟨(Nat.le_of_ble_eq_true rfl), (Nat.le_of_ble_eq_true rfl)⟩ ⟨(Nat.le_of_ble_eq_true rfl), (Nat.le_of_ble_eq_true rfl)⟩ dX7_init_42 (fun H locs B => ?_)
  have B : cn_H X s a (.inr (7, [.ref (a + 1), .ref (a + 11), .ref (a + 15), .null, .int 0]) :: (((([] ++ grB X (a + 1)) ++ flB X (a + 11)) ++ riB X (a + 15)) ++ goB X (a + 22))) H locs := B
  refine cn_put (j := 3) C B rfl in_X7 tyX7 tyX7_ok nmX7 (by decide) wf_X7_35 (fun _ h => h) (Or.inr ⟨hnm, rfl⟩) rfl rfl (by simp) dX7_init_45 (fun H locs B => ?_)
  have B : cn_H X s a (.inr (7, [.ref (a + 1), .ref (a + 11), .ref (a + 15), .ref (a + 22), .int 0]) :: (((([] ++ grB X (a + 1)) ++ flB X (a + 11)) ++ riB X (a + 15)) ++ goB X (a + 22))) H locs := B
  exact cn_ret C B hr hlk (Nat.le_of_ble_eq_true rfl) (Nat.le_of_ble_eq_true rfl) dX7_init_48
def hiB (X : fw_X) (a : Nat) : List va_E := (.inr (4, [.ref (a + 1), .int 0, .int 0]) :: (.inl (fw_kp X 3, 8, .inr (.inr (.inr (.inr (va_up (va_up (va_up (va_up (va_up (va_up (va_up (va_up (fun _ => none) 0 (some (a + 2))) 1 (some (a + 27))) 2 (some (a + 52))) 3 (some (a + 77))) 4 (some (a + 102))) 5 (some (a + 127))) 6 (some (a + 152))) 7 (some (a + 177))))))) :: (((((((([] ++ stB X (a + 2)) ++ stB X (a + 27)) ++ stB X (a + 52)) ++ stB X (a + 77)) ++ stB X (a + 102)) ++ stB X (a + 127)) ++ stB X (a + 152)) ++ stB X (a + 177))))
theorem hiB_len {X : fw_X} {a : Nat} : (hiB X a).length = 202 := by simp [hiB, grB_len, flB_len, riB_len, goB_len, stB_len]
theorem dz_X4 : ∀ j, j < 3 → defaultValue (tyX4 j) = vp_V [.null, .int 0, .int 0] j := by decide +kernel
set_option maxHeartbeats 4000000 in
set_option maxRecDepth 100000 in
theorem cm_X4_init {l : Launch} {X : fw_X} {a : Nat} : ct_n l X yX4_init cX4_init 2 ({ frames := 3, cells := 201, slots := 1272, locals := 80 } : Room) a [.ref a] (.inr (4, [.null, .int 0, .int 0])) (hiB X a) := by
  refine cn_open rfl (Nat.le_of_ble_eq_true rfl) (fun p e s m below meth c ls C hN hsz hz hr hlk hnm hl B => ?_)
  have C : fr_C X p c cX4_init 2 RX4 s m ([.ref a] : List Value).toArray := C
  have hx := C.1.1
  have hb := C.1.2.1
  obtain ⟨H, hH⟩ : ∃ H, H = s.heap := ⟨_, rfl⟩
  obtain ⟨locs, hL⟩ : ∃ L : List Loc, L = [] := ⟨_, rfl⟩
  rw [← hH, ← hL] at B
  rw [← hH]
  show W p l e ({ frames := 3, cells := 201, slots := 1272, locals := 80 } : Room) s m _ below meth c H [] 0 0 _ (F0 m 0 ls [])
  rw [← hL]
  have hl : lv_has ls 2 [(0, .ref a)] := hl
  have B : cn_H X s a (.inr (4, [.null, .int 0, .int 0]) :: []) H locs := B
  refine lv_aload_n hx hb dX4_init_0 rfl (lv_at hl 0 rfl) ?_
  refine cn_obj C wm_X4_3 wn_obj wc_obj hl.1 (Nat.le_of_ble_eq_true rfl) (Nat.le_of_ble_eq_true rfl) dX4_init_1 ?_
  refine lv_aload_n hx hb dX4_init_4 rfl (lv_at hl 0 rfl) ?_
  refine lv_bipush (v := 8) hx hb dX4_init_5 (by decide) ?_
  refine cn_newq (N := 8) (q := (a + 1)) C hN B wq_X4_9 (by decide) rfl (Nat.le_of_ble_eq_true rfl) (by simp) (Nat.le_of_ble_eq_true rfl) (Nat.le_of_ble_eq_true rfl) dX4_init_7 (fun H B => ?_)
  have B : cn_H X s a (.inr (4, [.null, .int 0, .int 0]) :: (.inl (fw_kp X 3, 8, .inr (.inr (.inr (.inr (fun _ => none))))) :: [])) H locs := B
  refine cn_put (j := 0) C B rfl in_X4 tyX4 tyX4_ok nmX4 (by decide) wf_X4_11 (fun _ h => h) (Or.inr ⟨hnm, rfl⟩) rfl rfl (by simp) dX4_init_10 (fun H locs B => ?_)
  have B : cn_H X s a (.inr (4, [.ref (a + 1), .int 0, .int 0]) :: (.inl (fw_kp X 3, 8, .inr (.inr (.inr (.inr (fun _ => none))))) :: [])) H locs := B
  refine lv_iconst (v := 0) hx hb dX4_init_13 (by decide) ?_
  refine lv_istore_n (lv' := [(1, .int 0), (0, .ref a)]) hx hb dX4_init_14 rfl hl (by decide) rfl (fun ls hl => ?_)
  refine lv_iload_n hx hb dX4_init_15 rfl (lv_at hl 0 rfl) ?_
  refine lv_bipush (v := 8) hx hb dX4_init_16 (by decide) ?_
  refine lv_icmp_ge (tgt := 40) hx hb dX4_init_18 (by decide) (fun c1 => absurd c1 (by decide)) (fun c1 => ?_)
  refine lv_aload_n hx hb dX4_init_21 rfl (lv_at hl 1 rfl) ?_
  refine cn_get (j := 0) C B rfl in_X4 (by decide) wf_X4_11 rfl dX4_init_22 ?_
  refine lv_iload_n hx hb dX4_init_25 rfl (lv_at hl 0 rfl) ?_
  refine cn_new (ci := 7) (q := (a + 2)) (fs := [.null, .null, .null, .null, .int 0]) C B rfl in_X7 tyX7 tyX7_ok wq_X4_9 wz_X7 wi_X7 dz_X7 (by simp [grB_len, flB_len, riB_len, goB_len, stB_len]) (Nat.le_of_ble_eq_true rfl) (Nat.le_of_ble_eq_true rfl) dX4_init_26 (fun H B => ?_)
  refine lv_dup hx hb dX4_init_29 rfl ?_
  refine cn_call (ws := (.inr (4, [.ref (a + 1), .int 0, .int 0]) :: (.inl (fw_kp X 3, 8, .inr (.inr (.inr (.inr (fun _ => none))))) :: []))) (As := []) (rest := [.ref (a + 2), .int 0, .ref (a + 1)]) C hN B hz (by simp [grB_len, flB_len, riB_len, goB_len, stB_len]) (cm_X7_init (l := l)) yi_X7_init wm_X4_17 rfl hl.1 rfl (Nat.le_of_ble_eq_true rfl) ⟨(Nat.le_of_ble_eq_true rfl), (Nat.le_of_ble_eq_true rfl)⟩ ⟨(Nat.le_of_ble_eq_true rfl), (Nat.le_of_ble_eq_true rfl)⟩ dX4_init_30 (fun H locs B => ?_)
  have B : cn_H X s a (.inr (4, [.ref (a + 1), .int 0, .int 0]) :: (.inl (fw_kp X 3, 8, .inr (.inr (.inr (.inr (fun _ => none))))) :: ([] ++ stB X (a + 2)))) H locs := B
  refine cn_aast (k := 0) (q := (a + 2)) C B ((nth_app (by simp [grB_len, flB_len, riB_len, goB_len, stB_len])).trans rfl) (by omega) (by decide) dX4_init_33 (fun H locs B => ?_)
  have B : cn_H X s a (.inr (4, [.ref (a + 1), .int 0, .int 0]) :: (.inl (fw_kp X 3, 8, .inr (.inr (.inr (.inr (va_up (fun _ => none) 0 (some (a + 2))))))) :: ([] ++ stB X (a + 2)))) H locs := B
  refine lv_iinc (v := 1) (lv' := [(1, .int 1), (0, .ref a)]) hx hb dX4_init_34 hl (k := 0) rfl (by decide) (by decide) rfl (fun ls hl => ?_)
  refine lv_goto (tgt := 15) hx hb dX4_init_37 (by decide) ?_
  refine lv_iload_n hx hb dX4_init_15 rfl (lv_at hl 0 rfl) ?_
  refine lv_bipush (v := 8) hx hb dX4_init_16 (by decide) ?_
  refine lv_icmp_ge (tgt := 40) hx hb dX4_init_18 (by decide) (fun c1 => absurd c1 (by decide)) (fun c1 => ?_)
  refine lv_aload_n hx hb dX4_init_21 rfl (lv_at hl 1 rfl) ?_
  refine cn_get (j := 0) C B rfl in_X4 (by decide) wf_X4_11 rfl dX4_init_22 ?_
  refine lv_iload_n hx hb dX4_init_25 rfl (lv_at hl 0 rfl) ?_
  refine cn_new (ci := 7) (q := (a + 27)) (fs := [.null, .null, .null, .null, .int 0]) C B rfl in_X7 tyX7 tyX7_ok wq_X4_9 wz_X7 wi_X7 dz_X7 (by simp [grB_len, flB_len, riB_len, goB_len, stB_len]) (Nat.le_of_ble_eq_true rfl) (Nat.le_of_ble_eq_true rfl) dX4_init_26 (fun H B => ?_)
  refine lv_dup hx hb dX4_init_29 rfl ?_
  refine cn_call (ws := (.inr (4, [.ref (a + 1), .int 0, .int 0]) :: (.inl (fw_kp X 3, 8, .inr (.inr (.inr (.inr (va_up (fun _ => none) 0 (some (a + 2))))))) :: ([] ++ stB X (a + 2))))) (As := []) (rest := [.ref (a + 27), .int 1, .ref (a + 1)]) C hN B hz (by simp [grB_len, flB_len, riB_len, goB_len, stB_len]) (cm_X7_init (l := l)) yi_X7_init wm_X4_17 rfl hl.1 rfl (Nat.le_of_ble_eq_true rfl) ⟨(Nat.le_of_ble_eq_true rfl), (Nat.le_of_ble_eq_true rfl)⟩ ⟨(Nat.le_of_ble_eq_true rfl), (Nat.le_of_ble_eq_true rfl)⟩ dX4_init_30 (fun H locs B => ?_)
  have B : cn_H X s a (.inr (4, [.ref (a + 1), .int 0, .int 0]) :: (.inl (fw_kp X 3, 8, .inr (.inr (.inr (.inr (va_up (fun _ => none) 0 (some (a + 2))))))) :: (([] ++ stB X (a + 2)) ++ stB X (a + 27)))) H locs := B
  refine cn_aast (k := 25) (q := (a + 27)) C B ((nth_app (by simp [grB_len, flB_len, riB_len, goB_len, stB_len])).trans rfl) (by omega) (by decide) dX4_init_33 (fun H locs B => ?_)
  have B : cn_H X s a (.inr (4, [.ref (a + 1), .int 0, .int 0]) :: (.inl (fw_kp X 3, 8, .inr (.inr (.inr (.inr (va_up (va_up (fun _ => none) 0 (some (a + 2))) 1 (some (a + 27))))))) :: (([] ++ stB X (a + 2)) ++ stB X (a + 27)))) H locs := B
  refine lv_iinc (v := 2) (lv' := [(1, .int 2), (0, .ref a)]) hx hb dX4_init_34 hl (k := 0) rfl (by decide) (by decide) rfl (fun ls hl => ?_)
  refine lv_goto (tgt := 15) hx hb dX4_init_37 (by decide) ?_
  refine lv_iload_n hx hb dX4_init_15 rfl (lv_at hl 0 rfl) ?_
  refine lv_bipush (v := 8) hx hb dX4_init_16 (by decide) ?_
  refine lv_icmp_ge (tgt := 40) hx hb dX4_init_18 (by decide) (fun c1 => absurd c1 (by decide)) (fun c1 => ?_)
  refine lv_aload_n hx hb dX4_init_21 rfl (lv_at hl 1 rfl) ?_
  refine cn_get (j := 0) C B rfl in_X4 (by decide) wf_X4_11 rfl dX4_init_22 ?_
  refine lv_iload_n hx hb dX4_init_25 rfl (lv_at hl 0 rfl) ?_
  refine cn_new (ci := 7) (q := (a + 52)) (fs := [.null, .null, .null, .null, .int 0]) C B rfl in_X7 tyX7 tyX7_ok wq_X4_9 wz_X7 wi_X7 dz_X7 (by simp [grB_len, flB_len, riB_len, goB_len, stB_len]) (Nat.le_of_ble_eq_true rfl) (Nat.le_of_ble_eq_true rfl) dX4_init_26 (fun H B => ?_)
  refine lv_dup hx hb dX4_init_29 rfl ?_
  refine cn_call (ws := (.inr (4, [.ref (a + 1), .int 0, .int 0]) :: (.inl (fw_kp X 3, 8, .inr (.inr (.inr (.inr (va_up (va_up (fun _ => none) 0 (some (a + 2))) 1 (some (a + 27))))))) :: (([] ++ stB X (a + 2)) ++ stB X (a + 27))))) (As := []) (rest := [.ref (a + 52), .int 2, .ref (a + 1)]) C hN B hz (by simp [grB_len, flB_len, riB_len, goB_len, stB_len]) (cm_X7_init (l := l)) yi_X7_init wm_X4_17 rfl hl.1 rfl (Nat.le_of_ble_eq_true rfl) ⟨(Nat.le_of_ble_eq_true rfl), (Nat.le_of_ble_eq_true rfl)⟩ ⟨(Nat.le_of_ble_eq_true rfl), (Nat.le_of_ble_eq_true rfl)⟩ dX4_init_30 (fun H locs B => ?_)
  have B : cn_H X s a (.inr (4, [.ref (a + 1), .int 0, .int 0]) :: (.inl (fw_kp X 3, 8, .inr (.inr (.inr (.inr (va_up (va_up (fun _ => none) 0 (some (a + 2))) 1 (some (a + 27))))))) :: ((([] ++ stB X (a + 2)) ++ stB X (a + 27)) ++ stB X (a + 52)))) H locs := B
  refine cn_aast (k := 50) (q := (a + 52)) C B ((nth_app (by simp [grB_len, flB_len, riB_len, goB_len, stB_len])).trans rfl) (by omega) (by decide) dX4_init_33 (fun H locs B => ?_)
  have B : cn_H X s a (.inr (4, [.ref (a + 1), .int 0, .int 0]) :: (.inl (fw_kp X 3, 8, .inr (.inr (.inr (.inr (va_up (va_up (va_up (fun _ => none) 0 (some (a + 2))) 1 (some (a + 27))) 2 (some (a + 52))))))) :: ((([] ++ stB X (a + 2)) ++ stB X (a + 27)) ++ stB X (a + 52)))) H locs := B
  refine lv_iinc (v := 3) (lv' := [(1, .int 3), (0, .ref a)]) hx hb dX4_init_34 hl (k := 0) rfl (by decide) (by decide) rfl (fun ls hl => ?_)
  refine lv_goto (tgt := 15) hx hb dX4_init_37 (by decide) ?_
  refine lv_iload_n hx hb dX4_init_15 rfl (lv_at hl 0 rfl) ?_
  refine lv_bipush (v := 8) hx hb dX4_init_16 (by decide) ?_
  refine lv_icmp_ge (tgt := 40) hx hb dX4_init_18 (by decide) (fun c1 => absurd c1 (by decide)) (fun c1 => ?_)
  refine lv_aload_n hx hb dX4_init_21 rfl (lv_at hl 1 rfl) ?_
  refine cn_get (j := 0) C B rfl in_X4 (by decide) wf_X4_11 rfl dX4_init_22 ?_
  refine lv_iload_n hx hb dX4_init_25 rfl (lv_at hl 0 rfl) ?_
  refine cn_new (ci := 7) (q := (a + 77)) (fs := [.null, .null, .null, .null, .int 0]) C B rfl in_X7 tyX7 tyX7_ok wq_X4_9 wz_X7 wi_X7 dz_X7 (by simp [grB_len, flB_len, riB_len, goB_len, stB_len]) (Nat.le_of_ble_eq_true rfl) (Nat.le_of_ble_eq_true rfl) dX4_init_26 (fun H B => ?_)
  refine lv_dup hx hb dX4_init_29 rfl ?_
  refine cn_call (ws := (.inr (4, [.ref (a + 1), .int 0, .int 0]) :: (.inl (fw_kp X 3, 8, .inr (.inr (.inr (.inr (va_up (va_up (va_up (fun _ => none) 0 (some (a + 2))) 1 (some (a + 27))) 2 (some (a + 52))))))) :: ((([] ++ stB X (a + 2)) ++ stB X (a + 27)) ++ stB X (a + 52))))) (As := []) (rest := [.ref (a + 77), .int 3, .ref (a + 1)]) C hN B hz (by simp [grB_len, flB_len, riB_len, goB_len, stB_len]) (cm_X7_init (l := l)) yi_X7_init wm_X4_17 rfl hl.1 rfl (Nat.le_of_ble_eq_true rfl) ⟨(Nat.le_of_ble_eq_true rfl), (Nat.le_of_ble_eq_true rfl)⟩ ⟨(Nat.le_of_ble_eq_true rfl), (Nat.le_of_ble_eq_true rfl)⟩ dX4_init_30 (fun H locs B => ?_)
  have B : cn_H X s a (.inr (4, [.ref (a + 1), .int 0, .int 0]) :: (.inl (fw_kp X 3, 8, .inr (.inr (.inr (.inr (va_up (va_up (va_up (fun _ => none) 0 (some (a + 2))) 1 (some (a + 27))) 2 (some (a + 52))))))) :: (((([] ++ stB X (a + 2)) ++ stB X (a + 27)) ++ stB X (a + 52)) ++ stB X (a + 77)))) H locs := B
  refine cn_aast (k := 75) (q := (a + 77)) C B ((nth_app (by simp [grB_len, flB_len, riB_len, goB_len, stB_len])).trans rfl) (by omega) (by decide) dX4_init_33 (fun H locs B => ?_)
  have B : cn_H X s a (.inr (4, [.ref (a + 1), .int 0, .int 0]) :: (.inl (fw_kp X 3, 8, .inr (.inr (.inr (.inr (va_up (va_up (va_up (va_up (fun _ => none) 0 (some (a + 2))) 1 (some (a + 27))) 2 (some (a + 52))) 3 (some (a + 77))))))) :: (((([] ++ stB X (a + 2)) ++ stB X (a + 27)) ++ stB X (a + 52)) ++ stB X (a + 77)))) H locs := B
  refine lv_iinc (v := 4) (lv' := [(1, .int 4), (0, .ref a)]) hx hb dX4_init_34 hl (k := 0) rfl (by decide) (by decide) rfl (fun ls hl => ?_)
  refine lv_goto (tgt := 15) hx hb dX4_init_37 (by decide) ?_
  refine lv_iload_n hx hb dX4_init_15 rfl (lv_at hl 0 rfl) ?_
  refine lv_bipush (v := 8) hx hb dX4_init_16 (by decide) ?_
  refine lv_icmp_ge (tgt := 40) hx hb dX4_init_18 (by decide) (fun c1 => absurd c1 (by decide)) (fun c1 => ?_)
  refine lv_aload_n hx hb dX4_init_21 rfl (lv_at hl 1 rfl) ?_
  refine cn_get (j := 0) C B rfl in_X4 (by decide) wf_X4_11 rfl dX4_init_22 ?_
  refine lv_iload_n hx hb dX4_init_25 rfl (lv_at hl 0 rfl) ?_
  refine cn_new (ci := 7) (q := (a + 102)) (fs := [.null, .null, .null, .null, .int 0]) C B rfl in_X7 tyX7 tyX7_ok wq_X4_9 wz_X7 wi_X7 dz_X7 (by simp [grB_len, flB_len, riB_len, goB_len, stB_len]) (Nat.le_of_ble_eq_true rfl) (Nat.le_of_ble_eq_true rfl) dX4_init_26 (fun H B => ?_)
  refine lv_dup hx hb dX4_init_29 rfl ?_
  refine cn_call (ws := (.inr (4, [.ref (a + 1), .int 0, .int 0]) :: (.inl (fw_kp X 3, 8, .inr (.inr (.inr (.inr (va_up (va_up (va_up (va_up (fun _ => none) 0 (some (a + 2))) 1 (some (a + 27))) 2 (some (a + 52))) 3 (some (a + 77))))))) :: (((([] ++ stB X (a + 2)) ++ stB X (a + 27)) ++ stB X (a + 52)) ++ stB X (a + 77))))) (As := []) (rest := [.ref (a + 102), .int 4, .ref (a + 1)]) C hN B hz (by simp [grB_len, flB_len, riB_len, goB_len, stB_len]) (cm_X7_init (l := l)) yi_X7_init wm_X4_17 rfl hl.1 rfl (Nat.le_of_ble_eq_true rfl) ⟨(Nat.le_of_ble_eq_true rfl), (Nat.le_of_ble_eq_true rfl)⟩ ⟨(Nat.le_of_ble_eq_true rfl), (Nat.le_of_ble_eq_true rfl)⟩ dX4_init_30 (fun H locs B => ?_)
  have B : cn_H X s a (.inr (4, [.ref (a + 1), .int 0, .int 0]) :: (.inl (fw_kp X 3, 8, .inr (.inr (.inr (.inr (va_up (va_up (va_up (va_up (fun _ => none) 0 (some (a + 2))) 1 (some (a + 27))) 2 (some (a + 52))) 3 (some (a + 77))))))) :: ((((([] ++ stB X (a + 2)) ++ stB X (a + 27)) ++ stB X (a + 52)) ++ stB X (a + 77)) ++ stB X (a + 102)))) H locs := B
  refine cn_aast (k := 100) (q := (a + 102)) C B ((nth_app (by simp [grB_len, flB_len, riB_len, goB_len, stB_len])).trans rfl) (by omega) (by decide) dX4_init_33 (fun H locs B => ?_)
  have B : cn_H X s a (.inr (4, [.ref (a + 1), .int 0, .int 0]) :: (.inl (fw_kp X 3, 8, .inr (.inr (.inr (.inr (va_up (va_up (va_up (va_up (va_up (fun _ => none) 0 (some (a + 2))) 1 (some (a + 27))) 2 (some (a + 52))) 3 (some (a + 77))) 4 (some (a + 102))))))) :: ((((([] ++ stB X (a + 2)) ++ stB X (a + 27)) ++ stB X (a + 52)) ++ stB X (a + 77)) ++ stB X (a + 102)))) H locs := B
  refine lv_iinc (v := 5) (lv' := [(1, .int 5), (0, .ref a)]) hx hb dX4_init_34 hl (k := 0) rfl (by decide) (by decide) rfl (fun ls hl => ?_)
  refine lv_goto (tgt := 15) hx hb dX4_init_37 (by decide) ?_
  refine lv_iload_n hx hb dX4_init_15 rfl (lv_at hl 0 rfl) ?_
  refine lv_bipush (v := 8) hx hb dX4_init_16 (by decide) ?_
  refine lv_icmp_ge (tgt := 40) hx hb dX4_init_18 (by decide) (fun c1 => absurd c1 (by decide)) (fun c1 => ?_)
  refine lv_aload_n hx hb dX4_init_21 rfl (lv_at hl 1 rfl) ?_
  refine cn_get (j := 0) C B rfl in_X4 (by decide) wf_X4_11 rfl dX4_init_22 ?_
  refine lv_iload_n hx hb dX4_init_25 rfl (lv_at hl 0 rfl) ?_
  refine cn_new (ci := 7) (q := (a + 127)) (fs := [.null, .null, .null, .null, .int 0]) C B rfl in_X7 tyX7 tyX7_ok wq_X4_9 wz_X7 wi_X7 dz_X7 (by simp [grB_len, flB_len, riB_len, goB_len, stB_len]) (Nat.le_of_ble_eq_true rfl) (Nat.le_of_ble_eq_true rfl) dX4_init_26 (fun H B => ?_)
  refine lv_dup hx hb dX4_init_29 rfl ?_
  refine cn_call (ws := (.inr (4, [.ref (a + 1), .int 0, .int 0]) :: (.inl (fw_kp X 3, 8, .inr (.inr (.inr (.inr (va_up (va_up (va_up (va_up (va_up (fun _ => none) 0 (some (a + 2))) 1 (some (a + 27))) 2 (some (a + 52))) 3 (some (a + 77))) 4 (some (a + 102))))))) :: ((((([] ++ stB X (a + 2)) ++ stB X (a + 27)) ++ stB X (a + 52)) ++ stB X (a + 77)) ++ stB X (a + 102))))) (As := []) (rest := [.ref (a + 127), .int 5, .ref (a + 1)]) C hN B hz (by simp [grB_len, flB_len, riB_len, goB_len, stB_len]) (cm_X7_init (l := l)) yi_X7_init wm_X4_17 rfl hl.1 rfl (Nat.le_of_ble_eq_true rfl) ⟨(Nat.le_of_ble_eq_true rfl), (Nat.le_of_ble_eq_true rfl)⟩ ⟨(Nat.le_of_ble_eq_true rfl), (Nat.le_of_ble_eq_true rfl)⟩ dX4_init_30 (fun H locs B => ?_)
  have B : cn_H X s a (.inr (4, [.ref (a + 1), .int 0, .int 0]) :: (.inl (fw_kp X 3, 8, .inr (.inr (.inr (.inr (va_up (va_up (va_up (va_up (va_up (fun _ => none) 0 (some (a + 2))) 1 (some (a + 27))) 2 (some (a + 52))) 3 (some (a + 77))) 4 (some (a + 102))))))) :: (((((([] ++ stB X (a + 2)) ++ stB X (a + 27)) ++ stB X (a + 52)) ++ stB X (a + 77)) ++ stB X (a + 102)) ++ stB X (a + 127)))) H locs := B
  refine cn_aast (k := 125) (q := (a + 127)) C B ((nth_app (by simp [grB_len, flB_len, riB_len, goB_len, stB_len])).trans rfl) (by omega) (by decide) dX4_init_33 (fun H locs B => ?_)
  have B : cn_H X s a (.inr (4, [.ref (a + 1), .int 0, .int 0]) :: (.inl (fw_kp X 3, 8, .inr (.inr (.inr (.inr (va_up (va_up (va_up (va_up (va_up (va_up (fun _ => none) 0 (some (a + 2))) 1 (some (a + 27))) 2 (some (a + 52))) 3 (some (a + 77))) 4 (some (a + 102))) 5 (some (a + 127))))))) :: (((((([] ++ stB X (a + 2)) ++ stB X (a + 27)) ++ stB X (a + 52)) ++ stB X (a + 77)) ++ stB X (a + 102)) ++ stB X (a + 127)))) H locs := B
  refine lv_iinc (v := 6) (lv' := [(1, .int 6), (0, .ref a)]) hx hb dX4_init_34 hl (k := 0) rfl (by decide) (by decide) rfl (fun ls hl => ?_)
  refine lv_goto (tgt := 15) hx hb dX4_init_37 (by decide) ?_
  refine lv_iload_n hx hb dX4_init_15 rfl (lv_at hl 0 rfl) ?_
  refine lv_bipush (v := 8) hx hb dX4_init_16 (by decide) ?_
  refine lv_icmp_ge (tgt := 40) hx hb dX4_init_18 (by decide) (fun c1 => absurd c1 (by decide)) (fun c1 => ?_)
  refine lv_aload_n hx hb dX4_init_21 rfl (lv_at hl 1 rfl) ?_
  refine cn_get (j := 0) C B rfl in_X4 (by decide) wf_X4_11 rfl dX4_init_22 ?_
  refine lv_iload_n hx hb dX4_init_25 rfl (lv_at hl 0 rfl) ?_
  refine cn_new (ci := 7) (q := (a + 152)) (fs := [.null, .null, .null, .null, .int 0]) C B rfl in_X7 tyX7 tyX7_ok wq_X4_9 wz_X7 wi_X7 dz_X7 (by simp [grB_len, flB_len, riB_len, goB_len, stB_len]) (Nat.le_of_ble_eq_true rfl) (Nat.le_of_ble_eq_true rfl) dX4_init_26 (fun H B => ?_)
  refine lv_dup hx hb dX4_init_29 rfl ?_
  refine cn_call (ws := (.inr (4, [.ref (a + 1), .int 0, .int 0]) :: (.inl (fw_kp X 3, 8, .inr (.inr (.inr (.inr (va_up (va_up (va_up (va_up (va_up (va_up (fun _ => none) 0 (some (a + 2))) 1 (some (a + 27))) 2 (some (a + 52))) 3 (some (a + 77))) 4 (some (a + 102))) 5 (some (a + 127))))))) :: (((((([] ++ stB X (a + 2)) ++ stB X (a + 27)) ++ stB X (a + 52)) ++ stB X (a + 77)) ++ stB X (a + 102)) ++ stB X (a + 127))))) (As := []) (rest := [.ref (a + 152), .int 6, .ref (a + 1)]) C hN B hz (by simp [grB_len, flB_len, riB_len, goB_len, stB_len]) (cm_X7_init (l := l)) yi_X7_init wm_X4_17 rfl hl.1 rfl (Nat.le_of_ble_eq_true rfl) ⟨(Nat.le_of_ble_eq_true rfl), (Nat.le_of_ble_eq_true rfl)⟩ ⟨(Nat.le_of_ble_eq_true rfl), (Nat.le_of_ble_eq_true rfl)⟩ dX4_init_30 (fun H locs B => ?_)
  have B : cn_H X s a (.inr (4, [.ref (a + 1), .int 0, .int 0]) :: (.inl (fw_kp X 3, 8, .inr (.inr (.inr (.inr (va_up (va_up (va_up (va_up (va_up (va_up (fun _ => none) 0 (some (a + 2))) 1 (some (a + 27))) 2 (some (a + 52))) 3 (some (a + 77))) 4 (some (a + 102))) 5 (some (a + 127))))))) :: ((((((([] ++ stB X (a + 2)) ++ stB X (a + 27)) ++ stB X (a + 52)) ++ stB X (a + 77)) ++ stB X (a + 102)) ++ stB X (a + 127)) ++ stB X (a + 152)))) H locs := B
  refine cn_aast (k := 150) (q := (a + 152)) C B ((nth_app (by simp [grB_len, flB_len, riB_len, goB_len, stB_len])).trans rfl) (by omega) (by decide) dX4_init_33 (fun H locs B => ?_)
  have B : cn_H X s a (.inr (4, [.ref (a + 1), .int 0, .int 0]) :: (.inl (fw_kp X 3, 8, .inr (.inr (.inr (.inr (va_up (va_up (va_up (va_up (va_up (va_up (va_up (fun _ => none) 0 (some (a + 2))) 1 (some (a + 27))) 2 (some (a + 52))) 3 (some (a + 77))) 4 (some (a + 102))) 5 (some (a + 127))) 6 (some (a + 152))))))) :: ((((((([] ++ stB X (a + 2)) ++ stB X (a + 27)) ++ stB X (a + 52)) ++ stB X (a + 77)) ++ stB X (a + 102)) ++ stB X (a + 127)) ++ stB X (a + 152)))) H locs := B
  refine lv_iinc (v := 7) (lv' := [(1, .int 7), (0, .ref a)]) hx hb dX4_init_34 hl (k := 0) rfl (by decide) (by decide) rfl (fun ls hl => ?_)
  refine lv_goto (tgt := 15) hx hb dX4_init_37 (by decide) ?_
  refine lv_iload_n hx hb dX4_init_15 rfl (lv_at hl 0 rfl) ?_
  refine lv_bipush (v := 8) hx hb dX4_init_16 (by decide) ?_
  refine lv_icmp_ge (tgt := 40) hx hb dX4_init_18 (by decide) (fun c1 => absurd c1 (by decide)) (fun c1 => ?_)
  refine lv_aload_n hx hb dX4_init_21 rfl (lv_at hl 1 rfl) ?_
  refine cn_get (j := 0) C B rfl in_X4 (by decide) wf_X4_11 rfl dX4_init_22 ?_
  refine lv_iload_n hx hb dX4_init_25 rfl (lv_at hl 0 rfl) ?_
  refine cn_new (ci := 7) (q := (a + 177)) (fs := [.null, .null, .null, .null, .int 0]) C B rfl in_X7 tyX7 tyX7_ok wq_X4_9 wz_X7 wi_X7 dz_X7 (by simp [grB_len, flB_len, riB_len, goB_len, stB_len]) (Nat.le_of_ble_eq_true rfl) (Nat.le_of_ble_eq_true rfl) dX4_init_26 (fun H B => ?_)
  refine lv_dup hx hb dX4_init_29 rfl ?_
  refine cn_call (ws := (.inr (4, [.ref (a + 1), .int 0, .int 0]) :: (.inl (fw_kp X 3, 8, .inr (.inr (.inr (.inr (va_up (va_up (va_up (va_up (va_up (va_up (va_up (fun _ => none) 0 (some (a + 2))) 1 (some (a + 27))) 2 (some (a + 52))) 3 (some (a + 77))) 4 (some (a + 102))) 5 (some (a + 127))) 6 (some (a + 152))))))) :: ((((((([] ++ stB X (a + 2)) ++ stB X (a + 27)) ++ stB X (a + 52)) ++ stB X (a + 77)) ++ stB X (a + 102)) ++ stB X (a + 127)) ++ stB X (a + 152))))) (As := []) (rest := [.ref (a + 177), .int 7, .ref (a + 1)]) C hN B hz (by simp [grB_len, flB_len, riB_len, goB_len, stB_len]) (cm_X7_init (l := l)) yi_X7_init wm_X4_17 rfl hl.1 rfl (Nat.le_of_ble_eq_true rfl) ⟨(Nat.le_of_ble_eq_true rfl), (Nat.le_of_ble_eq_true rfl)⟩ ⟨(Nat.le_of_ble_eq_true rfl), (Nat.le_of_ble_eq_true rfl)⟩ dX4_init_30 (fun H locs B => ?_)
  have B : cn_H X s a (.inr (4, [.ref (a + 1), .int 0, .int 0]) :: (.inl (fw_kp X 3, 8, .inr (.inr (.inr (.inr (va_up (va_up (va_up (va_up (va_up (va_up (va_up (fun _ => none) 0 (some (a + 2))) 1 (some (a + 27))) 2 (some (a + 52))) 3 (some (a + 77))) 4 (some (a + 102))) 5 (some (a + 127))) 6 (some (a + 152))))))) :: (((((((([] ++ stB X (a + 2)) ++ stB X (a + 27)) ++ stB X (a + 52)) ++ stB X (a + 77)) ++ stB X (a + 102)) ++ stB X (a + 127)) ++ stB X (a + 152)) ++ stB X (a + 177)))) H locs := B
  refine cn_aast (k := 175) (q := (a + 177)) C B ((nth_app (by simp [grB_len, flB_len, riB_len, goB_len, stB_len])).trans rfl) (by omega) (by decide) dX4_init_33 (fun H locs B => ?_)
  have B : cn_H X s a (.inr (4, [.ref (a + 1), .int 0, .int 0]) :: (.inl (fw_kp X 3, 8, .inr (.inr (.inr (.inr (va_up (va_up (va_up (va_up (va_up (va_up (va_up (va_up (fun _ => none) 0 (some (a + 2))) 1 (some (a + 27))) 2 (some (a + 52))) 3 (some (a + 77))) 4 (some (a + 102))) 5 (some (a + 127))) 6 (some (a + 152))) 7 (some (a + 177))))))) :: (((((((([] ++ stB X (a + 2)) ++ stB X (a + 27)) ++ stB X (a + 52)) ++ stB X (a + 77)) ++ stB X (a + 102)) ++ stB X (a + 127)) ++ stB X (a + 152)) ++ stB X (a + 177)))) H locs := B
  refine lv_iinc (v := 8) (lv' := [(1, .int 8), (0, .ref a)]) hx hb dX4_init_34 hl (k := 0) rfl (by decide) (by decide) rfl (fun ls hl => ?_)
  refine lv_goto (tgt := 15) hx hb dX4_init_37 (by decide) ?_
  refine lv_iload_n hx hb dX4_init_15 rfl (lv_at hl 0 rfl) ?_
  refine lv_bipush (v := 8) hx hb dX4_init_16 (by decide) ?_
  refine lv_icmp_ge (tgt := 40) hx hb dX4_init_18 (by decide) (fun c1 => ?_) (fun c1 => absurd (by decide) c1)
  exact cn_ret C B hr hlk (Nat.le_of_ble_eq_true rfl) (Nat.le_of_ble_eq_true rfl) dX4_init_40
def pfB (X : fw_X) (a : Nat) : List va_E := (.inr (5, [.ref (a + 1), .ref (a + 2), .ref (a + 3), .ref (a + 4), .int 0]) :: (((([] ++ [.inl (fw_kp X 0, 10, .inl (fun _ => 0))]) ++ [.inl (fw_kp X 0, 10, .inl (fun _ => 0))]) ++ [.inl (fw_kp X 0, 5, .inl (fun _ => 0))]) ++ [.inl (fw_kp X 0, 5, .inl (fun _ => 0))]))
theorem pfB_len {X : fw_X} {a : Nat} : (pfB X a).length = 5 := by simp [pfB, grB_len, flB_len, riB_len, goB_len, stB_len, hiB_len]
theorem dz_X5 : ∀ j, j < 5 → defaultValue (tyX5 j) = vp_V [.null, .null, .null, .null, .int 0] j := by decide +kernel
set_option maxHeartbeats 4000000 in
set_option maxRecDepth 100000 in
theorem cm_X5_init {l : Launch} {X : fw_X} {a : Nat} : ct_n l X yX5_init cX5_init 1 ({ frames := 1, cells := 4, slots := 30, locals := 40 } : Room) a [.ref a] (.inr (5, [.null, .null, .null, .null, .int 0])) (pfB X a) := by
  refine cn_open rfl (Nat.le_of_ble_eq_true rfl) (fun p e s m below meth c ls C hN hsz hz hr hlk hnm hl B => ?_)
  have C : fr_C X p c cX5_init 1 RX5 s m ([.ref a] : List Value).toArray := C
  have hx := C.1.1
  have hb := C.1.2.1
  obtain ⟨H, hH⟩ : ∃ H, H = s.heap := ⟨_, rfl⟩
  obtain ⟨locs, hL⟩ : ∃ L : List Loc, L = [] := ⟨_, rfl⟩
  rw [← hH, ← hL] at B
  rw [← hH]
  show W p l e ({ frames := 1, cells := 4, slots := 30, locals := 40 } : Room) s m _ below meth c H [] 0 0 _ (F0 m 0 ls [])
  rw [← hL]
  have hl : lv_has ls 1 [(0, .ref a)] := hl
  have B : cn_H X s a (.inr (5, [.null, .null, .null, .null, .int 0]) :: []) H locs := B
  refine lv_aload_n hx hb dX5_init_0 rfl (lv_at hl 0 rfl) ?_
  refine cn_obj C wm_X5_3 wn_obj wc_obj hl.1 (Nat.le_of_ble_eq_true rfl) (Nat.le_of_ble_eq_true rfl) dX5_init_1 ?_
  refine lv_aload_n hx hb dX5_init_4 rfl (lv_at hl 0 rfl) ?_
  refine lv_bipush (v := 10) hx hb dX5_init_5 (by decide) ?_
  refine cn_newa (atype := .int) (k := 0) (q := (a + 1)) (a0 := (10, .inl (fun _ => 0))) C B rfl rfl (fun h => h) wa_i rfl (by decide) rfl (Nat.le_of_ble_eq_true rfl) (by simp [grB_len, flB_len, riB_len, goB_len, stB_len, hiB_len]) (Nat.le_of_ble_eq_true rfl) (Nat.le_of_ble_eq_true rfl) dX5_init_7 (fun H B => ?_)
  have B : cn_H X s a (.inr (5, [.null, .null, .null, .null, .int 0]) :: ([] ++ [.inl (fw_kp X 0, 10, .inl (fun _ => 0))])) H locs := B
  refine cn_put (j := 0) C B rfl in_X5 tyX5 tyX5_ok nmX5 (by decide) wf_X5_9 (fun _ h => h) (Or.inr ⟨hnm, rfl⟩) rfl rfl (by simp) dX5_init_9 (fun H locs B => ?_)
  have B : cn_H X s a (.inr (5, [.ref (a + 1), .null, .null, .null, .int 0]) :: ([] ++ [.inl (fw_kp X 0, 10, .inl (fun _ => 0))])) H locs := B
  refine lv_aload_n hx hb dX5_init_12 rfl (lv_at hl 0 rfl) ?_
  refine lv_bipush (v := 10) hx hb dX5_init_13 (by decide) ?_
  refine cn_newa (atype := .int) (k := 0) (q := (a + 2)) (a0 := (10, .inl (fun _ => 0))) C B rfl rfl (fun h => h) wa_i rfl (by decide) rfl (Nat.le_of_ble_eq_true rfl) (by simp [grB_len, flB_len, riB_len, goB_len, stB_len, hiB_len]) (Nat.le_of_ble_eq_true rfl) (Nat.le_of_ble_eq_true rfl) dX5_init_15 (fun H B => ?_)
  have B : cn_H X s a (.inr (5, [.ref (a + 1), .null, .null, .null, .int 0]) :: (([] ++ [.inl (fw_kp X 0, 10, .inl (fun _ => 0))]) ++ [.inl (fw_kp X 0, 10, .inl (fun _ => 0))])) H locs := B
  refine cn_put (j := 1) C B rfl in_X5 tyX5 tyX5_ok nmX5 (by decide) wf_X5_15 (fun _ h => h) (Or.inr ⟨hnm, rfl⟩) rfl rfl (by simp) dX5_init_17 (fun H locs B => ?_)
  have B : cn_H X s a (.inr (5, [.ref (a + 1), .ref (a + 2), .null, .null, .int 0]) :: (([] ++ [.inl (fw_kp X 0, 10, .inl (fun _ => 0))]) ++ [.inl (fw_kp X 0, 10, .inl (fun _ => 0))])) H locs := B
  refine lv_aload_n hx hb dX5_init_20 rfl (lv_at hl 0 rfl) ?_
  refine lv_iconst (v := 5) hx hb dX5_init_21 (by decide) ?_
  refine cn_newa (atype := .int) (k := 0) (q := (a + 3)) (a0 := (5, .inl (fun _ => 0))) C B rfl rfl (fun h => h) wa_i rfl (by decide) rfl (Nat.le_of_ble_eq_true rfl) (by simp [grB_len, flB_len, riB_len, goB_len, stB_len, hiB_len]) (Nat.le_of_ble_eq_true rfl) (Nat.le_of_ble_eq_true rfl) dX5_init_22 (fun H B => ?_)
  have B : cn_H X s a (.inr (5, [.ref (a + 1), .ref (a + 2), .null, .null, .int 0]) :: ((([] ++ [.inl (fw_kp X 0, 10, .inl (fun _ => 0))]) ++ [.inl (fw_kp X 0, 10, .inl (fun _ => 0))]) ++ [.inl (fw_kp X 0, 5, .inl (fun _ => 0))])) H locs := B
  refine cn_put (j := 2) C B rfl in_X5 tyX5 tyX5_ok nmX5 (by decide) wf_X5_18 (fun _ h => h) (Or.inr ⟨hnm, rfl⟩) rfl rfl (by simp) dX5_init_24 (fun H locs B => ?_)
  have B : cn_H X s a (.inr (5, [.ref (a + 1), .ref (a + 2), .ref (a + 3), .null, .int 0]) :: ((([] ++ [.inl (fw_kp X 0, 10, .inl (fun _ => 0))]) ++ [.inl (fw_kp X 0, 10, .inl (fun _ => 0))]) ++ [.inl (fw_kp X 0, 5, .inl (fun _ => 0))])) H locs := B
  refine lv_aload_n hx hb dX5_init_27 rfl (lv_at hl 0 rfl) ?_
  refine lv_iconst (v := 5) hx hb dX5_init_28 (by decide) ?_
  refine cn_newa (atype := .int) (k := 0) (q := (a + 4)) (a0 := (5, .inl (fun _ => 0))) C B rfl rfl (fun h => h) wa_i rfl (by decide) rfl (Nat.le_of_ble_eq_true rfl) (by simp [grB_len, flB_len, riB_len, goB_len, stB_len, hiB_len]) (Nat.le_of_ble_eq_true rfl) (Nat.le_of_ble_eq_true rfl) dX5_init_29 (fun H B => ?_)
  have B : cn_H X s a (.inr (5, [.ref (a + 1), .ref (a + 2), .ref (a + 3), .null, .int 0]) :: (((([] ++ [.inl (fw_kp X 0, 10, .inl (fun _ => 0))]) ++ [.inl (fw_kp X 0, 10, .inl (fun _ => 0))]) ++ [.inl (fw_kp X 0, 5, .inl (fun _ => 0))]) ++ [.inl (fw_kp X 0, 5, .inl (fun _ => 0))])) H locs := B
  refine cn_put (j := 3) C B rfl in_X5 tyX5 tyX5_ok nmX5 (by decide) wf_X5_21 (fun _ h => h) (Or.inr ⟨hnm, rfl⟩) rfl rfl (by simp) dX5_init_31 (fun H locs B => ?_)
  have B : cn_H X s a (.inr (5, [.ref (a + 1), .ref (a + 2), .ref (a + 3), .ref (a + 4), .int 0]) :: (((([] ++ [.inl (fw_kp X 0, 10, .inl (fun _ => 0))]) ++ [.inl (fw_kp X 0, 10, .inl (fun _ => 0))]) ++ [.inl (fw_kp X 0, 5, .inl (fun _ => 0))]) ++ [.inl (fw_kp X 0, 5, .inl (fun _ => 0))])) H locs := B
  exact cn_ret C B hr hlk (Nat.le_of_ble_eq_true rfl) (Nat.le_of_ble_eq_true rfl) dX5_init_34
def ctB (X : fw_X) (a : Nat) : List va_E := (.inr (0, [.int 0, .ref (a + 1), .int 0, .int 0, .ref (a + 2), .ref (a + 3)]) :: ((([] ++ [.inl (fw_kp X 1, 60, .inl (fun _ => 0))]) ++ [.inl (fw_kp X 0, 12, .inl (fun _ => 0))]) ++ (.inl (fw_kp X 2, 12, .inr (.inr (.inr (.inr (fun j => some ((a + 3) + 1 + j)))))) :: List.replicate 12 (.inl (fw_kp X 0, 3, .inl (fun _ => 0))))))
theorem ctB_len {X : fw_X} {a : Nat} : (ctB X a).length = 16 := by simp [ctB, grB_len, flB_len, riB_len, goB_len, stB_len, hiB_len, pfB_len]
theorem dz_X0 : ∀ j, j < 6 → defaultValue (tyX0 j) = vp_V [.int 0, .null, .int 0, .int 0, .null, .null] j := by decide +kernel
set_option maxHeartbeats 4000000 in
set_option maxRecDepth 100000 in
theorem cm_X0_init {l : Launch} {X : fw_X} {a : Nat} : ct_n l X yX0_init cX0_init 1 ({ frames := 1, cells := 15, slots := 120, locals := 40 } : Room) a [.ref a] (.inr (0, [.int 0, .null, .int 0, .int 0, .null, .null])) (ctB X a) := by
  refine cn_open rfl (Nat.le_of_ble_eq_true rfl) (fun p e s m below meth c ls C hN hsz hz hr hlk hnm hl B => ?_)
  have C : fr_C X p c cX0_init 1 RX0 s m ([.ref a] : List Value).toArray := C
  have hx := C.1.1
  have hb := C.1.2.1
  obtain ⟨H, hH⟩ : ∃ H, H = s.heap := ⟨_, rfl⟩
  obtain ⟨locs, hL⟩ : ∃ L : List Loc, L = [] := ⟨_, rfl⟩
  rw [← hH, ← hL] at B
  rw [← hH]
  show W p l e ({ frames := 1, cells := 15, slots := 120, locals := 40 } : Room) s m _ below meth c H [] 0 0 _ (F0 m 0 ls [])
  rw [← hL]
  have hl : lv_has ls 1 [(0, .ref a)] := hl
  have B : cn_H X s a (.inr (0, [.int 0, .null, .int 0, .int 0, .null, .null]) :: []) H locs := B
  refine lv_aload_n hx hb dX0_init_0 rfl (lv_at hl 0 rfl) ?_
  refine cn_obj C wm_X0_3 wn_obj wc_obj hl.1 (Nat.le_of_ble_eq_true rfl) (Nat.le_of_ble_eq_true rfl) dX0_init_1 ?_
  refine lv_aload_n hx hb dX0_init_4 rfl (lv_at hl 0 rfl) ?_
  refine lv_bipush (v := 60) hx hb dX0_init_5 (by decide) ?_
  refine cn_newa (atype := .char) (k := 1) (q := (a + 1)) (a0 := (60, .inl (fun _ => 0))) C B rfl rfl (fun h => h) wa_c rfl (by decide) rfl (Nat.le_of_ble_eq_true rfl) (by simp [grB_len, flB_len, riB_len, goB_len, stB_len, hiB_len, pfB_len]) (Nat.le_of_ble_eq_true rfl) (Nat.le_of_ble_eq_true rfl) dX0_init_7 (fun H B => ?_)
  have B : cn_H X s a (.inr (0, [.int 0, .null, .int 0, .int 0, .null, .null]) :: ([] ++ [.inl (fw_kp X 1, 60, .inl (fun _ => 0))])) H locs := B
  refine cn_put (j := 1) C B rfl in_X0 tyX0 tyX0_ok nmX0 (by decide) wf_X0_9 (fun _ h => h) (Or.inr ⟨hnm, rfl⟩) rfl rfl (by simp) dX0_init_9 (fun H locs B => ?_)
  have B : cn_H X s a (.inr (0, [.int 0, .ref (a + 1), .int 0, .int 0, .null, .null]) :: ([] ++ [.inl (fw_kp X 1, 60, .inl (fun _ => 0))])) H locs := B
  refine lv_aload_n hx hb dX0_init_12 rfl (lv_at hl 0 rfl) ?_
  refine lv_bipush (v := 12) hx hb dX0_init_13 (by decide) ?_
  refine cn_newa (atype := .int) (k := 0) (q := (a + 2)) (a0 := (12, .inl (fun _ => 0))) C B rfl rfl (fun h => h) wa_i rfl (by decide) rfl (Nat.le_of_ble_eq_true rfl) (by simp [grB_len, flB_len, riB_len, goB_len, stB_len, hiB_len, pfB_len]) (Nat.le_of_ble_eq_true rfl) (Nat.le_of_ble_eq_true rfl) dX0_init_15 (fun H B => ?_)
  have B : cn_H X s a (.inr (0, [.int 0, .ref (a + 1), .int 0, .int 0, .null, .null]) :: (([] ++ [.inl (fw_kp X 1, 60, .inl (fun _ => 0))]) ++ [.inl (fw_kp X 0, 12, .inl (fun _ => 0))])) H locs := B
  refine cn_put (j := 4) C B rfl in_X0 tyX0 tyX0_ok nmX0 (by decide) wf_X0_15 (fun _ h => h) (Or.inr ⟨hnm, rfl⟩) rfl rfl (by simp) dX0_init_17 (fun H locs B => ?_)
  have B : cn_H X s a (.inr (0, [.int 0, .ref (a + 1), .int 0, .int 0, .ref (a + 2), .null]) :: (([] ++ [.inl (fw_kp X 1, 60, .inl (fun _ => 0))]) ++ [.inl (fw_kp X 0, 12, .inl (fun _ => 0))])) H locs := B
  refine lv_aload_n hx hb dX0_init_20 rfl (lv_at hl 0 rfl) ?_
  refine lv_bipush (v := 12) hx hb dX0_init_21 (by decide) ?_
  refine lv_iconst (v := 3) hx hb dX0_init_23 (by decide) ?_
  refine cn_multi (N := 12) (K := 3) (q := (a + 3)) C hN B wq_X0_19 wa_i (by decide) (by decide) rfl rfl (Nat.le_of_ble_eq_true rfl) (Nat.le_of_ble_eq_true rfl) (by simp [grB_len, flB_len, riB_len, goB_len, stB_len, hiB_len, pfB_len]) (Nat.le_of_ble_eq_true rfl) (Nat.le_of_ble_eq_true rfl) dX0_init_24 (fun H locs B => ?_)
  have B : cn_H X s a (.inr (0, [.int 0, .ref (a + 1), .int 0, .int 0, .ref (a + 2), .null]) :: ((([] ++ [.inl (fw_kp X 1, 60, .inl (fun _ => 0))]) ++ [.inl (fw_kp X 0, 12, .inl (fun _ => 0))]) ++ (.inl (fw_kp X 2, 12, .inr (.inr (.inr (.inr (fun j => some ((a + 3) + 1 + j)))))) :: List.replicate 12 (.inl (fw_kp X 0, 3, .inl (fun _ => 0)))))) H locs := B
  refine cn_put (j := 5) C B rfl in_X0 tyX0 tyX0_ok nmX0 (by decide) wf_X0_21 (fun _ h => h) (Or.inr ⟨hnm, rfl⟩) rfl rfl (by simp) dX0_init_28 (fun H locs B => ?_)
  have B : cn_H X s a (.inr (0, [.int 0, .ref (a + 1), .int 0, .int 0, .ref (a + 2), .ref (a + 3)]) :: ((([] ++ [.inl (fw_kp X 1, 60, .inl (fun _ => 0))]) ++ [.inl (fw_kp X 0, 12, .inl (fun _ => 0))]) ++ (.inl (fw_kp X 2, 12, .inr (.inr (.inr (.inr (fun j => some ((a + 3) + 1 + j)))))) :: List.replicate 12 (.inl (fw_kp X 0, 3, .inl (fun _ => 0)))))) H locs := B
  exact cn_ret C B hr hlk (Nat.le_of_ble_eq_true rfl) (Nat.le_of_ble_eq_true rfl) dX0_init_31
def sbB (X : fw_X) (a : Nat) : List va_E := (.inr (10, [.ref (a + 1), .int 0, .int 0, .int 0]) :: ([] ++ [.inl (fw_kp X 4, 16, .inl (fun _ => 0))]))
theorem sbB_len {X : fw_X} {a : Nat} : (sbB X a).length = 2 := by simp [sbB, grB_len, flB_len, riB_len, goB_len, stB_len, hiB_len, pfB_len, ctB_len]
theorem dz_J4 : ∀ j, j < 4 → defaultValue (tyJ4 j) = vp_V [.null, .int 0, .int 0, .int 0] j := by decide +kernel
set_option maxHeartbeats 4000000 in
set_option maxRecDepth 100000 in
theorem cm_J5_init_d00df {l : Launch} {X : fw_X} {a : Nat} : ct_n l X yJ5_init_d00df cJ5_init_d00df 2 ({ frames := 1, cells := 1, slots := 16, locals := 40 } : Room) a [.ref a, .int 16] (.inr (10, [.null, .int 0, .int 0, .int 0])) (sbB X a) := by
  refine cn_open rfl (Nat.le_of_ble_eq_true rfl) (fun p e s m below meth c ls C hN hsz hz hr hlk hnm hl B => ?_)
  have C : fr_C X p c cJ5_init_d00df 2 RJ5 s m ([.ref a, .int 16] : List Value).toArray := C
  have hx := C.1.1
  have hb := C.1.2.1
  obtain ⟨H, hH⟩ : ∃ H, H = s.heap := ⟨_, rfl⟩
  obtain ⟨locs, hL⟩ : ∃ L : List Loc, L = [] := ⟨_, rfl⟩
  rw [← hH, ← hL] at B
  rw [← hH]
  show W p l e ({ frames := 1, cells := 1, slots := 16, locals := 40 } : Room) s m _ below meth c H [] 0 0 _ (F0 m 0 ls [])
  rw [← hL]
  have hl : lv_has ls 2 [(0, .ref a), (1, .int 16)] := hl
  have B : cn_H X s a (.inr (10, [.null, .int 0, .int 0, .int 0]) :: []) H locs := B
  refine lv_aload_n hx hb dJ5_init_d00df_0 rfl (lv_at hl 0 rfl) ?_
  refine cn_obj C wm_J5_3 wn_obj wc_obj hl.1 (Nat.le_of_ble_eq_true rfl) (Nat.le_of_ble_eq_true rfl) dJ5_init_d00df_1 ?_
  refine cn_gets C B hsz hz wf_J5_18 dJ5_init_d00df_4 ?_
  refine lv_if_eq (tgt := 25) hx hb dJ5_init_d00df_7 (by decide) (fun c1 => absurd c1 (by decide)) (fun c1 => ?_)
  refine lv_aload_n hx hb dJ5_init_d00df_10 rfl (lv_at hl 0 rfl) ?_
  refine lv_iload_n hx hb dJ5_init_d00df_11 rfl (lv_at hl 1 rfl) ?_
  refine cn_newa (atype := .byte) (k := 4) (q := (a + 1)) (a0 := (16, .inl (fun _ => 0))) C B rfl rfl (fun h => h) wa_b rfl (by decide) rfl (Nat.le_of_ble_eq_true rfl) (by simp [grB_len, flB_len, riB_len, goB_len, stB_len, hiB_len, pfB_len, ctB_len]) (Nat.le_of_ble_eq_true rfl) (Nat.le_of_ble_eq_true rfl) dJ5_init_d00df_12 (fun H B => ?_)
  have B : cn_H X s a (.inr (10, [.null, .int 0, .int 0, .int 0]) :: ([] ++ [.inl (fw_kp X 4, 16, .inl (fun _ => 0))])) H locs := B
  refine cn_put (j := 0) C B rfl in_J4 tyJ4 tyJ4_ok nmJ4 (by decide) wf_J5_15 (fun _ h => h) (Or.inl rfl) rfl rfl (by simp) dJ5_init_d00df_14 (fun H locs B => ?_)
  have B : cn_H X s a (.inr (10, [.ref (a + 1), .int 0, .int 0, .int 0]) :: ([] ++ [.inl (fw_kp X 4, 16, .inl (fun _ => 0))])) H locs := B
  refine lv_aload_n hx hb dJ5_init_d00df_17 rfl (lv_at hl 0 rfl) ?_
  refine lv_iconst (v := 0) hx hb dJ5_init_d00df_18 (by decide) ?_
  refine cn_put (j := 1) C B rfl in_J4 tyJ4 tyJ4_ok nmJ4 (by decide) wf_J5_22 (fun _ h => h) (Or.inl rfl) rfl rfl (by simp) dJ5_init_d00df_19 (fun H locs B => ?_)
  have B : cn_H X s a (.inr (10, [.ref (a + 1), .int 0, .int 0, .int 0]) :: ([] ++ [.inl (fw_kp X 4, 16, .inl (fun _ => 0))])) H locs := B
  refine lv_goto (tgt := 38) hx hb dJ5_init_d00df_22 (by decide) ?_
  exact cn_ret C B hr hlk (Nat.le_of_ble_eq_true rfl) (Nat.le_of_ble_eq_true rfl) dJ5_init_d00df_38
set_option maxHeartbeats 4000000 in
set_option maxRecDepth 100000 in
theorem cm_J4_init_da8c8 {l : Launch} {X : fw_X} {a : Nat} : ct_n l X yJ4_init_da8c8 cJ4_init_da8c8 1 ({ frames := 2, cells := 1, slots := 16, locals := 61 } : Room) a [.ref a] (.inr (10, [.null, .int 0, .int 0, .int 0])) (sbB X a) := by
  refine cn_open rfl (Nat.le_of_ble_eq_true rfl) (fun p e s m below meth c ls C hN hsz hz hr hlk hnm hl B => ?_)
  have C : fr_C X p c cJ4_init_da8c8 1 RJ4 s m ([.ref a] : List Value).toArray := C
  have hx := C.1.1
  have hb := C.1.2.1
  obtain ⟨H, hH⟩ : ∃ H, H = s.heap := ⟨_, rfl⟩
  obtain ⟨locs, hL⟩ : ∃ L : List Loc, L = [] := ⟨_, rfl⟩
  rw [← hH, ← hL] at B
  rw [← hH]
  show W p l e ({ frames := 2, cells := 1, slots := 16, locals := 61 } : Room) s m _ below meth c H [] 0 0 _ (F0 m 0 ls [])
  rw [← hL]
  have hl : lv_has ls 1 [(0, .ref a)] := hl
  have B : cn_H X s a ([] ++ [.inr (10, [.null, .int 0, .int 0, .int 0])]) H locs := B
  refine lv_aload_n hx hb dJ4_init_da8c8_0 rfl (lv_at hl 0 rfl) ?_
  refine lv_bipush (v := 16) hx hb dJ4_init_da8c8_1 (by decide) ?_
  refine cn_call (ws := []) (As := [.int 16]) (rest := []) C hN B hz (by simp) (cm_J5_init_d00df (l := l)) yi_J5_init_d00df wm_J4_1 rfl hl.1 rfl (Nat.le_of_ble_eq_true rfl) ⟨(Nat.le_of_ble_eq_true rfl), (Nat.le_of_ble_eq_true rfl)⟩ ⟨(Nat.le_of_ble_eq_true rfl), (Nat.le_of_ble_eq_true rfl)⟩ dJ4_init_da8c8_3 (fun H locs B => ?_)
  have B : cn_H X s a (sbB X a) H locs := B
  exact cn_ret C B hr hlk (Nat.le_of_ble_eq_true rfl) (Nat.le_of_ble_eq_true rfl) dJ4_init_da8c8_6
def tnB (X : fw_X) (a : Nat) : List va_E := (.inr (8, [.ref (a + 1), .ref (a + 26), .ref (a + 51), .ref (a + 76), .ref (a + 278), .ref (a + 283), .ref (a + 299), .int 0, .int (-1), .int (-1)]) :: ((((((([] ++ stB X (a + 1)) ++ stB X (a + 26)) ++ stB X (a + 51)) ++ hiB X (a + 76)) ++ pfB X (a + 278)) ++ ctB X (a + 283)) ++ sbB X (a + 299)))
theorem tnB_len {X : fw_X} {a : Nat} : (tnB X a).length = 301 := by simp [tnB, grB_len, flB_len, riB_len, goB_len, stB_len, hiB_len, pfB_len, ctB_len, sbB_len]
theorem dz_X8 : ∀ j, j < 10 → defaultValue (tyX8 j) = vp_V [.null, .null, .null, .null, .null, .null, .null, .int 0, .int 0, .int 0] j := by decide +kernel
set_option maxHeartbeats 4000000 in
set_option maxRecDepth 100000 in
theorem cm_X8_init {l : Launch} {X : fw_X} {a : Nat} : ct_n l X yX8_init cX8_init 1 ({ frames := 4, cells := 300, slots := 1930, locals := 101 } : Room) a [.ref a] (.inr (8, [.null, .null, .null, .null, .null, .null, .null, .int 0, .int 0, .int 0])) (tnB X a) := by
  refine cn_open rfl (Nat.le_of_ble_eq_true rfl) (fun p e s m below meth c ls C hN hsz hz hr hlk hnm hl B => ?_)
  have C : fr_C X p c cX8_init 1 RX8 s m ([.ref a] : List Value).toArray := C
  have hx := C.1.1
  have hb := C.1.2.1
  obtain ⟨H, hH⟩ : ∃ H, H = s.heap := ⟨_, rfl⟩
  obtain ⟨locs, hL⟩ : ∃ L : List Loc, L = [] := ⟨_, rfl⟩
  rw [← hH, ← hL] at B
  rw [← hH]
  show W p l e ({ frames := 4, cells := 300, slots := 1930, locals := 101 } : Room) s m _ below meth c H [] 0 0 _ (F0 m 0 ls [])
  rw [← hL]
  have hl : lv_has ls 1 [(0, .ref a)] := hl
  have B : cn_H X s a (.inr (8, [.null, .null, .null, .null, .null, .null, .null, .int 0, .int 0, .int 0]) :: []) H locs := B
  refine lv_aload_n hx hb dX8_init_0 rfl (lv_at hl 0 rfl) ?_
  refine cn_obj C wm_X8_3 wn_obj wc_obj hl.1 (Nat.le_of_ble_eq_true rfl) (Nat.le_of_ble_eq_true rfl) dX8_init_1 ?_
  refine lv_aload_n hx hb dX8_init_4 rfl (lv_at hl 0 rfl) ?_
  refine cn_new (ci := 7) (q := (a + 1)) (fs := [.null, .null, .null, .null, .int 0]) C B rfl in_X7 tyX7 tyX7_ok wq_X8_9 wz_X7 wi_X7 dz_X7 (by simp [grB_len, flB_len, riB_len, goB_len, stB_len, hiB_len, pfB_len, ctB_len, sbB_len]) (Nat.le_of_ble_eq_true rfl) (Nat.le_of_ble_eq_true rfl) dX8_init_5 (fun H B => ?_)
  refine lv_dup hx hb dX8_init_8 rfl ?_
  refine cn_call (ws := (.inr (8, [.null, .null, .null, .null, .null, .null, .null, .int 0, .int 0, .int 0]) :: [])) (As := []) (rest := [.ref (a + 1), .ref a]) C hN B hz (by simp [grB_len, flB_len, riB_len, goB_len, stB_len, hiB_len, pfB_len, ctB_len, sbB_len]) (cm_X7_init (l := l)) yi_X7_init wm_X8_11 rfl hl.1 rfl (Nat.le_of_ble_eq_true rfl) ⟨(Nat.le_of_ble_eq_true rfl), (Nat.le_of_ble_eq_true rfl)⟩ ⟨(Nat.le_of_ble_eq_true rfl), (Nat.le_of_ble_eq_true rfl)⟩ dX8_init_9 (fun H locs B => ?_)
  have B : cn_H X s a (.inr (8, [.null, .null, .null, .null, .null, .null, .null, .int 0, .int 0, .int 0]) :: ([] ++ stB X (a + 1))) H locs := B
  refine cn_put (j := 0) C B rfl in_X8 tyX8 tyX8_ok nmX8 (by decide) wf_X8_12 (fun _ h => h) (Or.inr ⟨hnm, rfl⟩) rfl rfl (by simp) dX8_init_12 (fun H locs B => ?_)
  have B : cn_H X s a (.inr (8, [.ref (a + 1), .null, .null, .null, .null, .null, .null, .int 0, .int 0, .int 0]) :: ([] ++ stB X (a + 1))) H locs := B
  refine lv_aload_n hx hb dX8_init_15 rfl (lv_at hl 0 rfl) ?_
  refine cn_new (ci := 7) (q := (a + 26)) (fs := [.null, .null, .null, .null, .int 0]) C B rfl in_X7 tyX7 tyX7_ok wq_X8_9 wz_X7 wi_X7 dz_X7 (by simp [grB_len, flB_len, riB_len, goB_len, stB_len, hiB_len, pfB_len, ctB_len, sbB_len]) (Nat.le_of_ble_eq_true rfl) (Nat.le_of_ble_eq_true rfl) dX8_init_16 (fun H B => ?_)
  refine lv_dup hx hb dX8_init_19 rfl ?_
  refine cn_call (ws := (.inr (8, [.ref (a + 1), .null, .null, .null, .null, .null, .null, .int 0, .int 0, .int 0]) :: ([] ++ stB X (a + 1)))) (As := []) (rest := [.ref (a + 26), .ref a]) C hN B hz (by simp [grB_len, flB_len, riB_len, goB_len, stB_len, hiB_len, pfB_len, ctB_len, sbB_len]) (cm_X7_init (l := l)) yi_X7_init wm_X8_11 rfl hl.1 rfl (Nat.le_of_ble_eq_true rfl) ⟨(Nat.le_of_ble_eq_true rfl), (Nat.le_of_ble_eq_true rfl)⟩ ⟨(Nat.le_of_ble_eq_true rfl), (Nat.le_of_ble_eq_true rfl)⟩ dX8_init_20 (fun H locs B => ?_)
  have B : cn_H X s a (.inr (8, [.ref (a + 1), .null, .null, .null, .null, .null, .null, .int 0, .int 0, .int 0]) :: (([] ++ stB X (a + 1)) ++ stB X (a + 26))) H locs := B
  refine cn_put (j := 1) C B rfl in_X8 tyX8 tyX8_ok nmX8 (by decide) wf_X8_16 (fun _ h => h) (Or.inr ⟨hnm, rfl⟩) rfl rfl (by simp) dX8_init_23 (fun H locs B => ?_)
  have B : cn_H X s a (.inr (8, [.ref (a + 1), .ref (a + 26), .null, .null, .null, .null, .null, .int 0, .int 0, .int 0]) :: (([] ++ stB X (a + 1)) ++ stB X (a + 26))) H locs := B
  refine lv_aload_n hx hb dX8_init_26 rfl (lv_at hl 0 rfl) ?_
  refine cn_new (ci := 7) (q := (a + 51)) (fs := [.null, .null, .null, .null, .int 0]) C B rfl in_X7 tyX7 tyX7_ok wq_X8_9 wz_X7 wi_X7 dz_X7 (by simp [grB_len, flB_len, riB_len, goB_len, stB_len, hiB_len, pfB_len, ctB_len, sbB_len]) (Nat.le_of_ble_eq_true rfl) (Nat.le_of_ble_eq_true rfl) dX8_init_27 (fun H B => ?_)
  refine lv_dup hx hb dX8_init_30 rfl ?_
  refine cn_call (ws := (.inr (8, [.ref (a + 1), .ref (a + 26), .null, .null, .null, .null, .null, .int 0, .int 0, .int 0]) :: (([] ++ stB X (a + 1)) ++ stB X (a + 26)))) (As := []) (rest := [.ref (a + 51), .ref a]) C hN B hz (by simp [grB_len, flB_len, riB_len, goB_len, stB_len, hiB_len, pfB_len, ctB_len, sbB_len]) (cm_X7_init (l := l)) yi_X7_init wm_X8_11 rfl hl.1 rfl (Nat.le_of_ble_eq_true rfl) ⟨(Nat.le_of_ble_eq_true rfl), (Nat.le_of_ble_eq_true rfl)⟩ ⟨(Nat.le_of_ble_eq_true rfl), (Nat.le_of_ble_eq_true rfl)⟩ dX8_init_31 (fun H locs B => ?_)
  have B : cn_H X s a (.inr (8, [.ref (a + 1), .ref (a + 26), .null, .null, .null, .null, .null, .int 0, .int 0, .int 0]) :: ((([] ++ stB X (a + 1)) ++ stB X (a + 26)) ++ stB X (a + 51))) H locs := B
  refine cn_put (j := 2) C B rfl in_X8 tyX8 tyX8_ok nmX8 (by decide) wf_X8_19 (fun _ h => h) (Or.inr ⟨hnm, rfl⟩) rfl rfl (by simp) dX8_init_34 (fun H locs B => ?_)
  have B : cn_H X s a (.inr (8, [.ref (a + 1), .ref (a + 26), .ref (a + 51), .null, .null, .null, .null, .int 0, .int 0, .int 0]) :: ((([] ++ stB X (a + 1)) ++ stB X (a + 26)) ++ stB X (a + 51))) H locs := B
  refine lv_aload_n hx hb dX8_init_37 rfl (lv_at hl 0 rfl) ?_
  refine cn_new (ci := 4) (q := (a + 76)) (fs := [.null, .int 0, .int 0]) C B rfl in_X4 tyX4 tyX4_ok wq_X8_22 wz_X4 wi_X4 dz_X4 (by simp [grB_len, flB_len, riB_len, goB_len, stB_len, hiB_len, pfB_len, ctB_len, sbB_len]) (Nat.le_of_ble_eq_true rfl) (Nat.le_of_ble_eq_true rfl) dX8_init_38 (fun H B => ?_)
  refine lv_dup hx hb dX8_init_41 rfl ?_
  refine cn_call (ws := (.inr (8, [.ref (a + 1), .ref (a + 26), .ref (a + 51), .null, .null, .null, .null, .int 0, .int 0, .int 0]) :: ((([] ++ stB X (a + 1)) ++ stB X (a + 26)) ++ stB X (a + 51)))) (As := []) (rest := [.ref (a + 76), .ref a]) C hN B hz (by simp [grB_len, flB_len, riB_len, goB_len, stB_len, hiB_len, pfB_len, ctB_len, sbB_len]) (cm_X4_init (l := l)) yi_X4_init wm_X8_24 rfl hl.1 rfl (Nat.le_of_ble_eq_true rfl) ⟨(Nat.le_of_ble_eq_true rfl), (Nat.le_of_ble_eq_true rfl)⟩ ⟨(Nat.le_of_ble_eq_true rfl), (Nat.le_of_ble_eq_true rfl)⟩ dX8_init_42 (fun H locs B => ?_)
  have B : cn_H X s a (.inr (8, [.ref (a + 1), .ref (a + 26), .ref (a + 51), .null, .null, .null, .null, .int 0, .int 0, .int 0]) :: (((([] ++ stB X (a + 1)) ++ stB X (a + 26)) ++ stB X (a + 51)) ++ hiB X (a + 76))) H locs := B
  refine cn_put (j := 3) C B rfl in_X8 tyX8 tyX8_ok nmX8 (by decide) wf_X8_25 (fun _ h => h) (Or.inr ⟨hnm, rfl⟩) rfl rfl (by simp) dX8_init_45 (fun H locs B => ?_)
  have B : cn_H X s a (.inr (8, [.ref (a + 1), .ref (a + 26), .ref (a + 51), .ref (a + 76), .null, .null, .null, .int 0, .int 0, .int 0]) :: (((([] ++ stB X (a + 1)) ++ stB X (a + 26)) ++ stB X (a + 51)) ++ hiB X (a + 76))) H locs := B
  refine lv_aload_n hx hb dX8_init_48 rfl (lv_at hl 0 rfl) ?_
  refine cn_new (ci := 5) (q := (a + 278)) (fs := [.null, .null, .null, .null, .int 0]) C B rfl in_X5 tyX5 tyX5_ok wq_X8_29 wz_X5 wi_X5 dz_X5 (by simp [grB_len, flB_len, riB_len, goB_len, stB_len, hiB_len, pfB_len, ctB_len, sbB_len]) (Nat.le_of_ble_eq_true rfl) (Nat.le_of_ble_eq_true rfl) dX8_init_49 (fun H B => ?_)
  refine lv_dup hx hb dX8_init_52 rfl ?_
  refine cn_call (ws := (.inr (8, [.ref (a + 1), .ref (a + 26), .ref (a + 51), .ref (a + 76), .null, .null, .null, .int 0, .int 0, .int 0]) :: (((([] ++ stB X (a + 1)) ++ stB X (a + 26)) ++ stB X (a + 51)) ++ hiB X (a + 76)))) (As := []) (rest := [.ref (a + 278), .ref a]) C hN B hz (by simp [grB_len, flB_len, riB_len, goB_len, stB_len, hiB_len, pfB_len, ctB_len, sbB_len]) (cm_X5_init (l := l)) yi_X5_init wm_X8_31 rfl hl.1 rfl (Nat.le_of_ble_eq_true rfl) ⟨(Nat.le_of_ble_eq_true rfl), (Nat.le_of_ble_eq_true rfl)⟩ ⟨(Nat.le_of_ble_eq_true rfl), (Nat.le_of_ble_eq_true rfl)⟩ dX8_init_53 (fun H locs B => ?_)
  have B : cn_H X s a (.inr (8, [.ref (a + 1), .ref (a + 26), .ref (a + 51), .ref (a + 76), .null, .null, .null, .int 0, .int 0, .int 0]) :: ((((([] ++ stB X (a + 1)) ++ stB X (a + 26)) ++ stB X (a + 51)) ++ hiB X (a + 76)) ++ pfB X (a + 278))) H locs := B
  refine cn_put (j := 4) C B rfl in_X8 tyX8 tyX8_ok nmX8 (by decide) wf_X8_32 (fun _ h => h) (Or.inr ⟨hnm, rfl⟩) rfl rfl (by simp) dX8_init_56 (fun H locs B => ?_)
  have B : cn_H X s a (.inr (8, [.ref (a + 1), .ref (a + 26), .ref (a + 51), .ref (a + 76), .ref (a + 278), .null, .null, .int 0, .int 0, .int 0]) :: ((((([] ++ stB X (a + 1)) ++ stB X (a + 26)) ++ stB X (a + 51)) ++ hiB X (a + 76)) ++ pfB X (a + 278))) H locs := B
  refine lv_aload_n hx hb dX8_init_59 rfl (lv_at hl 0 rfl) ?_
  refine cn_new (ci := 0) (q := (a + 283)) (fs := [.int 0, .null, .int 0, .int 0, .null, .null]) C B rfl in_X0 tyX0 tyX0_ok wq_X8_36 wz_X0 wi_X0 dz_X0 (by simp [grB_len, flB_len, riB_len, goB_len, stB_len, hiB_len, pfB_len, ctB_len, sbB_len]) (Nat.le_of_ble_eq_true rfl) (Nat.le_of_ble_eq_true rfl) dX8_init_60 (fun H B => ?_)
  refine lv_dup hx hb dX8_init_63 rfl ?_
  refine cn_call (ws := (.inr (8, [.ref (a + 1), .ref (a + 26), .ref (a + 51), .ref (a + 76), .ref (a + 278), .null, .null, .int 0, .int 0, .int 0]) :: ((((([] ++ stB X (a + 1)) ++ stB X (a + 26)) ++ stB X (a + 51)) ++ hiB X (a + 76)) ++ pfB X (a + 278)))) (As := []) (rest := [.ref (a + 283), .ref a]) C hN B hz (by simp [grB_len, flB_len, riB_len, goB_len, stB_len, hiB_len, pfB_len, ctB_len, sbB_len]) (cm_X0_init (l := l)) yi_X0_init wm_X8_38 rfl hl.1 rfl (Nat.le_of_ble_eq_true rfl) ⟨(Nat.le_of_ble_eq_true rfl), (Nat.le_of_ble_eq_true rfl)⟩ ⟨(Nat.le_of_ble_eq_true rfl), (Nat.le_of_ble_eq_true rfl)⟩ dX8_init_64 (fun H locs B => ?_)
  have B : cn_H X s a (.inr (8, [.ref (a + 1), .ref (a + 26), .ref (a + 51), .ref (a + 76), .ref (a + 278), .null, .null, .int 0, .int 0, .int 0]) :: (((((([] ++ stB X (a + 1)) ++ stB X (a + 26)) ++ stB X (a + 51)) ++ hiB X (a + 76)) ++ pfB X (a + 278)) ++ ctB X (a + 283))) H locs := B
  refine cn_put (j := 5) C B rfl in_X8 tyX8 tyX8_ok nmX8 (by decide) wf_X8_39 (fun _ h => h) (Or.inr ⟨hnm, rfl⟩) rfl rfl (by simp) dX8_init_67 (fun H locs B => ?_)
  have B : cn_H X s a (.inr (8, [.ref (a + 1), .ref (a + 26), .ref (a + 51), .ref (a + 76), .ref (a + 278), .ref (a + 283), .null, .int 0, .int 0, .int 0]) :: (((((([] ++ stB X (a + 1)) ++ stB X (a + 26)) ++ stB X (a + 51)) ++ hiB X (a + 76)) ++ pfB X (a + 278)) ++ ctB X (a + 283))) H locs := B
  refine lv_aload_n hx hb dX8_init_70 rfl (lv_at hl 0 rfl) ?_
  refine cn_new (ci := 10) (q := (a + 299)) (fs := [.null, .int 0, .int 0, .int 0]) C B rfl in_J4 tyJ4 tyJ4_ok wq_X8_43 wz_J4 wi_J4 dz_J4 (by simp [grB_len, flB_len, riB_len, goB_len, stB_len, hiB_len, pfB_len, ctB_len, sbB_len]) (Nat.le_of_ble_eq_true rfl) (Nat.le_of_ble_eq_true rfl) dX8_init_71 (fun H B => ?_)
  refine lv_dup hx hb dX8_init_74 rfl ?_
  refine cn_call (ws := (.inr (8, [.ref (a + 1), .ref (a + 26), .ref (a + 51), .ref (a + 76), .ref (a + 278), .ref (a + 283), .null, .int 0, .int 0, .int 0]) :: (((((([] ++ stB X (a + 1)) ++ stB X (a + 26)) ++ stB X (a + 51)) ++ hiB X (a + 76)) ++ pfB X (a + 278)) ++ ctB X (a + 283)))) (As := []) (rest := [.ref (a + 299), .ref a]) C hN B hz (by simp [grB_len, flB_len, riB_len, goB_len, stB_len, hiB_len, pfB_len, ctB_len, sbB_len]) (cm_J4_init_da8c8 (l := l)) yi_J4_init_da8c8 wm_X8_45 rfl hl.1 rfl (Nat.le_of_ble_eq_true rfl) ⟨(Nat.le_of_ble_eq_true rfl), (Nat.le_of_ble_eq_true rfl)⟩ ⟨(Nat.le_of_ble_eq_true rfl), (Nat.le_of_ble_eq_true rfl)⟩ dX8_init_75 (fun H locs B => ?_)
  have B : cn_H X s a (.inr (8, [.ref (a + 1), .ref (a + 26), .ref (a + 51), .ref (a + 76), .ref (a + 278), .ref (a + 283), .null, .int 0, .int 0, .int 0]) :: ((((((([] ++ stB X (a + 1)) ++ stB X (a + 26)) ++ stB X (a + 51)) ++ hiB X (a + 76)) ++ pfB X (a + 278)) ++ ctB X (a + 283)) ++ sbB X (a + 299))) H locs := B
  refine cn_put (j := 6) C B rfl in_X8 tyX8 tyX8_ok nmX8 (by decide) wf_X8_46 (fun _ h => h) (Or.inr ⟨hnm, rfl⟩) rfl rfl (by simp) dX8_init_78 (fun H locs B => ?_)
  have B : cn_H X s a (.inr (8, [.ref (a + 1), .ref (a + 26), .ref (a + 51), .ref (a + 76), .ref (a + 278), .ref (a + 283), .ref (a + 299), .int 0, .int 0, .int 0]) :: ((((((([] ++ stB X (a + 1)) ++ stB X (a + 26)) ++ stB X (a + 51)) ++ hiB X (a + 76)) ++ pfB X (a + 278)) ++ ctB X (a + 283)) ++ sbB X (a + 299))) H locs := B
  refine lv_aload_n hx hb dX8_init_81 rfl (lv_at hl 0 rfl) ?_
  refine lv_iconst (v := 0) hx hb dX8_init_82 (by decide) ?_
  refine cn_put (j := 7) C B rfl in_X8 tyX8 tyX8_ok nmX8 (by decide) wf_X8_50 (fun _ h => h) (Or.inl rfl) rfl rfl (by simp) dX8_init_83 (fun H locs B => ?_)
  have B : cn_H X s a (.inr (8, [.ref (a + 1), .ref (a + 26), .ref (a + 51), .ref (a + 76), .ref (a + 278), .ref (a + 283), .ref (a + 299), .int 0, .int 0, .int 0]) :: ((((((([] ++ stB X (a + 1)) ++ stB X (a + 26)) ++ stB X (a + 51)) ++ hiB X (a + 76)) ++ pfB X (a + 278)) ++ ctB X (a + 283)) ++ sbB X (a + 299))) H locs := B
  refine lv_aload_n hx hb dX8_init_86 rfl (lv_at hl 0 rfl) ?_
  refine lv_iconst (v := (-1)) hx hb dX8_init_87 (by decide) ?_
  refine cn_put (j := 8) C B rfl in_X8 tyX8 tyX8_ok nmX8 (by decide) wf_X8_54 (fun _ h => h) (Or.inl rfl) rfl rfl (by simp) dX8_init_88 (fun H locs B => ?_)
  have B : cn_H X s a (.inr (8, [.ref (a + 1), .ref (a + 26), .ref (a + 51), .ref (a + 76), .ref (a + 278), .ref (a + 283), .ref (a + 299), .int 0, .int (-1), .int 0]) :: ((((((([] ++ stB X (a + 1)) ++ stB X (a + 26)) ++ stB X (a + 51)) ++ hiB X (a + 76)) ++ pfB X (a + 278)) ++ ctB X (a + 283)) ++ sbB X (a + 299))) H locs := B
  refine lv_aload_n hx hb dX8_init_91 rfl (lv_at hl 0 rfl) ?_
  refine lv_iconst (v := (-1)) hx hb dX8_init_92 (by decide) ?_
  refine cn_put (j := 9) C B rfl in_X8 tyX8 tyX8_ok nmX8 (by decide) wf_X8_58 (fun _ h => h) (Or.inl rfl) rfl rfl (by simp) dX8_init_93 (fun H locs B => ?_)
  have B : cn_H X s a (.inr (8, [.ref (a + 1), .ref (a + 26), .ref (a + 51), .ref (a + 76), .ref (a + 278), .ref (a + 283), .ref (a + 299), .int 0, .int (-1), .int (-1)]) :: ((((((([] ++ stB X (a + 1)) ++ stB X (a + 26)) ++ stB X (a + 51)) ++ hiB X (a + 76)) ++ pfB X (a + 278)) ++ ctB X (a + 283)) ++ sbB X (a + 299))) H locs := B
  exact cn_ret C B hr hlk (Nat.le_of_ble_eq_true rfl) (Nat.le_of_ble_eq_true rfl) dX8_init_96
def mdB (X : fw_X) (a : Nat) : List va_E := (.inr (9, [.ref (a + 1), .ref (a + 2), .ref (a + 3), .int 0, .ref (a + 4), .int 0, .int 0, .ref (a + 5), .int 0, .ref (a + 6), .int 0, .int 0, .int 0, .int (-1), .int (-1), .ref (a + 7), .int 0]) :: ((((((([] ++ [.inl (fw_kp X 0, 129, .inl (fun _ => 0))]) ++ [.inl (fw_kp X 0, 129, .inl (fun _ => 0))]) ++ [.inl (fw_kp X 0, 129, .inl (fun _ => 0))]) ++ [.inl (fw_kp X 0, 1032, .inl (fun _ => 0))]) ++ [.inl (fw_kp X 1, 40, .inl (fun _ => 0))]) ++ [.inl (fw_kp X 1, 60, .inl (fun _ => 0))]) ++ [.inl (fw_kp X 0, 240, .inl (fun _ => 0))]))
theorem mdB_len {X : fw_X} {a : Nat} : (mdB X a).length = 8 := by simp [mdB, grB_len, flB_len, riB_len, goB_len, stB_len, hiB_len, pfB_len, ctB_len, sbB_len, tnB_len]
theorem dz_X9 : ∀ j, j < 17 → defaultValue (tyX9 j) = vp_V [.null, .null, .null, .int 0, .null, .int 0, .int 0, .null, .int 0, .null, .int 0, .int 0, .int 0, .int 0, .int 0, .null, .int 0] j := by decide +kernel
set_option maxHeartbeats 4000000 in
set_option maxRecDepth 100000 in
theorem cm_X9_init {l : Launch} {X : fw_X} {a : Nat} : ct_n l X yX9_init cX9_init 1 ({ frames := 1, cells := 7, slots := 1759, locals := 40 } : Room) a [.ref a] (.inr (9, [.null, .null, .null, .int 0, .null, .int 0, .int 0, .null, .int 0, .null, .int 0, .int 0, .int 0, .int 0, .int 0, .null, .int 0])) (mdB X a) := by
  refine cn_open rfl (Nat.le_of_ble_eq_true rfl) (fun p e s m below meth c ls C hN hsz hz hr hlk hnm hl B => ?_)
  have C : fr_C X p c cX9_init 1 RX9 s m ([.ref a] : List Value).toArray := C
  have hx := C.1.1
  have hb := C.1.2.1
  obtain ⟨H, hH⟩ : ∃ H, H = s.heap := ⟨_, rfl⟩
  obtain ⟨locs, hL⟩ : ∃ L : List Loc, L = [] := ⟨_, rfl⟩
  rw [← hH, ← hL] at B
  rw [← hH]
  show W p l e ({ frames := 1, cells := 7, slots := 1759, locals := 40 } : Room) s m _ below meth c H [] 0 0 _ (F0 m 0 ls [])
  rw [← hL]
  have hl : lv_has ls 1 [(0, .ref a)] := hl
  have B : cn_H X s a (.inr (9, [.null, .null, .null, .int 0, .null, .int 0, .int 0, .null, .int 0, .null, .int 0, .int 0, .int 0, .int 0, .int 0, .null, .int 0]) :: []) H locs := B
  refine lv_aload_n hx hb dX9_init_0 rfl (lv_at hl 0 rfl) ?_
  refine cn_obj C wm_X9_3 wn_obj wc_obj hl.1 (Nat.le_of_ble_eq_true rfl) (Nat.le_of_ble_eq_true rfl) dX9_init_1 ?_
  refine lv_aload_n hx hb dX9_init_4 rfl (lv_at hl 0 rfl) ?_
  refine lv_sipush (v := 129) hx hb dX9_init_5 (by decide) ?_
  refine cn_newa (atype := .int) (k := 0) (q := (a + 1)) (a0 := (129, .inl (fun _ => 0))) C B rfl rfl (fun h => h) wa_i rfl (by decide) rfl (Nat.le_of_ble_eq_true rfl) (by simp [grB_len, flB_len, riB_len, goB_len, stB_len, hiB_len, pfB_len, ctB_len, sbB_len, tnB_len]) (Nat.le_of_ble_eq_true rfl) (Nat.le_of_ble_eq_true rfl) dX9_init_8 (fun H B => ?_)
  have B : cn_H X s a (.inr (9, [.null, .null, .null, .int 0, .null, .int 0, .int 0, .null, .int 0, .null, .int 0, .int 0, .int 0, .int 0, .int 0, .null, .int 0]) :: ([] ++ [.inl (fw_kp X 0, 129, .inl (fun _ => 0))])) H locs := B
  refine cn_put (j := 0) C B rfl in_X9 tyX9 tyX9_ok nmX9 (by decide) wf_X9_9 (fun _ h => h) (Or.inr ⟨hnm, rfl⟩) rfl rfl (by simp) dX9_init_10 (fun H locs B => ?_)
  have B : cn_H X s a (.inr (9, [.ref (a + 1), .null, .null, .int 0, .null, .int 0, .int 0, .null, .int 0, .null, .int 0, .int 0, .int 0, .int 0, .int 0, .null, .int 0]) :: ([] ++ [.inl (fw_kp X 0, 129, .inl (fun _ => 0))])) H locs := B
  refine lv_aload_n hx hb dX9_init_13 rfl (lv_at hl 0 rfl) ?_
  refine lv_sipush (v := 129) hx hb dX9_init_14 (by decide) ?_
  refine cn_newa (atype := .int) (k := 0) (q := (a + 2)) (a0 := (129, .inl (fun _ => 0))) C B rfl rfl (fun h => h) wa_i rfl (by decide) rfl (Nat.le_of_ble_eq_true rfl) (by simp [grB_len, flB_len, riB_len, goB_len, stB_len, hiB_len, pfB_len, ctB_len, sbB_len, tnB_len]) (Nat.le_of_ble_eq_true rfl) (Nat.le_of_ble_eq_true rfl) dX9_init_17 (fun H B => ?_)
  have B : cn_H X s a (.inr (9, [.ref (a + 1), .null, .null, .int 0, .null, .int 0, .int 0, .null, .int 0, .null, .int 0, .int 0, .int 0, .int 0, .int 0, .null, .int 0]) :: (([] ++ [.inl (fw_kp X 0, 129, .inl (fun _ => 0))]) ++ [.inl (fw_kp X 0, 129, .inl (fun _ => 0))])) H locs := B
  refine cn_put (j := 1) C B rfl in_X9 tyX9 tyX9_ok nmX9 (by decide) wf_X9_13 (fun _ h => h) (Or.inr ⟨hnm, rfl⟩) rfl rfl (by simp) dX9_init_19 (fun H locs B => ?_)
  have B : cn_H X s a (.inr (9, [.ref (a + 1), .ref (a + 2), .null, .int 0, .null, .int 0, .int 0, .null, .int 0, .null, .int 0, .int 0, .int 0, .int 0, .int 0, .null, .int 0]) :: (([] ++ [.inl (fw_kp X 0, 129, .inl (fun _ => 0))]) ++ [.inl (fw_kp X 0, 129, .inl (fun _ => 0))])) H locs := B
  refine lv_aload_n hx hb dX9_init_22 rfl (lv_at hl 0 rfl) ?_
  refine lv_sipush (v := 129) hx hb dX9_init_23 (by decide) ?_
  refine cn_newa (atype := .int) (k := 0) (q := (a + 3)) (a0 := (129, .inl (fun _ => 0))) C B rfl rfl (fun h => h) wa_i rfl (by decide) rfl (Nat.le_of_ble_eq_true rfl) (by simp [grB_len, flB_len, riB_len, goB_len, stB_len, hiB_len, pfB_len, ctB_len, sbB_len, tnB_len]) (Nat.le_of_ble_eq_true rfl) (Nat.le_of_ble_eq_true rfl) dX9_init_26 (fun H B => ?_)
  have B : cn_H X s a (.inr (9, [.ref (a + 1), .ref (a + 2), .null, .int 0, .null, .int 0, .int 0, .null, .int 0, .null, .int 0, .int 0, .int 0, .int 0, .int 0, .null, .int 0]) :: ((([] ++ [.inl (fw_kp X 0, 129, .inl (fun _ => 0))]) ++ [.inl (fw_kp X 0, 129, .inl (fun _ => 0))]) ++ [.inl (fw_kp X 0, 129, .inl (fun _ => 0))])) H locs := B
  refine cn_put (j := 2) C B rfl in_X9 tyX9 tyX9_ok nmX9 (by decide) wf_X9_16 (fun _ h => h) (Or.inr ⟨hnm, rfl⟩) rfl rfl (by simp) dX9_init_28 (fun H locs B => ?_)
  have B : cn_H X s a (.inr (9, [.ref (a + 1), .ref (a + 2), .ref (a + 3), .int 0, .null, .int 0, .int 0, .null, .int 0, .null, .int 0, .int 0, .int 0, .int 0, .int 0, .null, .int 0]) :: ((([] ++ [.inl (fw_kp X 0, 129, .inl (fun _ => 0))]) ++ [.inl (fw_kp X 0, 129, .inl (fun _ => 0))]) ++ [.inl (fw_kp X 0, 129, .inl (fun _ => 0))])) H locs := B
  refine lv_aload_n hx hb dX9_init_31 rfl (lv_at hl 0 rfl) ?_
  refine lv_sipush (v := 1032) hx hb dX9_init_32 (by decide) ?_
  refine cn_newa (atype := .int) (k := 0) (q := (a + 4)) (a0 := (1032, .inl (fun _ => 0))) C B rfl rfl (fun h => h) wa_i rfl (by decide) rfl (Nat.le_of_ble_eq_true rfl) (by simp [grB_len, flB_len, riB_len, goB_len, stB_len, hiB_len, pfB_len, ctB_len, sbB_len, tnB_len]) (Nat.le_of_ble_eq_true rfl) (Nat.le_of_ble_eq_true rfl) dX9_init_35 (fun H B => ?_)
  have B : cn_H X s a (.inr (9, [.ref (a + 1), .ref (a + 2), .ref (a + 3), .int 0, .null, .int 0, .int 0, .null, .int 0, .null, .int 0, .int 0, .int 0, .int 0, .int 0, .null, .int 0]) :: (((([] ++ [.inl (fw_kp X 0, 129, .inl (fun _ => 0))]) ++ [.inl (fw_kp X 0, 129, .inl (fun _ => 0))]) ++ [.inl (fw_kp X 0, 129, .inl (fun _ => 0))]) ++ [.inl (fw_kp X 0, 1032, .inl (fun _ => 0))])) H locs := B
  refine cn_put (j := 4) C B rfl in_X9 tyX9 tyX9_ok nmX9 (by decide) wf_X9_19 (fun _ h => h) (Or.inr ⟨hnm, rfl⟩) rfl rfl (by simp) dX9_init_37 (fun H locs B => ?_)
  have B : cn_H X s a (.inr (9, [.ref (a + 1), .ref (a + 2), .ref (a + 3), .int 0, .ref (a + 4), .int 0, .int 0, .null, .int 0, .null, .int 0, .int 0, .int 0, .int 0, .int 0, .null, .int 0]) :: (((([] ++ [.inl (fw_kp X 0, 129, .inl (fun _ => 0))]) ++ [.inl (fw_kp X 0, 129, .inl (fun _ => 0))]) ++ [.inl (fw_kp X 0, 129, .inl (fun _ => 0))]) ++ [.inl (fw_kp X 0, 1032, .inl (fun _ => 0))])) H locs := B
  refine lv_aload_n hx hb dX9_init_40 rfl (lv_at hl 0 rfl) ?_
  refine lv_bipush (v := 40) hx hb dX9_init_41 (by decide) ?_
  refine cn_newa (atype := .char) (k := 1) (q := (a + 5)) (a0 := (40, .inl (fun _ => 0))) C B rfl rfl (fun h => h) wa_c rfl (by decide) rfl (Nat.le_of_ble_eq_true rfl) (by simp [grB_len, flB_len, riB_len, goB_len, stB_len, hiB_len, pfB_len, ctB_len, sbB_len, tnB_len]) (Nat.le_of_ble_eq_true rfl) (Nat.le_of_ble_eq_true rfl) dX9_init_43 (fun H B => ?_)
  have B : cn_H X s a (.inr (9, [.ref (a + 1), .ref (a + 2), .ref (a + 3), .int 0, .ref (a + 4), .int 0, .int 0, .null, .int 0, .null, .int 0, .int 0, .int 0, .int 0, .int 0, .null, .int 0]) :: ((((([] ++ [.inl (fw_kp X 0, 129, .inl (fun _ => 0))]) ++ [.inl (fw_kp X 0, 129, .inl (fun _ => 0))]) ++ [.inl (fw_kp X 0, 129, .inl (fun _ => 0))]) ++ [.inl (fw_kp X 0, 1032, .inl (fun _ => 0))]) ++ [.inl (fw_kp X 1, 40, .inl (fun _ => 0))])) H locs := B
  refine cn_put (j := 7) C B rfl in_X9 tyX9 tyX9_ok nmX9 (by decide) wf_X9_22 (fun _ h => h) (Or.inr ⟨hnm, rfl⟩) rfl rfl (by simp) dX9_init_45 (fun H locs B => ?_)
  have B : cn_H X s a (.inr (9, [.ref (a + 1), .ref (a + 2), .ref (a + 3), .int 0, .ref (a + 4), .int 0, .int 0, .ref (a + 5), .int 0, .null, .int 0, .int 0, .int 0, .int 0, .int 0, .null, .int 0]) :: ((((([] ++ [.inl (fw_kp X 0, 129, .inl (fun _ => 0))]) ++ [.inl (fw_kp X 0, 129, .inl (fun _ => 0))]) ++ [.inl (fw_kp X 0, 129, .inl (fun _ => 0))]) ++ [.inl (fw_kp X 0, 1032, .inl (fun _ => 0))]) ++ [.inl (fw_kp X 1, 40, .inl (fun _ => 0))])) H locs := B
  refine lv_aload_n hx hb dX9_init_48 rfl (lv_at hl 0 rfl) ?_
  refine lv_bipush (v := 60) hx hb dX9_init_49 (by decide) ?_
  refine cn_newa (atype := .char) (k := 1) (q := (a + 6)) (a0 := (60, .inl (fun _ => 0))) C B rfl rfl (fun h => h) wa_c rfl (by decide) rfl (Nat.le_of_ble_eq_true rfl) (by simp [grB_len, flB_len, riB_len, goB_len, stB_len, hiB_len, pfB_len, ctB_len, sbB_len, tnB_len]) (Nat.le_of_ble_eq_true rfl) (Nat.le_of_ble_eq_true rfl) dX9_init_51 (fun H B => ?_)
  have B : cn_H X s a (.inr (9, [.ref (a + 1), .ref (a + 2), .ref (a + 3), .int 0, .ref (a + 4), .int 0, .int 0, .ref (a + 5), .int 0, .null, .int 0, .int 0, .int 0, .int 0, .int 0, .null, .int 0]) :: (((((([] ++ [.inl (fw_kp X 0, 129, .inl (fun _ => 0))]) ++ [.inl (fw_kp X 0, 129, .inl (fun _ => 0))]) ++ [.inl (fw_kp X 0, 129, .inl (fun _ => 0))]) ++ [.inl (fw_kp X 0, 1032, .inl (fun _ => 0))]) ++ [.inl (fw_kp X 1, 40, .inl (fun _ => 0))]) ++ [.inl (fw_kp X 1, 60, .inl (fun _ => 0))])) H locs := B
  refine cn_put (j := 9) C B rfl in_X9 tyX9 tyX9_ok nmX9 (by decide) wf_X9_26 (fun _ h => h) (Or.inr ⟨hnm, rfl⟩) rfl rfl (by simp) dX9_init_53 (fun H locs B => ?_)
  have B : cn_H X s a (.inr (9, [.ref (a + 1), .ref (a + 2), .ref (a + 3), .int 0, .ref (a + 4), .int 0, .int 0, .ref (a + 5), .int 0, .ref (a + 6), .int 0, .int 0, .int 0, .int 0, .int 0, .null, .int 0]) :: (((((([] ++ [.inl (fw_kp X 0, 129, .inl (fun _ => 0))]) ++ [.inl (fw_kp X 0, 129, .inl (fun _ => 0))]) ++ [.inl (fw_kp X 0, 129, .inl (fun _ => 0))]) ++ [.inl (fw_kp X 0, 1032, .inl (fun _ => 0))]) ++ [.inl (fw_kp X 1, 40, .inl (fun _ => 0))]) ++ [.inl (fw_kp X 1, 60, .inl (fun _ => 0))])) H locs := B
  refine lv_aload_n hx hb dX9_init_56 rfl (lv_at hl 0 rfl) ?_
  refine lv_iconst (v := (-1)) hx hb dX9_init_57 (by decide) ?_
  refine cn_put (j := 13) C B rfl in_X9 tyX9 tyX9_ok nmX9 (by decide) wf_X9_29 (fun _ h => h) (Or.inl rfl) rfl rfl (by simp) dX9_init_58 (fun H locs B => ?_)
  have B : cn_H X s a (.inr (9, [.ref (a + 1), .ref (a + 2), .ref (a + 3), .int 0, .ref (a + 4), .int 0, .int 0, .ref (a + 5), .int 0, .ref (a + 6), .int 0, .int 0, .int 0, .int (-1), .int 0, .null, .int 0]) :: (((((([] ++ [.inl (fw_kp X 0, 129, .inl (fun _ => 0))]) ++ [.inl (fw_kp X 0, 129, .inl (fun _ => 0))]) ++ [.inl (fw_kp X 0, 129, .inl (fun _ => 0))]) ++ [.inl (fw_kp X 0, 1032, .inl (fun _ => 0))]) ++ [.inl (fw_kp X 1, 40, .inl (fun _ => 0))]) ++ [.inl (fw_kp X 1, 60, .inl (fun _ => 0))])) H locs := B
  refine lv_aload_n hx hb dX9_init_61 rfl (lv_at hl 0 rfl) ?_
  refine lv_iconst (v := (-1)) hx hb dX9_init_62 (by decide) ?_
  refine cn_put (j := 14) C B rfl in_X9 tyX9 tyX9_ok nmX9 (by decide) wf_X9_33 (fun _ h => h) (Or.inl rfl) rfl rfl (by simp) dX9_init_63 (fun H locs B => ?_)
  have B : cn_H X s a (.inr (9, [.ref (a + 1), .ref (a + 2), .ref (a + 3), .int 0, .ref (a + 4), .int 0, .int 0, .ref (a + 5), .int 0, .ref (a + 6), .int 0, .int 0, .int 0, .int (-1), .int (-1), .null, .int 0]) :: (((((([] ++ [.inl (fw_kp X 0, 129, .inl (fun _ => 0))]) ++ [.inl (fw_kp X 0, 129, .inl (fun _ => 0))]) ++ [.inl (fw_kp X 0, 129, .inl (fun _ => 0))]) ++ [.inl (fw_kp X 0, 1032, .inl (fun _ => 0))]) ++ [.inl (fw_kp X 1, 40, .inl (fun _ => 0))]) ++ [.inl (fw_kp X 1, 60, .inl (fun _ => 0))])) H locs := B
  refine lv_aload_n hx hb dX9_init_66 rfl (lv_at hl 0 rfl) ?_
  refine lv_sipush (v := 240) hx hb dX9_init_67 (by decide) ?_
  refine cn_newa (atype := .int) (k := 0) (q := (a + 7)) (a0 := (240, .inl (fun _ => 0))) C B rfl rfl (fun h => h) wa_i rfl (by decide) rfl (Nat.le_of_ble_eq_true rfl) (by simp [grB_len, flB_len, riB_len, goB_len, stB_len, hiB_len, pfB_len, ctB_len, sbB_len, tnB_len]) (Nat.le_of_ble_eq_true rfl) (Nat.le_of_ble_eq_true rfl) dX9_init_70 (fun H B => ?_)
  have B : cn_H X s a (.inr (9, [.ref (a + 1), .ref (a + 2), .ref (a + 3), .int 0, .ref (a + 4), .int 0, .int 0, .ref (a + 5), .int 0, .ref (a + 6), .int 0, .int 0, .int 0, .int (-1), .int (-1), .null, .int 0]) :: ((((((([] ++ [.inl (fw_kp X 0, 129, .inl (fun _ => 0))]) ++ [.inl (fw_kp X 0, 129, .inl (fun _ => 0))]) ++ [.inl (fw_kp X 0, 129, .inl (fun _ => 0))]) ++ [.inl (fw_kp X 0, 1032, .inl (fun _ => 0))]) ++ [.inl (fw_kp X 1, 40, .inl (fun _ => 0))]) ++ [.inl (fw_kp X 1, 60, .inl (fun _ => 0))]) ++ [.inl (fw_kp X 0, 240, .inl (fun _ => 0))])) H locs := B
  refine cn_put (j := 15) C B rfl in_X9 tyX9 tyX9_ok nmX9 (by decide) wf_X9_36 (fun _ h => h) (Or.inr ⟨hnm, rfl⟩) rfl rfl (by simp) dX9_init_72 (fun H locs B => ?_)
  have B : cn_H X s a (.inr (9, [.ref (a + 1), .ref (a + 2), .ref (a + 3), .int 0, .ref (a + 4), .int 0, .int 0, .ref (a + 5), .int 0, .ref (a + 6), .int 0, .int 0, .int 0, .int (-1), .int (-1), .ref (a + 7), .int 0]) :: ((((((([] ++ [.inl (fw_kp X 0, 129, .inl (fun _ => 0))]) ++ [.inl (fw_kp X 0, 129, .inl (fun _ => 0))]) ++ [.inl (fw_kp X 0, 129, .inl (fun _ => 0))]) ++ [.inl (fw_kp X 0, 1032, .inl (fun _ => 0))]) ++ [.inl (fw_kp X 1, 40, .inl (fun _ => 0))]) ++ [.inl (fw_kp X 1, 60, .inl (fun _ => 0))]) ++ [.inl (fw_kp X 0, 240, .inl (fun _ => 0))])) H locs := B
  exact cn_ret C B hr hlk (Nat.le_of_ble_eq_true rfl) (Nat.le_of_ble_eq_true rfl) dX9_init_75
