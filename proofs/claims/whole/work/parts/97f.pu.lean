/-! undo, save, restore, type -/
theorem q_54 {M : fw_M} (h : Inv M) (xs : Nat → Int32) (i : Int32) : ∃ M1, F_cs_54 M xs i = some M1 ∧ Inv M1 := by
  have hI := h
  obtain ⟨⟨s, hk, hR, hS⟩, hSv, ⟨hist, nh, hn, hHc, hHm, hHk⟩, hTx, hEr, hWr⟩ := h
  unfold F_cs_54
  by_cases h0 : nh = 0
  · refine fin_e hI 1 (by omega) sm_0 ?_ (fun M2 h2 => ?_)
    · unfold F_L_undo F_X8_undo
      rw [hHc.1, h0, if_neg (show ¬ ¬ nI 0 = 0 from fun q => q rfl)]
      rfl
    · unfold F_X9_undo F_X9_undo_16
      rw [h2.2.2.1 5 (by omega), hHm.1, h0, if_neg (show ¬ ¬ nI 0 = 0 from fun q => q rfl), lx_s, up_e rfl rfl, if_neg (show ¬ (1 : Int32) ≤ 0 by decide)]
      exact lv_e
  · obtain ⟨A, a1, a2, a3, a4⟩ := tak_ok (by omega) hn hHc (hHk (nh - 1) (by omega)).1.2.2.1.2
    obtain ⟨B, hB⟩ : ∃ B, B = fw_up A 386 0 (nI (nh - 1)) := ⟨_, rfl⟩
    have b2 : ∀ c, 32 ≤ c → c ≠ 353 → c ≠ 386 → B c = M c := fun c x y z => by rw [hB, up_n1 z, a2 c x y]
    obtain ⟨C, hC⟩ : ∃ C, C = fw_cp (fw_up (fw_up B 378 6 0) 378 5 (nI (nh - 1))) 382 379 (129 * (nh - 1)) 0 129 := ⟨_, rfl⟩
    have c2 : ∀ c, c ≠ 378 → c ≠ 379 → C c = B c := fun c x y => by rw [hC, cp_n y, up_n1 x, up_n1 x]
    have c6 : C 378 6 = nI 0 := by rw [hC, cp_n (by omega), up_n2 (by omega), up_e rfl rfl]; rfl
    have c5 : C 378 5 = nI (nh - 1) := by rw [hC, cp_n (by omega), up_e rfl rfl]
    have cj : ∀ j, j ≠ 5 → j ≠ 6 → C 378 j = M 378 j := fun j x y => by rw [hC, cp_n (by omega), up_n2 x, up_n2 y, b2 378 (by omega) (by omega) (by omega)]
    have c9 : ∀ j, j < 129 → C 379 j = hist (nh - 1) j := fun j hj => by
      rw [hC, cp_i rfl (by omega) (by omega), up_n1 (by omega), up_n1 (by omega), b2 382 (by omega) (by omega) (by omega), Nat.sub_zero]
      exact hHm.2 (nh - 1) j (by omega) hj
    have hm : F_X9_undo B = some (nI (nh - 1), C) := by
      have e1 : nI nh - 1 = nI (nh - 1) := pk_sub (a := nh) (b := 1) (by omega)
      have e2 : (129 * nI (nh - 1) : Int32) = nI (129 * (nh - 1)) := pk_mul 129 (nh - 1)
      have e3 : (¬ (nI (129 * (nh - 1))) < 0 ∧ ¬ (0 : Int32) < 0 ∧ ¬ (129 : Int32) < 0 ∧ (nI (129 * (nh - 1)) : Int32).toNatClampNeg + (129 : Int32).toNatClampNeg ≤ 1032 ∧ (0 : Int32).toNatClampNeg + (129 : Int32).toNatClampNeg ≤ 129) := by
        refine ⟨nI_pos (by omega), by decide, by decide, ?_, by decide⟩
        rw [nI_clamp (by omega), show (129 : Int32).toNatClampNeg = 129 by decide]
        omega
      unfold F_X9_undo F_X9_undo_16
      rw [b2 378 (by omega) (by omega) (by omega), hHm.1, if_pos (nI_ne0 (by omega) (by omega)), lx_s, up_e rfl rfl, if_pos (show (0 : Int32) ≤ 0 by decide), up_n2 (by omega), b2 378 (by omega) (by omega) (by omega), hHm.1, e1, lx_s, up_e rfl rfl, e2, if_pos e3, lx_s, nI_clamp (by omega), z_0, show (129 : Int32).toNatClampNeg = 129 by decide, ← hC, c5]
    have hc : F_L_undo M = some (nI 0, B) := by
      unfold F_L_undo F_X8_undo
      rw [hHc.1, if_pos (nI_ne0 (by omega) (by omega)), a1, bx_s, a4.1, wl_s, hB]
    rw [hc, bp_s, hm, bp_s]
    unfold F_X9_thrown
    rw [bx_s, c6, if_pos rfl, if_pos (show nI 0 = 0 from rfl), c2 386 (by omega) (by omega), hB, up_e rfl rfl, if_pos (lc_0 rfl)]
    have g : ∀ c, 32 ≤ c → c ≠ 353 → c ≠ 386 → c ≠ 378 → c ≠ 379 → C c = M c := fun c x1 x2 x3 x4 x5 => by rw [c2 c x4 x5, b2 c x1 x2 x3]
    refine ⟨C, rfl, ⟨hist (nh - 1), hHk (nh - 1) (by omega), a3.cong (fun k _ hk => by rw [c2 k (by omega) (by omega), hB, up_n1 (by omega)]), c9⟩, ?_, ⟨hist, nh - 1, by omega, a4.cong ?_ (fun k x y => ?_), ⟨c5, fun i j hi hj => ?_⟩, fun i hi => hHk i (by omega)⟩, ?_, ?_, ?_⟩
    · exact hSv.cong (by rw [g 352 (by omega) (by omega) (by omega) (by omega) (by omega)]) (cj 3 (by omega) (by omega)) (fun k x y => g k (by omega) (by omega) (by omega) (by omega) (by omega)) (fun j _ => by rw [g 381 (by omega) (by omega) (by omega) (by omega) (by omega)])
    · rw [c2 353 (by omega) (by omega), hB, up_n1 (by omega)]
    · rw [c2 k (by omega) (by omega), hB, up_n1 (by omega)]
    · rw [g 382 (by omega) (by omega) (by omega) (by omega) (by omega)]
      exact hHm.2 i j (by omega) hj
    · exact hTx.cong (by rw [g 360 (by omega) (by omega) (by omega) (by omega) (by omega)]) (g 361 (by omega) (by omega) (by omega) (by omega) (by omega)) (cj 10 (by omega) (by omega)) (g 384 (by omega) (by omega) (by omega) (by omega) (by omega))
    · exact hEr.cong (by rw [g 352 (by omega) (by omega) (by omega) (by omega) (by omega)]) (by rw [g 352 (by omega) (by omega) (by omega) (by omega) (by omega)]) (cj 13 (by omega) (by omega)) (cj 14 (by omega) (by omega))
    · exact hWr.cong (g 376 (by omega) (by omega) (by omega) (by omega) (by omega)) (g 377 (by omega) (by omega) (by omega) (by omega) (by omega)) (cj 8 (by omega) (by omega)) (g 383 (by omega) (by omega) (by omega) (by omega) (by omega))
theorem cp129 : (¬ (0 : Int32) < 0 ∧ ¬ (0 : Int32) < 0 ∧ ¬ (129 : Int32) < 0 ∧ (0 : Int32).toNatClampNeg + (129 : Int32).toNatClampNeg ≤ 129 ∧ (0 : Int32).toNatClampNeg + (129 : Int32).toNatClampNeg ≤ 129) := by decide
theorem z_129 : (129 : Int32).toNatClampNeg = 129 := by decide
theorem q_55 {M : fw_M} (h : Inv M) (xs : Nat → Int32) (i : Int32) : ∃ M1, F_cs_55 M xs i = some M1 ∧ Inv M1 := by
  have hI := h
  obtain ⟨⟨s, hk, hR, hS⟩, hSv, hHi, hTx, hEr, hWr⟩ := h
  have hs2 := hk.1.2.2.1.2
  obtain ⟨A, a1, a2, a3⟩ := cp_S (g := 64) (g1 := 0) (M := M) (by omega)
  have hR64 := a3 s hR hs2
  obtain ⟨⟨-, -, -, r3, -⟩, -⟩ := R0 hR
  obtain ⟨B, hB⟩ : ∃ B, B = fw_up A 352 7 1 := ⟨_, rfl⟩
  have b2 : ∀ c, ¬ (64 ≤ c ∧ c < 96) → c ≠ 352 → B c = M c := fun c x y => by rw [hB, up_n1 y, a2 c (by omega)]
  obtain ⟨C, hC⟩ : ∃ C, C = fw_up (fw_cp (fw_up B 378 6 0) 379 381 0 0 129) 378 3 1 := ⟨_, rfl⟩
  have c2 : ∀ c, c ≠ 378 → c ≠ 381 → C c = B c := fun c x y => by rw [hC, up_n1 x, cp_n y, up_n1 x]
  have cj : ∀ j, j ≠ 3 → j ≠ 6 → C 378 j = M 378 j := fun j x y => by rw [hC, up_n2 x, cp_n (by omega), up_n2 y, b2 378 (by omega) (by omega)]
  have c81 : ∀ j, j < 129 → C 381 j = s j := fun j hj => by rw [hC, up_n1 (by omega), cp_0 rfl hj, up_n1 (by omega), b2 379 (by omega) (by omega)]; exact hS j hj
  have hc : F_X8_save M = some (s 3, B) := by
    unfold F_X8_save
    rw [a1, bx_s, lx_s, ← hB, b2 15 (by omega) (by omega), r3]
  have hm : F_X9_save B = some (s 3, C) := by
    have e : fw_ri C 379 3 = s 3 := by
      show C 379 3 = s 3
      rw [c2 379 (by omega) (by omega), b2 379 (by omega) (by omega)]
      exact hS 3 (by omega)
    unfold F_X9_save
    rw [lx_s, if_pos cp129, lx_s, lx_s, if_pos (show ix_i 3 129 by decide), z_0, z_129, ← hC, e]
  unfold F_cs_55
  rw [hc, bp_s, hm, bp_s, if_pos rfl]
  have g : ∀ c, ¬ (64 ≤ c ∧ c < 96) → c ≠ 352 → c ≠ 378 → c ≠ 381 → C c = M c := fun c x1 x2 x3 x4 => by rw [c2 c x3 x4, b2 c x1 x2]
  have g352 : ∀ j, j ≠ 7 → C 352 j = M 352 j := fun j hj => by rw [c2 352 (by omega) (by omega), hB, up_n2 hj, a2 352 (by omega)]
  refine ⟨C, rfl, ⟨s, hk, hR.cong (fun k _ h => g k (by omega) (by omega) (by omega) (by omega)), fun j hj => by rw [g 379 (by omega) (by omega) (by omega) (by omega)]; exact hS j hj⟩, Or.inr ⟨?_, ?_, s, hR64.cong (fun k x y => by rw [c2 k (by omega) (by omega), hB, up_n1 (by omega)]), c81, hk⟩, ?_, ?_, ?_, ?_⟩
  · rw [c2 352 (by omega) (by omega), hB, up_e rfl rfl]; rfl
  · rw [hC, up_e rfl rfl]; rfl
  · exact hHi.cong (g 353 (by omega) (by omega) (by omega) (by omega)) (fun k x y => g k (by omega) (by omega) (by omega) (by omega)) (cj 5 (by omega) (by omega)) (g 382 (by omega) (by omega) (by omega) (by omega))
  · exact hTx.cong (by rw [g 360 (by omega) (by omega) (by omega) (by omega)]) (g 361 (by omega) (by omega) (by omega) (by omega)) (cj 10 (by omega) (by omega)) (g 384 (by omega) (by omega) (by omega) (by omega))
  · exact hEr.cong (g352 8 (by omega)) (g352 9 (by omega)) (cj 13 (by omega) (by omega)) (cj 14 (by omega) (by omega))
  · exact hWr.cong (g 376 (by omega) (by omega) (by omega) (by omega)) (g 377 (by omega) (by omega) (by omega) (by omega)) (cj 8 (by omega) (by omega)) (g 383 (by omega) (by omega) (by omega) (by omega))
theorem q_56 {M : fw_M} (h : Inv M) (xs : Nat → Int32) (i : Int32) : ∃ M1, F_cs_56 M xs i = some M1 ∧ Inv M1 := by
  have hI := h
  obtain ⟨⟨s0, hk0, hR0, hS0⟩, hSv, ⟨hist, nh, hn, hHc, hHm, hHk⟩, hTx, hEr, hWr⟩ := h
  unfold F_cs_56
  have hSv0 := hSv
  rcases hSv with ⟨v1, v2⟩ | ⟨v1, v2, s, hR, hs, hk⟩
  · refine fin_e hI 1 (by omega) sm_0 ?_ (fun M2 h2 => ?_)
    · unfold F_L_restore F_X8_restore
      rw [v1, if_neg (show ¬ ¬ nI 0 = 0 from fun q => q rfl)]
      rfl
    · unfold F_X9_restore F_X9_restore_16
      rw [h2.2.2.1 3 (by omega), v2, if_pos (show nI 0 = 0 from rfl), lx_s, up_e rfl rfl, if_neg (show ¬ (1 : Int32) ≤ 0 by decide)]
      exact lv_e
  · obtain ⟨A, a1, a2, a3⟩ := cp_S (g := 0) (g1 := 64) (M := M) (by omega)
    have hRA := a3 s hR hk.1.2.2.1.2
    obtain ⟨⟨-, -, -, r3, -⟩, -⟩ := R0 hRA
    obtain ⟨B, hB⟩ : ∃ B, B = fw_up (fw_up A 353 2 0) 386 0 (s 3) := ⟨_, rfl⟩
    have b2 : ∀ c, 32 ≤ c → c ≠ 353 → c ≠ 386 → B c = M c := fun c x y z => by rw [hB, up_n1 z, up_n1 y, a2 c (by omega)]
    obtain ⟨C, hC⟩ : ∃ C, C = fw_up (fw_cp (fw_up B 378 6 0) 381 379 0 0 129) 378 5 0 := ⟨_, rfl⟩
    have c2 : ∀ c, c ≠ 378 → c ≠ 379 → C c = B c := fun c x y => by rw [hC, up_n1 x, cp_n y, up_n1 x]
    have c6 : C 378 6 = nI 0 := by rw [hC, up_n2 (by omega), cp_n (by omega), up_e rfl rfl]; rfl
    have c5 : C 378 5 = nI 0 := by rw [hC, up_e rfl rfl]; rfl
    have cj : ∀ j, j ≠ 5 → j ≠ 6 → C 378 j = M 378 j := fun j x y => by rw [hC, up_n2 x, cp_n (by omega), up_n2 y, b2 378 (by omega) (by omega) (by omega)]
    have c9 : ∀ j, j < 129 → C 379 j = s j := fun j hj => by rw [hC, up_n1 (by omega), cp_0 rfl hj, up_n1 (by omega), b2 381 (by omega) (by omega) (by omega)]; exact hs j hj
    have hc : F_L_restore M = some (nI 0, B) := by
      have e : fw_up A 353 2 0 15 0 = s 3 := by rw [up_n1 (by omega), r3]
      unfold F_L_restore F_X8_restore F_X4_forget
      rw [v1, if_pos (show ¬ nI 1 = 0 by decide), a1, bx_s, lx_s, bx_s, e, wl_s, hB]
    have hm : F_X9_restore B = some (s 3, C) := by
      have e : fw_ri C 379 3 = s 3 := c9 3 (by omega)
      unfold F_X9_restore F_X9_restore_16
      rw [b2 378 (by omega) (by omega) (by omega), v2, if_neg (show ¬ nI 1 = 0 by decide), lx_s, up_e rfl rfl, if_pos (show (0 : Int32) ≤ 0 by decide), if_pos cp129, lx_s, lx_s, if_pos (show ix_i 3 129 by decide), z_0, z_129, ← hC, e]
    rw [hc, bp_s, hm, bp_s]
    unfold F_X9_thrown
    have e386 : C 386 0 = s 3 := by rw [c2 386 (by omega) (by omega), hB, up_e rfl rfl]
    rw [bx_s, c6, if_pos rfl, if_pos (show nI 0 = 0 from rfl), e386, if_pos (lc_0 rfl)]
    have g : ∀ c, 32 ≤ c → c ≠ 353 → c ≠ 386 → c ≠ 378 → c ≠ 379 → C c = M c := fun c x1 x2 x3 x4 x5 => by rw [c2 c x4 x5, b2 c x1 x2 x3]
    obtain ⟨-, o, ho, ho2, -⟩ := hHc
    refine ⟨C, rfl, ⟨s, hk, hRA.cong (fun k _ hk => by rw [c2 k (by omega) (by omega), hB, up_n1 (by omega), up_n1 (by omega)]), c9⟩, ?_, ⟨hist, 0, by omega, ⟨?_, o, ho, ?_, fun i hi => by omega⟩, ⟨c5, fun i j hi => by omega⟩, fun i hi => by omega⟩, ?_, ?_, ?_⟩
    · exact hSv0.cong (by rw [g 352 (by omega) (by omega) (by omega) (by omega) (by omega)]) (cj 3 (by omega) (by omega)) (fun k x y => g k (by omega) (by omega) (by omega) (by omega) (by omega)) (fun j _ => by rw [g 381 (by omega) (by omega) (by omega) (by omega) (by omega)])
    · rw [c2 353 (by omega) (by omega), hB, up_n1 (by omega), up_e rfl rfl]; rfl
    · rw [c2 353 (by omega) (by omega), hB, up_n1 (by omega), up_n2 (by omega), a2 353 (by omega), ho2]
    · exact hTx.cong (by rw [g 360 (by omega) (by omega) (by omega) (by omega) (by omega)]) (g 361 (by omega) (by omega) (by omega) (by omega) (by omega)) (cj 10 (by omega) (by omega)) (g 384 (by omega) (by omega) (by omega) (by omega) (by omega))
    · exact hEr.cong (by rw [g 352 (by omega) (by omega) (by omega) (by omega) (by omega)]) (by rw [g 352 (by omega) (by omega) (by omega) (by omega) (by omega)]) (cj 13 (by omega) (by omega)) (cj 14 (by omega) (by omega))
    · exact hWr.cong (g 376 (by omega) (by omega) (by omega) (by omega) (by omega)) (g 377 (by omega) (by omega) (by omega) (by omega) (by omega)) (cj 8 (by omega) (by omega)) (g 383 (by omega) (by omega) (by omega) (by omega) (by omega))
theorem nc_ch {c : Nat} (h : c < 65536) : fw_nc (nI c) = nI c := by
  unfold fw_nc
  rw [vp_nar_char]
  exact fb_char h
theorem q_50 {M : fw_M} (h : Inv M) (xs : Nat → Int32) (i : Int32) : ∃ M1, F_cs_50 M xs i = some M1 ∧ Inv M1 := by
  have hI := h
  obtain ⟨⟨s, hk, hR, hS⟩, hSv, hHi, ⟨n, hn, t1, t2, t3⟩, hEr, hWr⟩ := h
  unfold F_cs_50
  rw [pk_char]
  obtain ⟨c, hc⟩ : ∃ c, c = (xs (i + 1).toNatClampNeg).toBitVec.toNat % 65536 := ⟨_, rfl⟩
  have hc2 : c < 65536 := by rw [hc]; exact Nat.mod_lt _ (by decide)
  rw [← hc]
  by_cases h1 : 32 ≤ c ∧ c ≤ 126
  · have ein : ∀ M : fw_M, F_X9_in M (nI c) 32 126 = some (nI 1) := fun M => by
      unfold F_X9_in
      rw [if_neg (show ¬ nI c < 32 from nI_nlt (b := 32) (by omega) (by omega)), if_neg (show ¬ (126 : Int32) < nI c from nI_nlt (a := 126) (by omega) (by omega))]
      rfl
    by_cases h2 : n = 60
    · refine fin_e hI 2 (by omega) sm_0 ?_ (fun M2 q => ?_)
      · unfold F_L_type F_X8_type
        rw [if_neg (show ¬ nI c < 32 from nI_nlt (b := 32) (by omega) (by omega)), if_pos (show nI c ≤ 126 from nI_le (b := 126) (by omega) (by omega)), t1, h2, if_neg (show ¬ nI 60 < 60 by decide)]
        rfl
      · unfold F_X9_type F_X9_type_33
        rw [ein, bx_s, if_pos (show ¬ nI 1 = 0 by decide), q.2.2.1 10 (by omega), t2, h2, if_neg (show ¬ ¬ nI 60 = 60 from fun x => x rfl), lx_s, up_e rfl rfl, if_neg (show ¬ (2 : Int32) ≤ 0 by decide)]
        exact lv_e
    · obtain ⟨B, hB⟩ : ∃ B, B = fw_up (fw_up (fw_up M 361 n (nI c)) 360 0 (nI (n + 1))) 386 0 (nI (n + 1)) := ⟨_, rfl⟩
      have b2 : ∀ x, x ≠ 360 → x ≠ 361 → x ≠ 386 → B x = M x := fun x y1 y2 y3 => by rw [hB, up_n1 y3, up_n1 y1, up_n1 y2]
      obtain ⟨C, hC⟩ : ∃ C, C = fw_up (fw_up (fw_up B 378 6 0) 384 n (nI c)) 378 10 (nI (n + 1)) := ⟨_, rfl⟩
      have c2 : ∀ x, x ≠ 378 → x ≠ 384 → C x = B x := fun x y1 y2 => by rw [hC, up_n1 y1, up_n1 y2, up_n1 y1]
      have c6 : C 378 6 = nI 0 := by rw [hC, up_n2 (by omega), up_n1 (by omega), up_e rfl rfl]; rfl
      have c10 : C 378 10 = nI (n + 1) := by rw [hC, up_e rfl rfl]
      have cj : ∀ j, j ≠ 10 → j ≠ 6 → C 378 j = M 378 j := fun j x y => by rw [hC, up_n2 x, up_n1 (by omega), up_n2 y, b2 378 (by omega) (by omega) (by omega)]
      have hcl : F_L_type M (nI c) = some (nI 0, B) := by
        have e1 : fw_up M 361 n (nI c) 360 0 + 1 = nI (n + 1) := by rw [up_n1 (by omega), t1, nI_1]
        have e2 : fw_up (fw_up M 361 n (nI c)) 360 0 (nI (n + 1)) 360 0 = nI (n + 1) := up_e rfl rfl
        unfold F_L_type F_X8_type F_X0_append
        rw [if_neg (show ¬ nI c < 32 from nI_nlt (b := 32) (by omega) (by omega)), if_pos (show nI c ≤ 126 from nI_le (b := 126) (by omega) (by omega)), t1, if_pos (show nI n < 60 from nI_lt (b := 60) (by omega) (by omega)), if_pos (nI_in (by omega) (by omega)), nc_ch hc2, lx_s, fw_wi, nI_clamp (by omega), e1, lx_s, e2, bp_s, wl_s, hB]
      have hm : F_X9_type B (nI c) = some (nI (n + 1), C) := by
        have e0 : B 378 10 = nI n := by rw [b2 378 (by omega) (by omega) (by omega), t2]
        have e1 : fw_up B 378 6 0 378 10 = nI n := by rw [up_n2 (by omega), e0]
        have e2 : fw_up (fw_up B 378 6 0) 384 n (nI c) 378 10 + 1 = nI (n + 1) := by rw [up_n1 (by omega), e1, nI_1]
        unfold F_X9_type F_X9_type_33
        rw [ein, bx_s, if_pos (show ¬ nI 1 = 0 by decide), e0, if_pos (show ¬ nI n = 60 from fun q => h2 (nI_inj (b := 60) (by omega) (by omega) q)), lx_s, up_e rfl rfl, if_pos (show (0 : Int32) ≤ 0 by decide), e1, if_pos (nI_in (by omega) (by omega)), nc_ch hc2, lx_s, fw_wi, nI_clamp (by omega), e2, lx_s, ← hC, c10]
      rw [hcl, bp_s, hm, bp_s]
      unfold F_X9_thrown
      have e386 : C 386 0 = nI (n + 1) := by rw [c2 386 (by omega) (by omega), hB, up_e rfl rfl]
      rw [bx_s, c6, if_pos rfl, if_pos (show nI 0 = 0 from rfl), e386, if_pos (lc_0 rfl)]
      have g : ∀ x, x ≠ 360 → x ≠ 361 → x ≠ 386 → x ≠ 378 → x ≠ 384 → C x = M x := fun x y1 y2 y3 y4 y5 => by rw [c2 x y4 y5, b2 x y1 y2 y3]
      refine ⟨C, rfl, ⟨s, hk, hR.cong (fun k _ h => g k (by omega) (by omega) (by omega) (by omega) (by omega)), fun j hj => by rw [g 379 (by omega) (by omega) (by omega) (by omega) (by omega)]; exact hS j hj⟩, ?_, ?_, ⟨n + 1, by omega, ?_, c10, fun j hj => ?_⟩, ?_, ?_⟩
      · exact hSv.cong (by rw [g 352 (by omega) (by omega) (by omega) (by omega) (by omega)]) (cj 3 (by omega) (by omega)) (fun k x y => g k (by omega) (by omega) (by omega) (by omega) (by omega)) (fun j _ => by rw [g 381 (by omega) (by omega) (by omega) (by omega) (by omega)])
      · exact hHi.cong (g 353 (by omega) (by omega) (by omega) (by omega) (by omega)) (fun k x y => g k (by omega) (by omega) (by omega) (by omega) (by omega)) (cj 5 (by omega) (by omega)) (g 382 (by omega) (by omega) (by omega) (by omega) (by omega))
      · rw [c2 360 (by omega) (by omega), hB, up_n1 (by omega), up_e rfl rfl]
      · by_cases ej : j = n
        · refine ⟨c, h1.1, h1.2, ?_, ?_⟩
          · rw [c2 361 (by omega) (by omega), hB, up_n1 (by omega), up_n1 (by omega), up_e rfl ej]
          · rw [hC, up_n1 (by omega), up_e rfl ej]
        · obtain ⟨c', d1, d2, d3, d4⟩ := t3 j (by omega)
          refine ⟨c', d1, d2, ?_, ?_⟩
          · rw [c2 361 (by omega) (by omega), hB, up_n1 (by omega), up_n1 (by omega), up_n2 ej, d3]
          · rw [hC, up_n1 (by omega), up_n2 ej, up_n1 (by omega), b2 384 (by omega) (by omega) (by omega), d4]
      · exact hEr.cong (by rw [g 352 (by omega) (by omega) (by omega) (by omega) (by omega)]) (by rw [g 352 (by omega) (by omega) (by omega) (by omega) (by omega)]) (cj 13 (by omega) (by omega)) (cj 14 (by omega) (by omega))
      · exact hWr.cong (g 376 (by omega) (by omega) (by omega) (by omega) (by omega)) (g 377 (by omega) (by omega) (by omega) (by omega) (by omega)) (cj 8 (by omega) (by omega)) (g 383 (by omega) (by omega) (by omega) (by omega) (by omega))
  · refine fin_e hI 1 (by omega) sm_0 ?_ (fun M2 q => ?_)
    · unfold F_L_type F_X8_type
      by_cases h2 : c < 32
      · rw [if_pos (show nI c < 32 from nI_lt (b := 32) h2 (by omega))]
        rfl
      · rw [if_neg (show ¬ nI c < 32 from nI_nlt (b := 32) (by omega) (by omega)), if_neg (show ¬ nI c ≤ 126 from nI_ge (a := 126) (by omega) (by omega))]
        rfl
    · have ein : F_X9_in M2 (nI c) 32 126 = some (nI 0) := by
        unfold F_X9_in
        by_cases h2 : c < 32
        · rw [if_pos (show nI c < 32 from nI_lt (b := 32) h2 (by omega))]
          rfl
        · rw [if_neg (show ¬ nI c < 32 from nI_nlt (b := 32) (by omega) (by omega)), if_pos (show (126 : Int32) < nI c from nI_lt (a := 126) (by omega) (by omega))]
          rfl
      unfold F_X9_type F_X9_type_33
      rw [ein, bx_s, if_neg (show ¬ ¬ nI 0 = 0 from fun x => x rfl), lx_s, up_e rfl rfl, if_neg (show ¬ (1 : Int32) ≤ 0 by decide)]
      exact lv_e
