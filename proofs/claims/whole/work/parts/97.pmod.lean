/-! the calls that change something -/
theorem ref_0 {M : fw_M} : F_X8_refuse M (nI 0) = some (.inl 0, M) := rfl
theorem ref_f {M : fw_M} {f : Nat} (h : f ≠ 0) (h5 : f ≤ 5) : F_X8_refuse M (nI f) = some (.inr (f - 1), M) := by
  rcases (show f = 1 ∨ f = 2 ∨ f = 3 ∨ f = 4 ∨ f = 5 by omega) with rfl | rfl | rfl | rfl | rfl <;> rfl
section MD
variable {ap doo : fw_M → Option (Int32 × fw_M)} {ans : Int32} {s s1 : Nat → Int32}
theorem core_good {M : fw_M} (hI : Inv M) (hk : ok s) (hR : R M 0 s) (hS : Sm M s) (hk1 : ok s1) (hap : ∀ M, R M 0 s → ∃ M1, ap M = some (ans, M1) ∧ R M1 0 s1 ∧ ∀ k, 32 ≤ k → M1 k = M k) (hdo : ∀ M, Sm M s → M 378 6 = nI 0 → ∃ M1, doo M = some (ans, M1) ∧ Sm M1 s1 ∧ M1 378 6 = nI 0 ∧ md M M1) : ∃ M9 M12, F_X4_remember M 0 = some M9 ∧ ap M9 = some (ans, M12) ∧ ∀ M2, (∀ c, c ≠ 386 → M2 c = M12 c) → ∃ M3 M6, F_X9_keep M2 = some M3 ∧ doo M3 = some (ans, M6) ∧ ∀ a, ∃ M7, F_X9_ends M6 a = some (a, M7) ∧ M7 378 6 = nI 0 ∧ M7 386 0 = M2 386 0 ∧ Inv M7 := by
  obtain ⟨-, hSv, ⟨hist, nh, hn, hHc, hHm, hHk⟩, hTx, hEr, hWr⟩ := hI
  obtain ⟨M9, a1, a2, a3⟩ := rem_ok (Or.inl rfl) hR hk.1.2.2.1.2 hn hHc
  obtain ⟨M12, b1, b2, b3⟩ := hap M9 (hR.cong (fun k _ h => a2 k (by omega) (by omega)))
  refine ⟨M9, M12, a1, b1, fun M2 h2 => ?_⟩
  obtain ⟨M3, h3⟩ : ∃ M3, M3 = fw_cp (fw_up M2 378 6 (nI 0)) 379 380 0 0 129 := ⟨_, rfl⟩
  have c3 : ∀ c, c ≠ 378 → c ≠ 380 → M3 c = M2 c := fun c x y => by rw [h3, cp_n y, up_n1 x]
  have c36 : M3 378 6 = nI 0 := by rw [h3, cp_n (by omega), up_e rfl rfl]
  have c3j : ∀ j, j ≠ 6 → M3 378 j = M2 378 j := fun j hj => by rw [h3, cp_n (by omega), up_n2 hj]
  have c30 : ∀ j, j < 129 → M3 380 j = M2 379 j := fun j hj => by rw [h3, cp_0 rfl hj, up_n1 (by omega)]
  have f2 : ∀ c, 32 ≤ c → c ≠ 353 → ¬ (96 ≤ c ∧ c < 352) → c ≠ 386 → M2 c = M c := fun c x1 x2 x3 x4 => by rw [h2 c x4, b3 c x1, a2 c x3 x2]
  have hS3 : Sm M3 s := fun j hj => by rw [c3 379 (by omega) (by omega), f2 379 (by omega) (by omega) (by omega) (by omega)]; exact hS j hj
  obtain ⟨M6, d1, d2, d3, d4⟩ := hdo M3 hS3 c36
  refine ⟨M3, M6, by rw [h3]; exact keep_ok M2, d1, fun a => ?_⟩
  have hHm6 : Hm M6 hist nh := hHm.cong (by rw [d4.2 5 (by omega), c3j 5 (by omega), f2 378 (by omega) (by omega) (by omega) (by omega)]) (by rw [d4.1 382 (by omega) (by omega), c3 382 (by omega) (by omega), f2 382 (by omega) (by omega) (by omega) (by omega)])
  obtain ⟨M7, e1, e2, e3, e4⟩ := ends_ok (a := a) (s := s) d3 hn hHm6 (fun j hj => by rw [d4.1 380 (by omega) (by omega), c30 j hj, f2 379 (by omega) (by omega) (by omega) (by omega)]; exact hS j hj)
  have g2 : ∀ c, c ≠ 382 → c ≠ 378 → c ≠ 379 → c ≠ 380 → M7 c = M2 c := fun c x1 x2 x3 x4 => by rw [e2 c x1 x2, d4.1 c x3 x2, c3 c x2 x4]
  have g : ∀ c, 32 ≤ c → c ≠ 353 → ¬ (96 ≤ c ∧ c < 352) → c ≠ 386 → c ≠ 382 → c ≠ 378 → c ≠ 379 → c ≠ 380 → M7 c = M c := fun c x1 x2 x3 x4 x5 x6 x7 x8 => by rw [g2 c x5 x6 x7 x8, f2 c x1 x2 x3 x4]
  have g8 : ∀ j, j ≠ 5 → j ≠ 6 → M7 378 j = M 378 j := fun j x1 x2 => by rw [e3 j x1, d4.2 j x2, c3j j x2, f2 378 (by omega) (by omega) (by omega) (by omega)]
  refine ⟨M7, e1, by rw [e3 6 (by omega), d3], by rw [g2 386 (by omega) (by omega) (by omega) (by omega)], ⟨s1, hk1, b2.cong (fun k _ h => by rw [g2 k (by omega) (by omega) (by omega) (by omega), h2 k (by omega)]), fun j hj => by rw [e2 379 (by omega) (by omega)]; exact d2 j hj⟩, ?_, ⟨psh hist nh s, psn nh, psn_le hn, a3.cong ?_ (fun k x1 x2 => ?_), e4, psh_ok hHk hk⟩, ?_, ?_, ?_⟩
  · exact hSv.cong (by rw [g 352 (by omega) (by omega) (by omega) (by omega) (by omega) (by omega) (by omega) (by omega)]) (g8 3 (by omega) (by omega)) (fun k x1 x2 => g k (by omega) (by omega) (by omega) (by omega) (by omega) (by omega) (by omega) (by omega)) (fun j _ => by rw [g 381 (by omega) (by omega) (by omega) (by omega) (by omega) (by omega) (by omega) (by omega)])
  · rw [g2 353 (by omega) (by omega) (by omega) (by omega), h2 353 (by omega), b3 353 (by omega)]
  · rw [g2 k (by omega) (by omega) (by omega) (by omega), h2 k (by omega), b3 k (by omega)]
  · exact hTx.cong (by rw [g 360 (by omega) (by omega) (by omega) (by omega) (by omega) (by omega) (by omega) (by omega)]) (g 361 (by omega) (by omega) (by omega) (by omega) (by omega) (by omega) (by omega) (by omega)) (g8 10 (by omega) (by omega)) (g 384 (by omega) (by omega) (by omega) (by omega) (by omega) (by omega) (by omega) (by omega))
  · exact hEr.cong (by rw [g 352 (by omega) (by omega) (by omega) (by omega) (by omega) (by omega) (by omega) (by omega)]) (by rw [g 352 (by omega) (by omega) (by omega) (by omega) (by omega) (by omega) (by omega) (by omega)]) (g8 13 (by omega) (by omega)) (g8 14 (by omega) (by omega))
  · exact hWr.cong (g 376 (by omega) (by omega) (by omega) (by omega) (by omega) (by omega) (by omega) (by omega)) (g 377 (by omega) (by omega) (by omega) (by omega) (by omega) (by omega) (by omega) (by omega)) (g8 8 (by omega) (by omega)) (g 383 (by omega) (by omega) (by omega) (by omega) (by omega) (by omega) (by omega) (by omega))
theorem core_bad {M : fw_M} {t : Nat} (hI : Inv M) (hS : Sm M s) (ht : 0 < t ∧ t < 5) (hdo : ∀ M, Sm M s → M 378 6 = nI 0 → ∃ M1, doo M = some (nI 0, M1) ∧ M1 378 6 = nI t ∧ md M M1) : ∃ M3 M6, F_X9_keep M = some M3 ∧ doo M3 = some (nI 0, M6) ∧ ∀ a, ∃ M7, F_X9_ends M6 a = some (nI 0, M7) ∧ M7 378 6 = nI t ∧ Inv M7 := by
  obtain ⟨M3, h3⟩ : ∃ M3, M3 = fw_cp (fw_up M 378 6 (nI 0)) 379 380 0 0 129 := ⟨_, rfl⟩
  have c3 : ∀ c, c ≠ 378 → c ≠ 380 → M3 c = M c := fun c x y => by rw [h3, cp_n y, up_n1 x]
  have c36 : M3 378 6 = nI 0 := by rw [h3, cp_n (by omega), up_e rfl rfl]
  have c3j : ∀ j, j ≠ 6 → M3 378 j = M 378 j := fun j hj => by rw [h3, cp_n (by omega), up_n2 hj]
  have c30 : ∀ j, j < 129 → M3 380 j = s j := fun j hj => by rw [h3, cp_0 rfl hj, up_n1 (by omega)]; exact hS j hj
  obtain ⟨M6, d1, d2, d3⟩ := hdo M3 (fun j hj => by rw [c3 379 (by omega) (by omega)]; exact hS j hj) c36
  refine ⟨M3, M6, by rw [h3]; exact keep_ok M, d1, fun a => ?_⟩
  obtain ⟨M7, e1, e2, e3⟩ := ends_no (a := a) (s := s) ht.1 (by omega) d2 (fun j hj => by rw [d3.1 380 (by omega) (by omega)]; exact c30 j hj)
  have g : ∀ c, c ≠ 378 → c ≠ 379 → c ≠ 380 → M7 c = M c := fun c x1 x2 x3 => by rw [e2 c x2, d3.1 c x2 x1, c3 c x1 x3]
  refine ⟨M7, e1, by rw [e2 378 (by omega), d2], hI.sm ⟨fun k x => g k (by omega) (by omega) (by omega), fun k x y => g k (by omega) (by omega) (by omega), fun j hj => by rw [e2 378 (by omega), d3.2 j hj, c3j j hj], fun j hj => (e3 j hj).trans (hS j hj).symm, fun k x y => g k (by omega) (by omega) (by omega)⟩⟩
end MD
theorem mod_l {M : fw_M} (h : Inv M) {es : List Nat} (fa : fw_M → Option Int32) (ap doo : fw_M → Option (Int32 × fw_M)) (hc : ∀ s, ok s → CmdE es s fa ap doo) : ∃ M1, (bd_p (wr_l (bd_x (fa M) fun r2 => bd_t (F_X8_refuse M r2) fun _ M6 => bd_x (F_X4_remember M6 0) fun M9 => bd_p (ap M9) fun r11 M12 => some (.inl r11, M12)) es) fun k1 M2 => bd_p (bd_x (F_X9_keep M2) fun M3 => bd_p (doo M3) fun r5 M6 => bd_p (F_X9_ends M6 r5) fun r8 M9 => some (r8, M9)) fun r5 M6 => bd_x (F_X9_thrown M6) fun r8 => if r8 = k1 then (if k1 = 0 then (if (lg_cmp ((M6 386 0).toInt64) ((r5 : Int32).toInt64)) = 0 then (some M6) else (none)) else (some M6)) else (none)) = some M1 ∧ Inv M1 := by
  have hI := h
  obtain ⟨⟨s, hk, hR, hS⟩, -⟩ := h
  obtain ⟨f, t, ans, s1, ⟨hfa, hf5, hap, hdo, hbad⟩, he⟩ := hc s hk
  rw [hfa M hR, bx_s]
  by_cases hf : f = 0
  · obtain ⟨hk1, hap⟩ := hap hf
    obtain ⟨M9, M12, a1, a2, a3⟩ := core_good hI hk hR hS hk1 hap (hdo hf)
    obtain ⟨M3, M6, b1, b2, b3⟩ := a3 (fw_up M12 386 0 ans) (fun c hc => up_n1 hc)
    obtain ⟨M7, c1, c2, c3, c4⟩ := b3 ans
    rw [hf, ref_0, bt_l, a1, bx_s, a2, bp_s, wl_s, bp_s, b1, bx_s, b2, bp_s, c1, bp_s, bp_s]
    unfold F_X9_thrown
    rw [bx_s, c2, if_pos rfl, if_pos (show nI 0 = 0 from rfl), c3, up_e rfl rfl, if_pos (lc_0 rfl)]
    exact ⟨M7, rfl, c4⟩
  · obtain ⟨ht, ht5, hb⟩ := hbad hf
    obtain ⟨he1, he2⟩ := he hf
    obtain ⟨M3, M6, b1, b2, b3⟩ := core_bad hI hS ⟨ht, ht5⟩ hb
    obtain ⟨M7, c1, c2, c3⟩ := b3 (nI 0)
    have hw : wr_l (some (.inr (f - 1), M)) es = some (nI t, M) := by
      show (if f - 1 ∈ es then some (nI (es.idxOf (f - 1) + 1), M) else none) = _
      rw [if_pos he1, he2]
    rw [ref_f hf hf5, bt_r, hw, bp_s, b1, bx_s, b2, bp_s, c1, bp_s, bp_s]
    unfold F_X9_thrown
    rw [bx_s, c2, if_pos rfl, if_neg (nI_ne0 ht (by omega))]
    exact ⟨M7, rfl, c3⟩
theorem mod_b {M : fw_M} (h : Inv M) {es : List Nat} (fa : fw_M → Option Int32) (ap doo : fw_M → Option (Int32 × fw_M)) (hc : ∀ s, ok s → CmdE es s fa ap doo) (h01 : ∀ M r M1, ap M = some (r, M1) → r = 0 ∨ r = 1) : ∃ M1, (bd_p (wr_b (bd_x (fa M) fun r2 => bd_t (F_X8_refuse M r2) fun _ M6 => bd_x (F_X4_remember M6 0) fun M9 => bd_p (ap M9) fun r11 M12 => if (r11 = 0 ∨ r11 = 1) then some (.inl r11, M12) else none) es) fun k1 M2 => bd_p (bd_x (F_X9_keep M2) fun M3 => bd_p (doo M3) fun r5 M6 => bd_p (F_X9_ends M6 0) fun r8 M9 => if (r5 = 0 ∨ r5 = 1) then some (r5, M9) else none) fun r5 M6 => bd_x (F_X9_thrown M6) fun r8 => if r8 = k1 then (if k1 = 0 then (if r5 = 0 then (if (lg_cmp ((M6 386 0).toInt64) ((0 : Int32).toInt64)) = 0 then (some M6) else (none)) else (if (lg_cmp ((M6 386 0).toInt64) ((1 : Int32).toInt64)) = 0 then (some M6) else (none))) else (some M6)) else (none)) = some M1 ∧ Inv M1 := by
  have hI := h
  obtain ⟨⟨s, hk, hR, hS⟩, -⟩ := h
  obtain ⟨f, t, ans, s1, ⟨hfa, hf5, hap, hdo, hbad⟩, he⟩ := hc s hk
  rw [hfa M hR, bx_s]
  by_cases hf : f = 0
  · obtain ⟨hk1, hap⟩ := hap hf
    obtain ⟨M9, M12, a1, a2, a3⟩ := core_good hI hk hR hS hk1 hap (hdo hf)
    have ha := h01 _ _ _ a2
    obtain ⟨M3, M6, b1, b2, b3⟩ := a3 (fw_up M12 386 0 (if ans = 0 then 0 else 1)) (fun c hc => up_n1 hc)
    obtain ⟨M7, c1, c2, c3, c4⟩ := b3 0
    have hw : wr_b (some (.inl ans, M12)) es = some (0, fw_up M12 386 0 (if ans = 0 then 0 else 1)) := rfl
    rw [hf, ref_0, bt_l, a1, bx_s, a2, bp_s, if_pos ha, hw, bp_s, b1, bx_s, b2, bp_s, c1, bp_s, if_pos ha, bp_s]
    unfold F_X9_thrown
    rw [bx_s, c2, if_pos (show nI 0 = 0 from rfl), if_pos (show (0 : Int32) = 0 from rfl), c3, up_e rfl rfl]
    rcases ha with ha | ha
    · rw [ha, if_pos rfl, if_pos rfl, if_pos (lc_0 rfl)]
      exact ⟨M7, rfl, c4⟩
    · rw [ha, if_neg (show ¬ (1 : Int32) = 0 by decide), if_neg (show ¬ (1 : Int32) = 0 by decide), if_pos (lc_0 rfl)]
      exact ⟨M7, rfl, c4⟩
  · obtain ⟨ht, ht5, hb⟩ := hbad hf
    obtain ⟨he1, he2⟩ := he hf
    obtain ⟨M3, M6, b1, b2, b3⟩ := core_bad hI hS ⟨ht, ht5⟩ hb
    obtain ⟨M7, c1, c2, c3⟩ := b3 0
    have hw : wr_b (some (.inr (f - 1), M)) es = some (nI t, M) := by
      show (if f - 1 ∈ es then some (nI (es.idxOf (f - 1) + 1), M) else none) = _
      rw [if_pos he1, he2]
    rw [ref_f hf hf5, bt_r, hw, bp_s, b1, bx_s, b2, bp_s, c1, bp_s, if_pos (show nI 0 = 0 ∨ nI 0 = 1 from Or.inl rfl), bp_s]
    unfold F_X9_thrown
    rw [bx_s, c2, if_pos rfl, if_neg (nI_ne0 ht (by omega))]
    exact ⟨M7, rfl, c3⟩
theorem q_0 {M : fw_M} (h : Inv M) (xs : Nat → Int32) (i : Int32) : ∃ M1, F_cs_0 M xs i = some M1 ∧ Inv M1 := mod_l h (fun M => F_X7_faultOfStop M 0 _) (fun M => F_X3_putStop M 1 _) (fun M => F_X9_doAddStop M _) (fun s hk => c_stop hk (xs (i + 1).toNatClampNeg))
theorem q_1 {M : fw_M} (h : Inv M) (xs : Nat → Int32) (i : Int32) : ∃ M1, F_cs_1 M xs i = some M1 ∧ Inv M1 := mod_l h (fun M => F_X7_faultOfLine M 0 _ _) (fun M => F_X3_putLine M 1 _ _) (fun M => F_X9_doAddLine M _ _) (fun s hk => c_line hk (xs (i + 1).toNatClampNeg) (xs (i + 2).toNatClampNeg))
theorem q_2 {M : fw_M} (h : Inv M) (xs : Nat → Int32) (i : Int32) : ∃ M1, F_cs_2 M xs i = some M1 ∧ Inv M1 := mod_l h (fun M => F_X7_faultOfExtension M 0 _ _) (fun M => F_X3_appendStop M 1 _ _) (fun M => F_X9_doExtendLine M _ _) (fun s hk => c_ext hk (xs (i + 1).toNatClampNeg) (xs (i + 2).toNatClampNeg))
theorem q_10 {M : fw_M} (h : Inv M) (xs : Nat → Int32) (i : Int32) : ∃ M1, F_cs_10 M xs i = some M1 ∧ Inv M1 := mod_l h (fun M => F_X7_faultOfTram M 0 _) (fun M => F_X1_putTram M 11 _) (fun M => F_X9_doAddTram M _) (fun s hk => c_tram hk (xs (i + 1).toNatClampNeg))
theorem q_21 {M : fw_M} (h : Inv M) (xs : Nat → Int32) (i : Int32) : ∃ M1, F_cs_21 M xs i = some M1 ∧ Inv M1 := mod_l h (fun M => F_X7_faultOfPassenger M 0 _) (fun M => F_X6_putPassenger M 15 _) (fun M => F_X9_doAddPassenger M _) (fun s hk => c_ride hk (xs (i + 1).toNatClampNeg))
theorem q_22 {M : fw_M} (h : Inv M) (xs : Nat → Int32) (i : Int32) : ∃ M1, F_cs_22 M xs i = some M1 ∧ Inv M1 := mod_l h (fun M => F_X7_faultOfTicket M 0 _ _ _) (fun M => F_X6_addToTicket M 15 _ _ _) (fun M => F_X9_doSellTicket M _ _ _) (fun s hk => c_tick hk (xs (i + 1).toNatClampNeg) (xs (i + 2).toNatClampNeg) (xs (i + 3).toNatClampNeg))
theorem q_24 {M : fw_M} (h : Inv M) (xs : Nat → Int32) (i : Int32) : ∃ M1, F_cs_24 M xs i = some M1 ∧ Inv M1 := mod_l h (fun M => F_X7_faultOfAlighting M 0 _) (fun M => F_X7_letAlight M 0 _) (fun M => F_X9_doAlight M _) (fun s hk => c_alig hk (xs (i + 1).toNatClampNeg))
theorem q_32 {M : fw_M} (h : Inv M) (xs : Nat → Int32) (i : Int32) : ∃ M1, F_cs_32 M xs i = some M1 ∧ Inv M1 := mod_l h (fun M => F_X7_faultOfSecret M 0 _) (fun M => F_X2_putSecret M 22 _) (fun M => F_X9_doAddSecret M _) (fun s hk => c_secr hk (xs (i + 1).toNatClampNeg))
theorem q_33 {M : fw_M} (h : Inv M) (xs : Nat → Int32) (i : Int32) : ∃ M1, F_cs_33 M xs i = some M1 ∧ Inv M1 := mod_l h (fun M => F_X7_faultOfWhisper M 0 _ _) (fun M => F_X7_spread M 0 _ _) (fun M => F_X9_doWhisper M _ _) (fun s hk => c_whis hk (xs (i + 1).toNatClampNeg) (xs (i + 2).toNatClampNeg))
theorem lb_01 {M M1 : fw_M} {x3 a b r : Int32} (h : F_X7_letBoard_32 0 a b x3 M = some (r, M1)) : r = 0 ∨ r = 1 := by
  unfold F_X7_letBoard_32 at h
  obtain ⟨-, h⟩ := of_g h
  rw [lx_s, lx_s] at h
  by_cases c : ¬ x3 = 0
  · have h := it_t h c
    cases h
    exact Or.inl rfl
  · have h := it_f h c
    cases h
    exact Or.inr rfl
theorem lb_b {M M1 : fw_M} {a b r : Int32} (h : F_X7_letBoard M 0 a b = some (r, M1)) : r = 0 ∨ r = 1 := by
  unfold F_X7_letBoard at h
  obtain ⟨-, h⟩ := of_g h
  obtain ⟨r7, -, h⟩ := bx_e h
  by_cases c : ¬ r7 = 0
  · exact lb_01 (it_t h c)
  · have h := it_f h c
    obtain ⟨-, h⟩ := of_g h
    exact lb_01 h
theorem q_23 {M : fw_M} (h : Inv M) (xs : Nat → Int32) (i : Int32) : ∃ M1, F_cs_23 M xs i = some M1 ∧ Inv M1 := mod_b h (fun M => F_X7_faultOfBoarding M 0 _ _) (fun M => F_X7_letBoard M 0 _ _) (fun M => F_X9_doBoard M _ _) (fun s hk => c_bord hk (xs (i + 1).toNatClampNeg) (xs (i + 2).toNatClampNeg)) (fun _ _ _ h => lb_b h)
theorem q_11 {M : fw_M} (h : Inv M) (xs : Nat → Int32) (i : Int32) : ∃ M1, F_cs_11 M xs i = some M1 ∧ Inv M1 := by
  have hI := h
  obtain ⟨⟨s, hk, hR, hS⟩, -⟩ := h
  obtain ⟨f, t, ans, s1, ⟨hfa, hf5, hap, hdo, hbad⟩, he⟩ := c_tck hk
  have hf : f = 0 := by
    have := Option.some.inj (hfa M hR)
    refine Decidable.byContradiction (fun hne => nI_ne0 (n := f) (by omega) (by omega) this.symm)
  obtain ⟨hk1, hap⟩ := hap hf
  obtain ⟨M9, M12, a1, a2, a3⟩ := core_good hI hk hR hS hk1 hap (hdo hf)
  obtain ⟨M3, M6, b1, b2, b3⟩ := a3 M12 (fun _ _ => rfl)
  obtain ⟨M7, c1, c2, c3, c4⟩ := b3 ans
  unfold F_cs_11 F_X8_tick F_X9_tick
  rw [a1, bx_s, a2, bp_s, bp_s, b1, bx_s, b2, bp_s, c1, bp_s, bp_s, if_pos rfl]
  exact ⟨M7, rfl, c4⟩
