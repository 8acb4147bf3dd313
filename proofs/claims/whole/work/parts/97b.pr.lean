theorem cw_m {M : fw_M} {s : Nat → Int32} (hk : ok s) (hS : Sm M s) (a : Int32) : F_X9_crowd M a = some (nI (cw s a (sv s 3))) := by
  obtain ⟨c3, b3⟩ := hk.1.2.2.2.1
  have hS : ∀ j, j < 129 → M 379 j = s j := hS
  have g3 : fw_ri M 379 3 = nI (sv s 3) := (hS 3 (by omega)).trans c3
  have key : ∀ (r n p : Nat), p + r = sv s 3 → r < n → F_X9_crowd_4 M a n (nI (cw s a p)) (nI p) = some (nI (cw s a (sv s 3))) := by
    intro r
    induction r with
    | zero =>
      intro n p h1 h2
      obtain ⟨n, rfl⟩ : ∃ x, n = x + 1 := ⟨n - 1, by omega⟩
      obtain rfl : p = sv s 3 := by omega
      rw [F_X9_crowd_4, if_pos (show ix_i 3 129 by decide), g3, if_pos (nI_le (by omega) (by omega))]
    | succ r ih =>
      intro n p h1 h2
      obtain ⟨n, rfl⟩ : ∃ x, n = x + 1 := ⟨n - 1, by omega⟩
      have g : F_X9_ofPassenger M (nI p) 1 = some (s (69 + 6 * p + 1)) := by
        unfold F_X9_ofPassenger
        simp (disch := omega) only [ix_i, ↓pn_m, pn_l0, pn_l1, pn_l2, pn_l3, pn_l4, pn_l5, pn_l6, pn_l7, pn_l8, pn_l9, pn_l10, pn_l11, pn_l12, pn_l16, pn_l18, pn_l20, pn_l31, pn_l32, pn_l40, pn_l45, pn_l48, pn_l51, pn_l57, pn_l59, pn_l60, pn_l62, pn_l64, pn_l69, pn_l97, pn_l98, pn_l99, pn_l100, pn_l101, pn_l105, pn_l107, pn_l108, pn_l114, pn_l115, pn_l116, pn_l117, pn_l119, pn_l126, pn_l129, pn_l240, pn_l903, pn_l1032, nI_add, pk_mul, pk_sub, nI_clamp, nI_leI, nI_ltI, nI_eq, pm_1, pm_2, pm_3, pm_4, pm_5, pm_6, pm_7, pm_8, pn_lt, pn_nlt, pn_le, pn_nle, pn_ne, pn_eq, not_true_eq_false, not_false_eq_true, true_and, and_true, false_and, and_false, true_or, or_true, false_or, or_false, or_self, and_self, ne_eq, reduceIte, if_true, if_false, Nat.add_zero, Nat.zero_add, Nat.mul_zero, Nat.reduceAdd, Nat.reduceMul, fw_wi, fw_ri, up_e, up_n1, up_n2, cp_n, bx_s, bp_s, bt_l, bt_r, lx_s, hS]
      have ih := ih n (p + 1) (by omega) (by omega)
      rw [F_X9_crowd_4, if_pos (show ix_i 3 129 by decide), g3, if_neg (nI_ge (by omega) (by omega)), g, bx_s, nI_1, nI_1, show nI (cw s a p) + 0 = nI (cw s a p) from nI_add _ 0]
      by_cases e : s (69 + 6 * p + 1) = a
      · rw [if_neg (show ¬ ¬ s (69 + 6 * p + 1) = a from fun q => q e)]
        rw [show cw s a (p + 1) = cw s a p + 1 by unfold cw; rw [fb_ct_succ, if_pos (decide_eq_true e)]] at ih
        exact ih
      · rw [if_pos (show ¬ s (69 + 6 * p + 1) = a from e)]
        rw [show cw s a (p + 1) = cw s a p by unfold cw; rw [fb_ct_succ, if_neg (by rw [decide_eq_true_iff]; exact e), Nat.add_zero]] at ih
        exact ih
  exact key (sv s 3) 64 0 (by omega) (by omega)
theorem cw_le {s : Nat → Int32} {a : Int32} {n : Nat} : cw s a n ≤ n := fb_ct_le _ n
theorem q_17 {M : fw_M} (h : Inv M) (xs : Nat → Int32) (i : Int32) : ∃ M1, F_cs_17 M xs i = some M1 ∧ Inv M1 := by
  have hI := h
  obtain ⟨⟨s, hk, hR, hS⟩, -⟩ := h
  have hk0 := hk
  obtain ⟨⟨⟨c0, b0⟩, ⟨c1, b1⟩, ⟨c2, b2⟩, ⟨c3, b3⟩, c4, b4⟩, oz, ol, os, od, ot, op, oq⟩ := hk
  obtain ⟨⟨r0, r1, r2, -⟩, -⟩ := R0 hR
  unfold F_cs_17
  generalize xs (i + 1).toNatClampNeg = a
  rcases px_o a (n := sv s 2) (by omega) with ⟨k, hkk, rfl⟩ | ho
  · refine fin_l hI (nI (cw s (nI k) (sv s 3))) sm_0 ?_ (fun M2 h2 => ?_)
    · unfold F_L_crowdOf F_X8_crowdOf
      rw [rt_Tram hkk (by omega) (r2.trans c2), bt_l, cw_c hk0 hR, bx_s, wl_s]
    · have hS2 := hS.sm h2
      unfold F_X9_crowdOf
      rw [it_Tram hkk (by omega) ((hS2 2 (by omega)).trans c2), bx_s, th_1, bp_s, if_neg (show ¬ nI 1 = 0 by decide), cw_m hk0 (hS2.u (by omega)), bx_s]
      exact lv_0
  · refine fin_e hI 1 (by omega) sm_0 ?_ (fun M2 h2 => ?_)
    · unfold F_L_crowdOf F_X8_crowdOf
      rw [rq_Tram ho (r2.trans c2)]
      rfl
    · unfold F_X9_crowdOf
      rw [is_Tram ho (by omega) (((hS.sm h2) 2 (by omega)).trans c2), bx_s, th_0, bp_s, if_pos (show nI 0 = 0 from rfl)]
      exact lv_e
def fu (s : Nat → Int32) : Nat → Nat → Nat → Nat
  | 0, b, _ => b
  | r + 1, b, t => fu s r (if cw s (nI t) (sv s 3) ≤ cw s (nI b) (sv s 3) then b else t) (t + 1)
theorem fu_c {M : fw_M} {s : Nat → Int32} (hk : ok s) (hR : R M 0 s) : ∀ (r n b t : Nat), t + r = sv s 2 → r < n → F_X8_fullestTram_27 M n (nI b) (nI t) = some (.inl (nI (fu s r b t)), M) := by
  obtain ⟨c2, b2⟩ := hk.1.2.2.1
  have b3 := hk.1.2.2.2.1.2
  obtain ⟨⟨r0, r1, r2, -⟩, -⟩ := R0 hR
  intro r
  induction r with
  | zero =>
    intro n b t h1 h2
    obtain ⟨n, rfl⟩ : ∃ x, n = x + 1 := ⟨n - 1, by omega⟩
    rw [F_X8_fullestTram_27, r2, c2, if_pos (nI_le (by omega) (by omega)), fu]
  | succ r ih =>
    intro n b t h1 h2
    obtain ⟨n, rfl⟩ : ∃ x, n = x + 1 := ⟨n - 1, by omega⟩
    have l1 := cw_le (s := s) (a := nI t) (n := sv s 3)
    have l2 := cw_le (s := s) (a := nI b) (n := sv s 3)
    rw [F_X8_fullestTram_27, r2, c2, if_neg (nI_ge (by omega) (by omega)), cw_c hk hR, bx_s, cw_c hk hR, bx_s, nI_1, fu]
    by_cases e : cw s (nI t) (sv s 3) ≤ cw s (nI b) (sv s 3)
    · rw [if_pos (nI_le e (by omega)), if_pos e]
      exact ih n b (t + 1) (by omega) (by omega)
    · rw [if_neg (nI_ge (by omega) (by omega)), if_neg e]
      exact ih n t (t + 1) (by omega) (by omega)
theorem fu_m {M : fw_M} {s : Nat → Int32} (hk : ok s) (hS : Sm M s) : ∀ (r n b t : Nat), t + r = sv s 2 → r < n → F_X9_fullestTram_22 n (nI b) (nI t) M = some (nI (fu s r b t), M) := by
  obtain ⟨c2, b2⟩ := hk.1.2.2.1
  have b3 := hk.1.2.2.2.1.2
  have g2 : fw_ri M 379 2 = nI (sv s 2) := (hS 2 (by omega)).trans c2
  intro r
  induction r with
  | zero =>
    intro n b t h1 h2
    obtain ⟨n, rfl⟩ : ∃ x, n = x + 1 := ⟨n - 1, by omega⟩
    rw [F_X9_fullestTram_22, if_pos (show ix_i 2 129 by decide), g2, if_pos (nI_le (by omega) (by omega)), fu]
  | succ r ih =>
    intro n b t h1 h2
    obtain ⟨n, rfl⟩ : ∃ x, n = x + 1 := ⟨n - 1, by omega⟩
    have l1 := cw_le (s := s) (a := nI t) (n := sv s 3)
    have l2 := cw_le (s := s) (a := nI b) (n := sv s 3)
    rw [F_X9_fullestTram_22, if_pos (show ix_i 2 129 by decide), g2, if_neg (nI_ge (by omega) (by omega)), cw_m hk hS, bx_s, cw_m hk hS, bx_s, nI_1, fu]
    by_cases e : cw s (nI t) (sv s 3) ≤ cw s (nI b) (sv s 3)
    · rw [if_pos (nI_le e (by omega)), if_pos e]
      exact ih n b (t + 1) (by omega) (by omega)
    · rw [if_neg (nI_ge (by omega) (by omega)), if_neg e]
      exact ih n t (t + 1) (by omega) (by omega)
theorem q_18 {M : fw_M} (h : Inv M) (xs : Nat → Int32) (i : Int32) : ∃ M1, F_cs_18 M xs i = some M1 ∧ Inv M1 := by
  have hI := h
  obtain ⟨⟨s, hk, hR, hS⟩, -⟩ := h
  have hk0 := hk
  obtain ⟨⟨⟨c0, b0⟩, ⟨c1, b1⟩, ⟨c2, b2⟩, ⟨c3, b3⟩, c4, b4⟩, oz, ol, os, od, ot, op, oq⟩ := hk
  obtain ⟨⟨r0, r1, r2, -⟩, -⟩ := R0 hR
  unfold F_cs_18
  by_cases h0 : sv s 2 = 0
  · refine fin_e hI 1 (by omega) sm_0 ?_ (fun M2 h2 => ?_)
    · unfold F_L_fullestTram F_X8_fullestTram
      rw [r2, c2, h0]
      rfl
    · have hS2 := hS.sm h2
      have g2 : fw_ri M2 379 2 = nI 0 := by rw [← h0]; exact (hS2 2 (by omega)).trans c2
      have g3 : fw_ri (fw_up M2 378 6 1) 379 2 = nI 0 := by rw [← g2]; exact congrFun (up_n1 (by omega)) _
      unfold F_X9_fullestTram
      rw [if_pos (show ix_i 2 129 by decide), g2, if_neg (show ¬ ¬ nI 0 = 0 from fun q => q rfl), lx_s, F_X9_fullestTram_22, if_pos (show ix_i 2 129 by decide), g3, if_pos (show nI 0 ≤ 1 by decide)]
      exact lv_e
  · refine fin_l hI (nI (fu s (sv s 2 - 1) 0 1)) sm_0 ?_ (fun M2 h2 => ?_)
    · unfold F_L_fullestTram F_X8_fullestTram
      rw [r2, c2, if_pos (nI_ne0 (by omega) (by omega))]
      have := fu_c hk0 hR (sv s 2 - 1) 64 0 1 (by omega) (by omega)
      have this' : F_X8_fullestTram_27 M 64 0 1 = some (.inl (nI (fu s (sv s 2 - 1) 0 1)), M) := this
      rw [this', wl_s]
    · have hS2 := hS.sm h2
      have g2 : fw_ri M2 379 2 = nI (sv s 2) := (hS2 2 (by omega)).trans c2
      have this' : F_X9_fullestTram_22 64 0 1 (fw_up M2 378 6 (nI 0)) = some (nI (fu s (sv s 2 - 1) 0 1), fw_up M2 378 6 (nI 0)) := fu_m hk0 (hS2.u (by omega)) (sv s 2 - 1) 64 0 1 (by omega) (by omega)
      unfold F_X9_fullestTram
      rw [if_pos (show ix_i 2 129 by decide), g2, if_pos (nI_ne0 (by omega) (by omega)), lx_s, show (0 : Int32) = nI 0 from rfl]
      rw [show nI 0 = (0 : Int32) from rfl] at this' ⊢
      rw [this']
      exact lv_0
theorem hz_c {M : fw_M} {s : Nat → Int32} (hk : ok s) (hR : R M 0 s) {p k : Nat} (hp : p < sv s 3) (hz : k < 4) : F_X6_hasZone M 15 (nI p) (nI k) = some (nI (if (sv s (69 + 6 * p + 2)).testBit k then 1 else 0)) := by
  have b3 := hk.1.2.2.2.1.2
  obtain ⟨-, ⟨p2, p2b⟩, -⟩ := hk.2.2.2.2.2.2.1 p hp
  obtain ⟨-, -, -, -, -, -, rp, -⟩ := R0 hR
  have g : fw_ri M (15 + 4) (nI p) = nI (sv s (69 + 6 * p + 2)) := by rw [fw_ri, nI_clamp (by omega)]; exact (rp p (by omega)).2.2.1.trans p2
  have e : ((nI (sv s (69 + 6 * p + 2)) &&& (1 <<< (nI k &&& 31) : Int32)) = 0) = ((sv s (69 + 6 * p + 2)).testBit k = false) := sh_and (by omega)
  unfold F_X6_hasZone
  rw [if_pos (nI_in (by omega) (by omega)), g]
  cases h : (sv s (69 + 6 * p + 2)).testBit k with
  | true => rw [if_neg (by rw [e, h]; exact fun q => by cases q)]; rfl
  | false => rw [if_pos (by rw [e, h])]; rfl
theorem q_29 {M : fw_M} (h : Inv M) (xs : Nat → Int32) (i : Int32) : ∃ M1, F_cs_29 M xs i = some M1 ∧ Inv M1 := by
  have hI := h
  obtain ⟨⟨s, hk, hR, hS⟩, -⟩ := h
  have hk0 := hk
  obtain ⟨⟨⟨c0, b0⟩, ⟨c1, b1⟩, ⟨c2, b2⟩, ⟨c3, b3⟩, c4, b4⟩, oz, ol, os, od, ot, op, oq⟩ := hk
  obtain ⟨⟨r0, r1, r2, r3, -⟩, -⟩ := R0 hR
  unfold F_cs_29
  generalize xs (i + 1).toNatClampNeg = a
  generalize xs (i + 2).toNatClampNeg = b
  rcases px_o a (n := sv s 3) (by omega) with ⟨p, hp, rfl⟩ | ho
  · rcases px_o b (n := 4) (by omega) with ⟨k, hz, rfl⟩ | hz
    · have h01 : (if (sv s (69 + 6 * p + 2)).testBit k then 1 else 0) = 0 ∨ (if (sv s (69 + 6 * p + 2)).testBit k then 1 else 0) = 1 := by split <;> omega
      refine fib_l hI (if (sv s (69 + 6 * p + 2)).testBit k then 1 else 0) h01 sm_0 ?_ (fun M2 h2 => ?_)
      · unfold F_L_isValidIn F_X8_isValidIn
        rw [rt_Passenger hp (by omega) (r3.trans c3), bt_l, iz_t hz, bx_s, if_pos (show ¬ nI 1 = 0 by decide), hz_c hk0 hR hp hz, bx_s, if_pos (b01 h01), wb_1 h01]
      · have hS2 := hS.sm h2
        obtain ⟨-, ⟨p2, p2b⟩, -⟩ := op p hp
        have g : F_X9_ofPassenger (fw_up M2 378 6 0) (nI p) 2 = some (nI (sv s (69 + 6 * p + 2))) := by
          have hS3 : ∀ j, j < 129 → (fw_up M2 378 6 (nI 0)) 379 j = s j := hS2.u (by omega)
          unfold F_X9_ofPassenger
          simp (disch := omega) only [ix_i, ↓pn_m, pn_l0, pn_l1, pn_l2, pn_l3, pn_l4, pn_l5, pn_l6, pn_l7, pn_l8, pn_l9, pn_l10, pn_l11, pn_l12, pn_l16, pn_l18, pn_l20, pn_l31, pn_l32, pn_l40, pn_l45, pn_l48, pn_l51, pn_l57, pn_l59, pn_l60, pn_l62, pn_l64, pn_l69, pn_l97, pn_l98, pn_l99, pn_l100, pn_l101, pn_l105, pn_l107, pn_l108, pn_l114, pn_l115, pn_l116, pn_l117, pn_l119, pn_l126, pn_l129, pn_l240, pn_l903, pn_l1032, nI_add, pk_mul, pk_sub, nI_clamp, nI_leI, nI_ltI, nI_eq, pm_1, pm_2, pm_3, pm_4, pm_5, pm_6, pm_7, pm_8, pn_lt, pn_nlt, pn_le, pn_nle, pn_ne, pn_eq, not_true_eq_false, not_false_eq_true, true_and, and_true, false_and, and_false, true_or, or_true, false_or, or_false, or_self, and_self, ne_eq, reduceIte, if_true, if_false, Nat.add_zero, Nat.zero_add, Nat.mul_zero, Nat.reduceAdd, Nat.reduceMul, fw_ri, hS3, p2]
        have e : (nI (sv s (69 + 6 * p + 2)) >>> (nI k &&& 31) : Int32) &&& 1 = nI (if (sv s (69 + 6 * p + 2)).testBit k then 1 else 0) := sh_r (by omega) (by omega)
        have ez : F_X9_in M2 (nI k) 0 3 = some (nI 1) := in_z hz
        unfold F_X9_isValidIn F_X9_isValidIn_30
        rw [it_Passenger hp (by omega) ((hS2 3 (by omega)).trans c3), bx_s, if_pos (show ¬ nI 1 = 0 by decide), ez, bx_s, if_pos (show ¬ nI 1 = 0 by decide), lx_s, up_e rfl rfl, if_neg (show ¬ ¬ (0 : Int32) = 0 from fun q => q rfl), g, bx_s, e]
        cases h : (sv s (69 + 6 * p + 2)).testBit k with
        | true =>
          rw [if_pos rfl, if_neg (show ¬ ¬ nI 1 = 1 from fun q => q rfl)]
          exact lv_0
        | false =>
          rw [if_neg (show ¬ (false = true) by decide), if_pos (show ¬ nI 0 = 1 by decide)]
          exact lv_0
    · refine fib_e hI 2 (by omega) sm_0 ?_ (fun M2 h2 => ?_)
      · unfold F_L_isValidIn F_X8_isValidIn
        rw [rt_Passenger hp (by omega) (r3.trans c3), bt_l, iz_f hz]
        rfl
      · have hS2 := hS.sm h2
        have ez : F_X9_in M2 b 0 3 = some (nI 0) := in_f hz (by omega) rfl (by decide)
        unfold F_X9_isValidIn F_X9_isValidIn_30
        rw [it_Passenger hp (by omega) ((hS2 3 (by omega)).trans c3), bx_s, if_pos (show ¬ nI 1 = 0 by decide), ez, bx_s, if_neg (show ¬ ¬ nI 0 = 0 from fun q => q rfl), lx_s, up_e rfl rfl, if_pos (show ¬ (2 : Int32) = 0 by decide)]
        exact lv_e
  · refine fib_e hI 1 (by omega) sm_0 ?_ (fun M2 h2 => ?_)
    · unfold F_L_isValidIn F_X8_isValidIn
      rw [rq_Passenger ho (r3.trans c3)]
      rfl
    · have hS2 := hS.sm h2
      unfold F_X9_isValidIn F_X9_isValidIn_30
      rw [is_Passenger ho (by omega) ((hS2 3 (by omega)).trans c3), bx_s, if_neg (show ¬ ¬ nI 0 = 0 from fun q => q rfl), lx_s, up_e rfl rfl, if_pos (show ¬ (1 : Int32) = 0 by decide)]
      exact lv_e
theorem db_30 {M M1 : fw_M} {a b r : Int32} (h : F_X9_doBoard_30 a b M = some (r, M1)) : M1 378 = M 378 := by
  have hs : ∀ {M M1 : fw_M} {a b c : Int32}, F_X9_sets M a b c = some M1 → M1 378 = M 378 := by
    intro M M1 a b c h
    unfold F_X9_sets at h
    obtain ⟨-, h⟩ := of_g h
    rw [lx_s] at h
    cases h
    exact up_n1 (by omega)
  have h73 : ∀ {M M1 : fw_M} {a b x r : Int32}, F_X9_doBoard_73 a b x M = some (r, M1) → M1 378 = M 378 := by
    intro M M1 a b x r h
    unfold F_X9_doBoard_73 at h
    obtain ⟨A, ha, h⟩ := bx_e h
    obtain ⟨B, hb, h⟩ := bx_e h
    have e := (hs hb).trans (hs ha)
    by_cases c : ¬ x = 0
    · have h := it_t h c
      cases h
      exact e
    · have h := it_f h c
      cases h
      exact e
  unfold F_X9_doBoard_30 at h
  by_cases c : M 378 6 ≤ 0
  · have h := it_t h c
    obtain ⟨r10, -, h⟩ := bx_e h
    obtain ⟨r13, -, h⟩ := bx_e h
    obtain ⟨r16, -, h⟩ := bx_e h
    by_cases c : r13 = 0
    · have h := it_t h c
      obtain ⟨A, ha, h⟩ := bx_e h
      exact (h73 h).trans (hs ha)
    · have h := it_f h c
      obtain ⟨A, ha, h⟩ := bx_e h
      exact (h73 h).trans (hs ha)
  · have h := it_f h c
    cases h
    rfl
theorem hi_of {M M1 : fw_M} {a b r : Int32} (h : F_X9_doBoard M a b = some (r, M1)) (h1 : F_X9_isPassenger M a = some (nI 1)) (h2 : F_X9_isTram M b = some (nI 1)) : F_X9_hinders M a b = some (M1 378 6) := by
  unfold F_X9_doBoard at h
  rw [h1, bx_s, if_neg (show ¬ nI 1 = 0 by decide), h2, bx_s, if_pos (show ¬ nI 1 = 0 by decide)] at h
  obtain ⟨r35, e, h⟩ := bx_e h
  rw [lx_s] at h
  rw [e, db_30 h, up_e rfl rfl]
theorem q_30 {M : fw_M} (h : Inv M) (xs : Nat → Int32) (i : Int32) : ∃ M1, F_cs_30 M xs i = some M1 ∧ Inv M1 := by
  have hI := h
  obtain ⟨⟨s, hk, hR, hS⟩, -⟩ := h
  have hk0 := hk
  obtain ⟨⟨⟨c0, b0⟩, ⟨c1, b1⟩, ⟨c2, b2⟩, ⟨c3, b3⟩, c4, b4⟩, oz, ol, os, od, ot, op, oq⟩ := hk
  obtain ⟨⟨r0, r1, r2, r3, -⟩, -⟩ := R0 hR
  unfold F_cs_30
  generalize xs (i + 1).toNatClampNeg = a
  generalize xs (i + 2).toNatClampNeg = b
  rcases px_o a (n := sv s 3) (by omega) with ⟨p, hp, rfl⟩ | ho
  · rcases px_o b (n := sv s 2) (by omega) with ⟨t, ht, rfl⟩ | hob
    · obtain ⟨f, u, ans, s1, ⟨hfa, hf5, hap, hdo, hbad⟩, he⟩ := c_bord hk0 (nI p) (nI t)
      have h01 : (if f = 0 then 1 else 0) = 0 ∨ (if f = 0 then 1 else 0) = 1 := by split <;> omega
      refine fib_l hI (if f = 0 then 1 else 0) h01 sm_0 ?_ (fun M2 h2 => ?_)
      · have hfa' : F_X7_faultOfBoarding M 0 (nI p) (nI t) = some (nI f) := hfa M hR
        unfold F_L_canBoard F_X8_canBoard
        rw [rt_Passenger hp (by omega) (r3.trans c3), bt_l, rt_Tram ht (by omega) (r2.trans c2), bt_l, hfa', bx_s]
        by_cases hf : f = 0
        · rw [hf, if_neg (show ¬ ¬ nI 0 = 0 from fun q => q rfl)]
          rfl
        · rw [if_pos (nI_ne0 (by omega) (by omega)), if_neg hf]
          rfl
      · have hS2 := hS.sm h2
        have hS3 : Sm (fw_up M2 378 6 (nI 0)) s := hS2.u (by omega)
        have i1 := it_Passenger (M := fw_up M2 378 6 (nI 0)) hp (by omega) ((hS3 3 (by omega)).trans c3)
        have i2 := it_Tram (M := fw_up M2 378 6 (nI 0)) ht (by omega) ((hS3 2 (by omega)).trans c2)
        unfold F_X9_canBoard
        rw [it_Passenger hp (by omega) ((hS2 3 (by omega)).trans c3), bx_s, if_neg (show ¬ nI 1 = 0 by decide), it_Tram ht (by omega) ((hS2 2 (by omega)).trans c2), bx_s, if_neg (show ¬ nI 1 = 0 by decide), show (1 : Int32) = nI 1 from rfl, th_1, bp_s, if_neg (show ¬ nI 1 = 0 by decide)]
        by_cases hf : f = 0
        · obtain ⟨M1, w1, w2, w3, w4⟩ := hdo hf _ hS3 (up_e rfl rfl)
          rw [hi_of w1 i1 i2, w3, bx_s, if_neg (show ¬ ¬ nI 0 = 0 from fun q => q rfl), if_pos hf]
          exact lv_0
        · obtain ⟨u1, u2, hb⟩ := hbad hf
          obtain ⟨M1, w1, w2, w3⟩ := hb _ hS3 (up_e rfl rfl)
          rw [hi_of w1 i1 i2, w2, bx_s, if_pos (nI_ne0 u1 (by omega)), if_neg hf]
          exact lv_0
    · refine fib_e hI 1 (by omega) sm_0 ?_ (fun M2 h2 => ?_)
      · unfold F_L_canBoard F_X8_canBoard
        rw [rt_Passenger hp (by omega) (r3.trans c3), bt_l, rq_Tram hob (r2.trans c2)]
        rfl
      · have hS2 := hS.sm h2
        unfold F_X9_canBoard
        rw [it_Passenger hp (by omega) ((hS2 3 (by omega)).trans c3), bx_s, if_neg (show ¬ nI 1 = 0 by decide), is_Tram hob (by omega) ((hS2 2 (by omega)).trans c2), bx_s, if_pos (show nI 0 = 0 from rfl), show (0 : Int32) = nI 0 from rfl, th_0, bp_s, if_pos (show nI 0 = nI 0 from rfl)]
        exact lv_e
  · refine fib_e hI 1 (by omega) sm_0 ?_ (fun M2 h2 => ?_)
    · unfold F_L_canBoard F_X8_canBoard
      rw [rq_Passenger ho (r3.trans c3)]
      rfl
    · have hS2 := hS.sm h2
      unfold F_X9_canBoard
      rw [is_Passenger ho (by omega) ((hS2 3 (by omega)).trans c3), bx_s, if_pos (show nI 0 = 0 from rfl), show (0 : Int32) = nI 0 from rfl, th_0, bp_s, if_pos (show nI 0 = nI 0 from rfl)]
      exact lv_e
theorem q_31 {M : fw_M} (h : Inv M) (xs : Nat → Int32) (i : Int32) : ∃ M1, F_cs_31 M xs i = some M1 ∧ Inv M1 := by
  have hI := h
  obtain ⟨⟨s, hk, hR, hS⟩, -⟩ := h
  have hk0 := hk
  obtain ⟨⟨⟨c0, b0⟩, ⟨c1, b1⟩, ⟨c2, b2⟩, ⟨c3, b3⟩, c4, b4⟩, oz, ol, os, od, ot, op, oq⟩ := hk
  obtain ⟨⟨r0, r1, r2, r3, -⟩, -⟩ := R0 hR
  unfold F_cs_31
  generalize xs (i + 1).toNatClampNeg = a
  generalize xs (i + 2).toNatClampNeg = b
  rcases px_o a (n := sv s 3) (by omega) with ⟨p, hp, rfl⟩ | ho
  · rcases px_o b (n := sv s 1) (by omega) with ⟨t, ht, rfl⟩ | hob
    · have h01 := tf_01 s p (nI t)
      refine fib_l hI (tf s p (nI t)) h01 sm_0 ?_ (fun M2 h2 => ?_)
      · unfold F_L_isTransfer F_X8_isTransfer
        rw [rt_Passenger hp (by omega) (r3.trans c3), bt_l, rt_Line ht (by omega) (r1.trans c1), bt_l, tf_c hk0 hR hp, bx_s, if_pos (b01 h01), wb_1 h01]
      · have hS2 := hS.sm h2
        have hS3 : Sm (fw_up M2 378 6 (nI 0)) s := hS2.u (by omega)
        unfold F_X9_isTransfer
        rw [it_Passenger hp (by omega) ((hS2 3 (by omega)).trans c3), bx_s, if_neg (show ¬ nI 1 = 0 by decide), it_Line ht (by omega) ((hS2 1 (by omega)).trans c1), bx_s, if_neg (show ¬ nI 1 = 0 by decide), show (1 : Int32) = nI 1 from rfl, th_1, bp_s, if_neg (show ¬ nI 1 = 0 by decide), tf_m hk0 hS3 hp, bx_s]
        rcases h01 with h0 | h0
        · rw [h0, if_pos (show nI 0 = 0 from rfl)]
          exact lv_0
        · rw [h0, if_neg (show ¬ nI 1 = 0 by decide)]
          exact lv_0
    · refine fib_e hI 1 (by omega) sm_0 ?_ (fun M2 h2 => ?_)
      · unfold F_L_isTransfer F_X8_isTransfer
        rw [rt_Passenger hp (by omega) (r3.trans c3), bt_l, rq_Line hob (r1.trans c1)]
        rfl
      · have hS2 := hS.sm h2
        unfold F_X9_isTransfer
        rw [it_Passenger hp (by omega) ((hS2 3 (by omega)).trans c3), bx_s, if_neg (show ¬ nI 1 = 0 by decide), is_Line hob (by omega) ((hS2 1 (by omega)).trans c1), bx_s, if_pos (show nI 0 = 0 from rfl), show (0 : Int32) = nI 0 from rfl, th_0, bp_s, if_pos (show nI 0 = nI 0 from rfl)]
        exact lv_e
  · refine fib_e hI 1 (by omega) sm_0 ?_ (fun M2 h2 => ?_)
    · unfold F_L_isTransfer F_X8_isTransfer
      rw [rq_Passenger ho (r3.trans c3)]
      rfl
    · have hS2 := hS.sm h2
      unfold F_X9_isTransfer
      rw [is_Passenger ho (by omega) ((hS2 3 (by omega)).trans c3), bx_s, if_pos (show nI 0 = 0 from rfl), show (0 : Int32) = nI 0 from rfl, th_0, bp_s, if_pos (show nI 0 = nI 0 from rfl)]
      exact lv_e
theorem hh_c {M : fw_M} {s : Nat → Int32} (hk : ok s) (hR : R M 0 s) {p q : Nat} (hp : p < 8) (hq : q < sv s 4) : F_X2_hasHeard M 22 (nI p) (nI q) = some (nI (if (sv s (117 + 2 * q + 1)).testBit p then 1 else 0)) := by
  have b4 := hk.1.2.2.2.2.2
  obtain ⟨⟨q1, q2⟩, -⟩ := hk.2.2.2.2.2.2.2 q hq
  obtain ⟨-, -, -, -, -, -, -, rq⟩ := R0 hR
  have g : fw_ri M (22 + 2) (nI q) = nI (sv s (117 + 2 * q + 1)) := by rw [fw_ri, nI_clamp (by omega)]; exact (rq q (by omega)).2.trans q1
  have e : ((nI (sv s (117 + 2 * q + 1)) &&& (1 <<< (nI p &&& 31) : Int32)) = 0) = ((sv s (117 + 2 * q + 1)).testBit p = false) := sh_and (by omega)
  unfold F_X2_hasHeard
  rw [if_pos (nI_in (by omega) (by omega)), g]
  cases h : (sv s (117 + 2 * q + 1)).testBit p with
  | true => rw [if_neg (by rw [e, h]; exact fun q => by cases q)]; rfl
  | false => rw [if_pos (by rw [e, h])]; rfl
theorem kn_m {M : fw_M} {s : Nat → Int32} (hk : ok s) (hS : Sm M s) {q : Nat} (hq : q < sv s 4) : F_X9_knowers M (nI q) = some (nI (sv s (117 + 2 * q + 1))) := by
  have b4 := hk.1.2.2.2.2.2
  obtain ⟨⟨q1, q2⟩, -⟩ := hk.2.2.2.2.2.2.2 q hq
  have hS : ∀ j, j < 129 → M 379 j = s j := hS
  unfold F_X9_knowers
  simp (disch := omega) only [ix_i, ↓pn_m, pn_l0, pn_l1, pn_l2, pn_l3, pn_l4, pn_l5, pn_l6, pn_l7, pn_l8, pn_l9, pn_l10, pn_l11, pn_l12, pn_l16, pn_l18, pn_l20, pn_l31, pn_l32, pn_l40, pn_l45, pn_l48, pn_l51, pn_l57, pn_l59, pn_l60, pn_l62, pn_l64, pn_l69, pn_l97, pn_l98, pn_l99, pn_l100, pn_l101, pn_l105, pn_l107, pn_l108, pn_l114, pn_l115, pn_l116, pn_l117, pn_l119, pn_l126, pn_l129, pn_l240, pn_l903, pn_l1032, nI_add, pk_mul, pk_sub, nI_clamp, nI_leI, nI_ltI, nI_eq, pm_1, pm_2, pm_3, pm_4, pm_5, pm_6, pm_7, pm_8, pn_lt, pn_nlt, pn_le, pn_nle, pn_ne, pn_eq, not_true_eq_false, not_false_eq_true, true_and, and_true, false_and, and_false, true_or, or_true, false_or, or_false, or_self, and_self, ne_eq, reduceIte, if_true, if_false, Nat.add_zero, Nat.zero_add, Nat.mul_zero, Nat.reduceAdd, Nat.reduceMul, fw_ri, hS]
  rw [← q1]
theorem q_37 {M : fw_M} (h : Inv M) (xs : Nat → Int32) (i : Int32) : ∃ M1, F_cs_37 M xs i = some M1 ∧ Inv M1 := by
  have hI := h
  obtain ⟨⟨s, hk, hR, hS⟩, -⟩ := h
  have hk0 := hk
  obtain ⟨⟨⟨c0, b0⟩, ⟨c1, b1⟩, ⟨c2, b2⟩, ⟨c3, b3⟩, c4, b4⟩, oz, ol, os, od, ot, op, oq⟩ := hk
  obtain ⟨⟨r0, r1, r2, r3, r4, -⟩, -⟩ := R0 hR
  unfold F_cs_37
  generalize xs (i + 1).toNatClampNeg = a
  generalize xs (i + 2).toNatClampNeg = b
  rcases px_o a (n := sv s 3) (by omega) with ⟨p, hp, rfl⟩ | ho
  · rcases px_o b (n := sv s 4) (by omega) with ⟨t, ht, rfl⟩ | hob
    · have h01 : (if (sv s (117 + 2 * t + 1)).testBit p then 1 else 0) = 0 ∨ (if (sv s (117 + 2 * t + 1)).testBit p then 1 else 0) = 1 := by split <;> omega
      obtain ⟨⟨q1, q2⟩, -⟩ := oq t ht
      refine fib_l hI (if (sv s (117 + 2 * t + 1)).testBit p then 1 else 0) h01 sm_0 ?_ (fun M2 h2 => ?_)
      · unfold F_L_knows F_X8_knows
        rw [rt_Passenger hp (by omega) (r3.trans c3), bt_l, rt_Secret ht (by omega) (r4.trans c4), bt_l, hh_c hk0 hR (by omega) ht, bx_s, if_pos (b01 h01), wb_1 h01]
      · have hS2 := hS.sm h2
        have hS3 : Sm (fw_up M2 378 6 (nI 0)) s := hS2.u (by omega)
        have e : (nI (sv s (117 + 2 * t + 1)) >>> (nI p &&& 31) : Int32) &&& 1 = nI (if (sv s (117 + 2 * t + 1)).testBit p then 1 else 0) := sh_r (by omega) (by omega)
        unfold F_X9_knows
        rw [it_Passenger hp (by omega) ((hS2 3 (by omega)).trans c3), bx_s, if_neg (show ¬ nI 1 = 0 by decide), it_Secret ht (by omega) ((hS2 4 (by omega)).trans c4), bx_s, if_neg (show ¬ nI 1 = 0 by decide)]
        rw [show F_X9_isThere M2 1 = some (nI 1, fw_up M2 378 6 (nI 0)) from rfl, bp_s, if_neg (show ¬ nI 1 = 0 by decide), kn_m hk0 hS3 ht, bx_s, e]
        cases h : (sv s (117 + 2 * t + 1)).testBit p with
        | true =>
          rw [if_pos rfl, if_neg (show ¬ ¬ nI 1 = 1 from fun q => q rfl)]
          exact lv_0
        | false =>
          rw [if_neg (show ¬ (false = true) by decide), if_pos (show ¬ nI 0 = 1 by decide)]
          exact lv_0
    · refine fib_e hI 1 (by omega) sm_0 ?_ (fun M2 h2 => ?_)
      · unfold F_L_knows F_X8_knows
        rw [rt_Passenger hp (by omega) (r3.trans c3), bt_l, rq_Secret hob (r4.trans c4)]
        rfl
      · have hS2 := hS.sm h2
        unfold F_X9_knows
        rw [it_Passenger hp (by omega) ((hS2 3 (by omega)).trans c3), bx_s, if_neg (show ¬ nI 1 = 0 by decide), is_Secret hob (by omega) ((hS2 4 (by omega)).trans c4), bx_s, if_pos (show nI 0 = 0 from rfl), show F_X9_isThere M2 0 = some (nI 0, fw_up M2 378 6 (nI 1)) from rfl, bp_s, if_pos (show nI 0 = 0 from rfl)]
        exact lv_e
  · refine fib_e hI 1 (by omega) sm_0 ?_ (fun M2 h2 => ?_)
    · unfold F_L_knows F_X8_knows
      rw [rq_Passenger ho (r3.trans c3)]
      rfl
    · have hS2 := hS.sm h2
      unfold F_X9_knows
      rw [is_Passenger ho (by omega) ((hS2 3 (by omega)).trans c3), bx_s, if_pos (show nI 0 = 0 from rfl), show F_X9_isThere M2 0 = some (nI 0, fw_up M2 378 6 (nI 1)) from rfl, bp_s, if_pos (show nI 0 = 0 from rfl)]
      exact lv_e
theorem q_38 {M : fw_M} (h : Inv M) (xs : Nat → Int32) (i : Int32) : ∃ M1, F_cs_38 M xs i = some M1 ∧ Inv M1 := by
  have hI := h
  obtain ⟨⟨s, hk, hR, hS⟩, -⟩ := h
  have hk0 := hk
  obtain ⟨⟨⟨c0, b0⟩, ⟨c1, b1⟩, ⟨c2, b2⟩, ⟨c3, b3⟩, c4, b4⟩, oz, ol, os, od, ot, op, oq⟩ := hk
  obtain ⟨⟨r0, r1, r2, r3, r4, -⟩, -, -, -, -, -, -, rq⟩ := R0 hR
  unfold F_cs_38
  generalize xs (i + 1).toNatClampNeg = a
  rcases px_o a (n := sv s 4) (by omega) with ⟨t, ht, rfl⟩ | ho
  · obtain ⟨⟨q1, q2⟩, -⟩ := oq t ht
    refine fin_l hI (bcn (sv s (117 + 2 * t + 1))) sm_0 ?_ (fun M2 h2 => ?_)
    · have g : fw_ri M (22 + 2) (nI t) = nI (sv s (117 + 2 * t + 1)) := by rw [fw_ri, nI_clamp (by omega)]; exact (rq t (by omega)).2.trans q1
      unfold F_L_knowerCount F_X8_knowerCount F_X2_countKnowers
      rw [rt_Secret ht (by omega) (r4.trans c4), bt_l, if_pos (nI_in (by omega) (by omega)), g, bc_c (by omega), bx_s, bx_s, wl_s]
    · have hS2 := hS.sm h2
      have hS3 : Sm (fw_up M2 378 6 (nI 0)) s := hS2.u (by omega)
      unfold F_X9_knowerCount
      rw [it_Secret ht (by omega) ((hS2 4 (by omega)).trans c4), bx_s, th_1, bp_s, if_neg (show ¬ nI 1 = 0 by decide), kn_m hk0 hS3 ht, bx_s, bc_m (by omega), bx_s]
      exact lv_0
  · refine fin_e hI 1 (by omega) sm_0 ?_ (fun M2 h2 => ?_)
    · unfold F_L_knowerCount F_X8_knowerCount
      rw [rq_Secret ho (r4.trans c4)]
      rfl
    · unfold F_X9_knowerCount
      rw [is_Secret ho (by omega) (((hS.sm h2) 4 (by omega)).trans c4), bx_s, th_0, bp_s, if_pos (show nI 0 = 0 from rfl)]
      exact lv_e
theorem q_52 {M : fw_M} (h : Inv M) (xs : Nat → Int32) (i : Int32) : ∃ M1, F_cs_52 M xs i = some M1 ∧ Inv M1 := by
  have hI := h
  obtain ⟨-, -, -, -, ⟨h1, -, h2, -⟩, -⟩ := h
  unfold F_cs_52
  rcases h2 with h2 | ⟨k, hk, h2⟩
  · refine fin_e hI 1 (by omega) sm_0 ?_ (fun M2 q => ?_)
    · unfold F_L_errorPosition F_X8_errorPosition F_X8_found
      rw [h2, if_neg (show ¬ ¬ mI = -1 from fun q => q rfl)]
      rfl
    · unfold F_X9_errorPosition
      rw [q.2.2.1 13 (by omega), ← h1, h2, if_neg (show ¬ (0 : Int32) ≤ mI by decide), lx_s, up_e rfl rfl, if_neg (show ¬ (1 : Int32) ≤ 0 by decide)]
      exact lv_e
  · refine fin_l hI (nI k) sm_0 ?_ (fun M2 q => ?_)
    · unfold F_L_errorPosition F_X8_errorPosition F_X8_found
      rw [h2, if_pos (fun q => by rw [show (-1 : Int32) = mI from rfl, pm_1 (by omega)] at q; exact q), bt_l, wl_s]
    · unfold F_X9_errorPosition
      rw [q.2.2.1 13 (by omega), ← h1, h2, if_pos (show (0 : Int32) ≤ nI k from nI_pos' (by omega)), lx_s, up_e rfl rfl, if_pos (show (0 : Int32) ≤ 0 by decide), up_n2 (by omega), q.2.2.1 13 (by omega), ← h1, h2]
      exact lv_0
theorem q_53 {M : fw_M} (h : Inv M) (xs : Nat → Int32) (i : Int32) : ∃ M1, F_cs_53 M xs i = some M1 ∧ Inv M1 := by
  have hI := h
  obtain ⟨-, -, -, -, ⟨-, h1, -, h2⟩, -⟩ := h
  unfold F_cs_53
  rcases h2 with h2 | ⟨k, hk, h2⟩
  · refine fin_e hI 1 (by omega) sm_0 ?_ (fun M2 q => ?_)
    · unfold F_L_failedCommand F_X8_failedCommand F_X8_found
      rw [h2, if_neg (show ¬ ¬ mI = -1 from fun q => q rfl)]
      rfl
    · unfold F_X9_failedCommand
      rw [q.2.2.1 14 (by omega), ← h1, h2, if_neg (show ¬ (0 : Int32) ≤ mI by decide), lx_s, up_e rfl rfl, if_neg (show ¬ (1 : Int32) ≤ 0 by decide)]
      exact lv_e
  · refine fin_l hI (nI k) sm_0 ?_ (fun M2 q => ?_)
    · unfold F_L_failedCommand F_X8_failedCommand F_X8_found
      rw [h2, if_pos (fun q => by rw [show (-1 : Int32) = mI from rfl, pm_1 (by omega)] at q; exact q), bt_l, wl_s]
    · unfold F_X9_failedCommand
      rw [q.2.2.1 14 (by omega), ← h1, h2, if_pos (show (0 : Int32) ≤ nI k from nI_pos' (by omega)), lx_s, up_e rfl rfl, if_pos (show (0 : Int32) ≤ 0 by decide), up_n2 (by omega), q.2.2.1 14 (by omega), ← h1, h2]
      exact lv_0
