/-! means -/
def fdd (k n : Nat) : UInt64 := FP.ddiv (FP.i2d (nI k)) (FP.i2d (nI n))
def fff (k n : Nat) : UInt32 := FP.fdiv (FP.i2f (nI k)) (FP.i2f (nI n))
def fhi (v : UInt64) : Int32 := (v >>> 32).toUInt32.toInt32
def flo (v : UInt64) : Int32 := v.toUInt32.toInt32
theorem fp_d : ∀ n, n < 9 → ∀ k, k < 161 → n = 0 ∨ (vn_d (fdd k n) ∧ Op.cmpValue (FP.dcmp (fdd k n) (fdd k n)) .l = 0 ∧ fw_dbl (fhi (fdd k n)) (flo (fdd k n)) = fdd k n) := by decide +kernel
theorem fp_f : ∀ n, n < 7 → ∀ k, k < 7 → n = 0 ∨ (vn_f (fff k n) ∧ vn_d (FP.f2d (fff k n)) ∧ Op.cmpValue (FP.dcmp (FP.f2d (fff k n)) (FP.f2d (fff k n))) .l = 0 ∧ fw_dbl (fhi (FP.f2d (fff k n))) (flo (FP.f2d (fff k n))) = FP.f2d (fff k n)) := by decide +kernel
theorem dw_n {M : fw_M} {v : UInt64} {c : Nat} (h : c ≠ 387) : fw_dw M v c = M c := fw_w_n h
theorem dw_0 {M : fw_M} {v : UInt64} : fw_dw M v 387 0 = fhi v := by
  unfold fw_dw
  rw [fw_w_s]
  rfl
theorem dw_1 {M : fw_M} {v : UInt64} : fw_dw M v 387 1 = flo v := by
  unfold fw_dw
  rw [fw_w_s]
  rfl
theorem sm_dw {M : fw_M} {v : UInt64} : sm M (fw_dw M v) := ⟨fun k a => dw_n (by omega), fun k a b => dw_n (by omega), fun j _ => by rw [dw_n (by omega)], fun j _ => by rw [dw_n (by omega)], fun k a b => dw_n (by omega)⟩
def rsum (s : Nat → Int32) (n : Nat) : Nat := fb_sm (fun p => sv s (69 + 6 * p + 3)) n
theorem mr_c {M : fw_M} {s : Nat → Int32} (hk : ok s) (hR : R M 0 s) (h0 : sv s 3 ≠ 0) : ∀ (r n p : Nat), p + r = sv s 3 → r < n → F_X8_meanRides_30 M n (nI (sv s 3)) (nI (rsum s p)) (nI p) = if vn_d (fdd (rsum s (sv s 3)) (sv s 3)) then some (.inl (fdd (rsum s (sv s 3)) (sv s 3)), M) else none := by
  obtain ⟨c3, b3⟩ := hk.1.2.2.2.1
  obtain ⟨-, -, -, -, -, -, rp, -⟩ := R0 hR
  intro r
  induction r with
  | zero =>
    intro n p h1 h2
    obtain ⟨n, rfl⟩ : ∃ x, n = x + 1 := ⟨n - 1, by omega⟩
    obtain rfl : p = sv s 3 := by omega
    rw [F_X8_meanRides_30, if_pos (nI_le (by omega) (by omega))]
    rfl
  | succ r ih =>
    intro n p h1 h2
    obtain ⟨n, rfl⟩ : ∃ x, n = x + 1 := ⟨n - 1, by omega⟩
    have g : fw_ri M 18 (nI p) = nI (sv s (69 + 6 * p + 3)) := by
      rw [fw_ri, nI_clamp (by omega)]
      exact (rp p (by omega)).2.2.2.1.trans (hk.2.2.2.2.2.2.1 p (by omega)).2.2.1.1
    rw [F_X8_meanRides_30, if_neg (nI_ge (by omega) (by omega)), if_pos (nI_in (by omega) (by omega)), g, nI_add, nI_1]
    exact ih n (p + 1) (by omega) (by omega)
theorem mr_m {M : fw_M} {s : Nat → Int32} (hk : ok s) (hS : Sm M s) (h6 : M 378 6 = 0) : ∀ (r n p : Nat), p + r = sv s 3 → r < n → F_X9_meanRides_24 n (nI (sv s 3)) (nI (rsum s p)) (nI p) M = if vn_d (fdd (rsum s (sv s 3)) (sv s 3)) then some (fdd (rsum s (sv s 3)) (sv s 3), M) else none := by
  obtain ⟨c3, b3⟩ := hk.1.2.2.2.1
  have hS' : ∀ j, j < 129 → M 379 j = s j := hS
  intro r
  induction r with
  | zero =>
    intro n p h1 h2
    obtain ⟨n, rfl⟩ : ∃ x, n = x + 1 := ⟨n - 1, by omega⟩
    obtain rfl : p = sv s 3 := by omega
    rw [F_X9_meanRides_24, if_pos (nI_le (by omega) (by omega)), h6, if_pos (show (0 : Int32) ≤ 0 by decide)]
    rfl
  | succ r ih =>
    intro n p h1 h2
    obtain ⟨n, rfl⟩ : ∃ x, n = x + 1 := ⟨n - 1, by omega⟩
    have g : F_X9_ofPassenger M (nI p) 3 = some (nI (sv s (69 + 6 * p + 3))) := by
      rw [← (hk.2.2.2.2.2.2.1 p (by omega)).2.2.1.1]
      unfold F_X9_ofPassenger
      simp (disch := omega) only [ix_i, ↓pn_m, pn_l0, pn_l1, pn_l2, pn_l3, pn_l4, pn_l5, pn_l6, pn_l7, pn_l8, pn_l9, pn_l10, pn_l11, pn_l12, pn_l16, pn_l18, pn_l20, pn_l31, pn_l32, pn_l40, pn_l45, pn_l48, pn_l51, pn_l57, pn_l59, pn_l60, pn_l62, pn_l64, pn_l69, pn_l97, pn_l98, pn_l99, pn_l100, pn_l101, pn_l105, pn_l107, pn_l108, pn_l114, pn_l115, pn_l116, pn_l117, pn_l119, pn_l126, pn_l129, pn_l240, pn_l903, pn_l1032, nI_add, pk_mul, pk_sub, nI_clamp, nI_leI, nI_ltI, nI_eq, pm_1, pm_2, pm_3, pm_4, pm_5, pm_6, pm_7, pm_8, pn_lt, pn_nlt, pn_le, pn_nle, pn_ne, pn_eq, not_true_eq_false, not_false_eq_true, true_and, and_true, false_and, and_false, true_or, or_true, false_or, or_false, or_self, and_self, ne_eq, reduceIte, if_true, if_false, Nat.add_zero, Nat.zero_add, Nat.mul_zero, Nat.reduceAdd, Nat.reduceMul, fw_ri, hS']
    rw [F_X9_meanRides_24, if_neg (nI_ge (by omega) (by omega)), g, bx_s, nI_add, nI_1]
    exact ih n (p + 1) (by omega) (by omega)
theorem q_47 {M : fw_M} (h : Inv M) (xs : Nat → Int32) (i : Int32) : ∃ M1, F_cs_47 M xs i = some M1 ∧ Inv M1 := by
  have hI := h
  obtain ⟨⟨s, hk, hR, hS⟩, -⟩ := h
  have hk0 := hk
  obtain ⟨⟨⟨c0, b0⟩, ⟨c1, b1⟩, ⟨c2, b2⟩, ⟨c3, b3⟩, c4, b4⟩, oz, ol, os, od, ot, op, oq⟩ := hk
  obtain ⟨⟨-, -, -, r3, -⟩, -⟩ := R0 hR
  unfold F_cs_47
  by_cases h0 : sv s 3 = 0
  · have e1 : F_L_meanRides M = some (1, M) := by
      unfold F_L_meanRides F_X8_meanRides
      rw [r3, c3, h0]
      rfl
    have g3 : fw_ri M 379 3 = nI 0 := by rw [← h0]; exact (hS 3 (by omega)).trans c3
    have e2 : F_X9_meanRides M = some (FP.dconst0, fw_up M 378 6 1) := by
      unfold F_X9_meanRides
      rw [if_pos (show ix_i 3 129 by decide), g3, if_neg (show ¬ ¬ nI 0 = 0 from fun q => q rfl), lx_s, F_X9_meanRides_24, if_pos (show nI 0 ≤ 0 by decide), up_e rfl rfl, if_neg (show ¬ (1 : Int32) ≤ 0 by decide)]
    rw [e1, bp_s, e2, bp_s]
    unfold F_X9_thrown
    rw [bx_s, up_e rfl rfl, if_pos rfl, if_neg (show ¬ (1 : Int32) = 0 by decide)]
    exact ⟨_, rfl, hI.sm (sm_378 sm_0)⟩
  · have hb : rsum s (sv s 3) ≤ sv s 3 * 20 := fb_sm_bound (fun p hp => (op p hp).2.2.1.2)
    have hb160 : rsum s (sv s 3) < 161 := by
      have : sv s 3 * 20 ≤ 160 := by omega
      omega
    obtain ⟨f1, f2, f3⟩ := (fp_d (sv s 3) (by omega) (rsum s (sv s 3)) hb160).resolve_left h0
    have e1 : F_L_meanRides M = some (0, fw_dw M (fdd (rsum s (sv s 3)) (sv s 3))) := by
      have w : F_X8_meanRides_30 M 64 (nI (sv s 3)) 0 0 = if vn_d (fdd (rsum s (sv s 3)) (sv s 3)) then some (.inl (fdd (rsum s (sv s 3)) (sv s 3)), M) else none := mr_c hk0 hR h0 (sv s 3) 64 0 (by omega) (by omega)
      unfold F_L_meanRides F_X8_meanRides
      rw [r3, c3, if_pos (nI_ne0 (by omega) (by omega)), w, if_pos f1]
      rfl
    obtain ⟨A, hA⟩ : ∃ A, A = fw_dw M (fdd (rsum s (sv s 3)) (sv s 3)) := ⟨_, rfl⟩
    have hsA : sm M A := by rw [hA]; exact sm_dw
    have hSA := hS.sm hsA
    have g3 : fw_ri A 379 3 = nI (sv s 3) := (hSA 3 (by omega)).trans c3
    have e2 : F_X9_meanRides A = some (fdd (rsum s (sv s 3)) (sv s 3), fw_up A 378 6 0) := by
      have w : F_X9_meanRides_24 64 (nI (sv s 3)) 0 0 (fw_up A 378 6 0) = if vn_d (fdd (rsum s (sv s 3)) (sv s 3)) then some (fdd (rsum s (sv s 3)) (sv s 3), fw_up A 378 6 0) else none := mr_m hk0 (hSA.u (by omega)) (up_e rfl rfl) (sv s 3) 64 0 (by omega) (by omega)
      unfold F_X9_meanRides
      rw [if_pos (show ix_i 3 129 by decide), g3, if_pos (nI_ne0 (by omega) (by omega)), lx_s, w, if_pos f1]
    rw [e1, bp_s, ← hA, e2, bp_s]
    unfold F_X9_thrown
    rw [bx_s, up_e rfl rfl, if_pos rfl, if_pos rfl, up_n1 (by omega), hA, dw_0, dw_1, f3, if_pos f2, ← hA]
    exact ⟨_, rfl, hI.sm (sm_378 hsA)⟩
def tsum (s : Nat → Int32) (n : Nat) : Nat := fb_ct (fun q => decide (s (117 + 2 * q) = mI)) n
theorem ts_c {M : fw_M} {s : Nat → Int32} (hk : ok s) (hR : R M 0 s) : ∀ (r n p : Nat), p + r = sv s 4 → r < n → F_X8_truthShare_30 M n (nI (sv s 4)) (nI (tsum s p)) (nI p) = if vn_f (fff (tsum s (sv s 4)) (sv s 4)) then some (.inl (fff (tsum s (sv s 4)) (sv s 4)), M) else none := by
  obtain ⟨c4, b4⟩ := hk.1.2.2.2.2
  obtain ⟨-, -, -, -, -, -, -, rq⟩ := R0 hR
  intro r
  induction r with
  | zero =>
    intro n p h1 h2
    obtain ⟨n, rfl⟩ : ∃ x, n = x + 1 := ⟨n - 1, by omega⟩
    obtain rfl : p = sv s 4 := by omega
    rw [F_X8_truthShare_30, if_pos (nI_le (by omega) (by omega))]
    rfl
  | succ r ih =>
    intro n p h1 h2
    obtain ⟨n, rfl⟩ : ∃ x, n = x + 1 := ⟨n - 1, by omega⟩
    have ih := ih n (p + 1) (by omega) (by omega)
    have g : fw_ri M (22 + 1) (nI p) = s (117 + 2 * p) := by rw [fw_ri, nI_clamp (by omega)]; exact (rq p (by omega)).1
    have es : tsum s (p + 1) = tsum s p + (if decide (s (117 + 2 * p) = mI) then 1 else 0) := by unfold tsum; rw [fb_ct_succ]
    rw [es] at ih
    rw [F_X8_truthShare_30, if_neg (nI_ge (by omega) (by omega)), nI_1, nI_1]
    unfold F_X2_isOut
    rw [if_pos (nI_in (by omega) (by omega)), g, show (-1 : Int32) = mI from rfl]
    by_cases e : s (117 + 2 * p) = mI
    · rw [if_neg (show ¬ ¬ s (117 + 2 * p) = mI from fun x => x e), bx_s, if_neg (show ¬ (1 : Int32) = 0 by decide)]
      rw [decide_eq_true e, if_pos rfl] at ih
      exact ih
    · rw [if_pos e, bx_s, if_pos rfl]
      rw [decide_eq_false e, if_neg (by decide), Nat.add_zero] at ih
      exact ih
theorem ts_m {M : fw_M} {s : Nat → Int32} (hk : ok s) (hS : Sm M s) (h6 : M 378 6 = 0) : ∀ (r n p : Nat), p + r = sv s 4 → r < n → F_X9_truthShare_24 n (nI (sv s 4)) (nI (tsum s p)) (nI p) M = if vn_f (fff (tsum s (sv s 4)) (sv s 4)) then some (fff (tsum s (sv s 4)) (sv s 4), M) else none := by
  obtain ⟨c4, b4⟩ := hk.1.2.2.2.2
  have b3 := hk.1.2.2.2.1.2
  have hS' : ∀ j, j < 129 → M 379 j = s j := hS
  intro r
  induction r with
  | zero =>
    intro n p h1 h2
    obtain ⟨n, rfl⟩ : ∃ x, n = x + 1 := ⟨n - 1, by omega⟩
    obtain rfl : p = sv s 4 := by omega
    rw [F_X9_truthShare_24, if_pos (nI_le (by omega) (by omega)), h6, if_pos (show (0 : Int32) ≤ 0 by decide)]
    rfl
  | succ r ih =>
    intro n p h1 h2
    obtain ⟨n, rfl⟩ : ∃ x, n = x + 1 := ⟨n - 1, by omega⟩
    have ih := ih n (p + 1) (by omega) (by omega)
    have g : F_X9_carrier M (nI p) = some (s (117 + 2 * p)) := by
      unfold F_X9_carrier
      simp (disch := omega) only [ix_i, ↓pn_m, pn_l0, pn_l1, pn_l2, pn_l3, pn_l4, pn_l5, pn_l6, pn_l7, pn_l8, pn_l9, pn_l10, pn_l11, pn_l12, pn_l16, pn_l18, pn_l20, pn_l31, pn_l32, pn_l40, pn_l45, pn_l48, pn_l51, pn_l57, pn_l59, pn_l60, pn_l62, pn_l64, pn_l69, pn_l97, pn_l98, pn_l99, pn_l100, pn_l101, pn_l105, pn_l107, pn_l108, pn_l114, pn_l115, pn_l116, pn_l117, pn_l119, pn_l126, pn_l129, pn_l240, pn_l903, pn_l1032, nI_add, pk_mul, pk_sub, nI_clamp, nI_leI, nI_ltI, nI_eq, pm_1, pm_2, pm_3, pm_4, pm_5, pm_6, pm_7, pm_8, pn_lt, pn_nlt, pn_le, pn_nle, pn_ne, pn_eq, not_true_eq_false, not_false_eq_true, true_and, and_true, false_and, and_false, true_or, or_true, false_or, or_false, or_self, and_self, ne_eq, reduceIte, if_true, if_false, Nat.add_zero, Nat.zero_add, Nat.mul_zero, Nat.reduceAdd, Nat.reduceMul, fw_ri, hS']
    have es : tsum s (p + 1) = tsum s p + (if decide (s (117 + 2 * p) = mI) then 1 else 0) := by unfold tsum; rw [fb_ct_succ]
    rw [es] at ih
    rw [F_X9_truthShare_24, if_neg (nI_ge (by omega) (by omega)), g, bx_s, nI_1, nI_1, show nI (tsum s p) + 0 = nI (tsum s p) from nI_add _ 0]
    rcases (hk.2.2.2.2.2.2.2 p (by omega)).2 with e | ⟨e, e2, -⟩
    · rw [e, if_neg (show ¬ (0 : Int32) ≤ mI by decide)]
      rw [e, decide_eq_true rfl, if_pos rfl] at ih
      exact ih
    · have hne : ¬ s (117 + 2 * p) = mI := fun x => by rw [e, pm_1 (by omega)] at x; exact x
      rw [if_pos (show (0 : Int32) ≤ s (117 + 2 * p) by rw [e]; exact nI_pos' (by omega))]
      rw [decide_eq_false hne, if_neg (by decide), Nat.add_zero] at ih
      exact ih
theorem q_48 {M : fw_M} (h : Inv M) (xs : Nat → Int32) (i : Int32) : ∃ M1, F_cs_48 M xs i = some M1 ∧ Inv M1 := by
  have hI := h
  obtain ⟨⟨s, hk, hR, hS⟩, -⟩ := h
  have hk0 := hk
  obtain ⟨⟨⟨c0, b0⟩, ⟨c1, b1⟩, ⟨c2, b2⟩, ⟨c3, b3⟩, c4, b4⟩, oz, ol, os, od, ot, op, oq⟩ := hk
  obtain ⟨⟨-, -, -, -, r4, -⟩, -⟩ := R0 hR
  unfold F_cs_48
  by_cases h0 : sv s 4 = 0
  · have e1 : F_L_truthShare M = some (1, M) := by
      unfold F_L_truthShare F_X8_truthShare
      rw [r4, c4, h0]
      rfl
    have g3 : fw_ri M 379 4 = nI 0 := by rw [← h0]; exact (hS 4 (by omega)).trans c4
    have e2 : F_X9_truthShare M = some (FP.fconst0, fw_up M 378 6 1) := by
      unfold F_X9_truthShare
      rw [if_pos (show ix_i 4 129 by decide), g3, if_neg (show ¬ ¬ nI 0 = 0 from fun q => q rfl), lx_s, F_X9_truthShare_24, if_pos (show nI 0 ≤ 0 by decide), up_e rfl rfl, if_neg (show ¬ (1 : Int32) ≤ 0 by decide)]
    rw [e1, bp_s, e2, bp_s]
    unfold F_X9_thrown
    rw [bx_s, up_e rfl rfl, if_pos rfl, if_neg (show ¬ (1 : Int32) = 0 by decide)]
    exact ⟨_, rfl, hI.sm (sm_378 sm_0)⟩
  · have hb : tsum s (sv s 4) ≤ sv s 4 := fb_ct_le _ _
    obtain ⟨f0, f1, f2, f3⟩ := (fp_f (sv s 4) (by omega) (tsum s (sv s 4)) (by omega)).resolve_left h0
    have e1 : F_L_truthShare M = some (0, fw_dw M (FP.f2d (fff (tsum s (sv s 4)) (sv s 4)))) := by
      have w : F_X8_truthShare_30 M 64 (nI (sv s 4)) 0 0 = if vn_f (fff (tsum s (sv s 4)) (sv s 4)) then some (.inl (fff (tsum s (sv s 4)) (sv s 4)), M) else none := ts_c hk0 hR (sv s 4) 64 0 (by omega) (by omega)
      unfold F_L_truthShare F_X8_truthShare
      rw [r4, c4, if_pos (nI_ne0 (by omega) (by omega)), w, if_pos f0]
      show (if vn_d (FP.f2d (fff (tsum s (sv s 4)) (sv s 4))) then some (0, fw_dw M (FP.f2d (fff (tsum s (sv s 4)) (sv s 4)))) else none) = _
      rw [if_pos f1]
    obtain ⟨A, hA⟩ : ∃ A, A = fw_dw M (FP.f2d (fff (tsum s (sv s 4)) (sv s 4))) := ⟨_, rfl⟩
    have hsA : sm M A := by rw [hA]; exact sm_dw
    have hSA := hS.sm hsA
    have g3 : fw_ri A 379 4 = nI (sv s 4) := (hSA 4 (by omega)).trans c4
    have e2 : F_X9_truthShare A = some (fff (tsum s (sv s 4)) (sv s 4), fw_up A 378 6 0) := by
      have w : F_X9_truthShare_24 64 (nI (sv s 4)) 0 0 (fw_up A 378 6 0) = if vn_f (fff (tsum s (sv s 4)) (sv s 4)) then some (fff (tsum s (sv s 4)) (sv s 4), fw_up A 378 6 0) else none := ts_m hk0 (hSA.u (by omega)) (up_e rfl rfl) (sv s 4) 64 0 (by omega) (by omega)
      unfold F_X9_truthShare
      rw [if_pos (show ix_i 4 129 by decide), g3, if_pos (nI_ne0 (by omega) (by omega)), lx_s, w, if_pos f0]
    rw [e1, bp_s, ← hA, e2, bp_s]
    unfold F_X9_thrown
    rw [bx_s, up_e rfl rfl, if_pos rfl, if_pos rfl, if_pos f1, up_n1 (by omega), hA, dw_0, dw_1, f3, if_pos f2, ← hA]
    exact ⟨_, rfl, hI.sm (sm_378 hsA)⟩
