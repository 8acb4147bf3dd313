/-! the questions, one lemma each: class and model answer alike, and nothing that counts is changed -/
theorem R0 {M : fw_M} {s : Nat → Int32} (h : R M 0 s) : (M 1 0 = s 0 ∧ M 1 1 = s 1 ∧ M 11 0 = s 2 ∧ M 15 0 = s 3 ∧ M 22 0 = s 4 ∧ M 0 4 = s 5) ∧ (∀ j, j < 10 → M 2 j = s (6 + j)) ∧ (∀ l, l < 5 → M 3 l = s (16 + 7 * l) ∧ M 10 l = nI (lset s l)) ∧ (∀ l p, l < 5 → p < 6 → M (5 + l) p = s (16 + 7 * l + 1 + p)) ∧ (∀ t, t < 6 → M 12 t = s (51 + 3 * t) ∧ M 13 t = s (51 + 3 * t + 1)) ∧ (∀ t, t < sv s 2 → M 14 t = if s (51 + 3 * t + 2) = nI 1 then mI else nI 1) ∧ (∀ p, p < 8 → M 16 p = s (69 + 6 * p) ∧ M 17 p = s (69 + 6 * p + 1) ∧ M 19 p = s (69 + 6 * p + 2) ∧ M 18 p = s (69 + 6 * p + 3) ∧ M 20 p = s (69 + 6 * p + 4) ∧ M 21 p = s (69 + 6 * p + 5)) ∧ (∀ q, q < 6 → M 23 q = s (117 + 2 * q) ∧ M 24 q = s (117 + 2 * q + 1)) := by
  unfold R Rn Rz Rl Rs Rt Ru Rp Rq at h
  simp only [Nat.zero_add] at h
  exact h
theorem sm_0 {M : fw_M} : sm M M := ⟨fun _ _ => rfl, fun _ _ _ => rfl, fun _ _ => rfl, fun _ _ => rfl, fun _ _ _ => rfl⟩
theorem sm_t {M M1 M2 : fw_M} (h : sm M M1) (q : sm M1 M2) : sm M M2 := ⟨fun k a => (q.1 k a).trans (h.1 k a), fun k a b => (q.2.1 k a b).trans (h.2.1 k a b), fun k a => (q.2.2.1 k a).trans (h.2.2.1 k a), fun k a => (q.2.2.2.1 k a).trans (h.2.2.2.1 k a), fun k a b => (q.2.2.2.2 k a b).trans (h.2.2.2.2 k a b)⟩
theorem sm_x {M M1 : fw_M} {k j : Nat} {x : Int32} (h : sm M M1) (hk : k = 386 ∨ k = 387 ∨ (355 ≤ k ∧ k < 360) ∨ k = 380 ∨ (k = 378 ∧ j = 6)) : sm M (fw_up M1 k j x) :=
  sm_t h ⟨fun q a => up_n1 (by omega), fun q a b => up_n1 (by omega), fun q a => by
    by_cases e : k = 378
    · exact up_n2 (by omega)
    · exact congrFun (up_n1 (by omega)) q, fun q a => congrFun (up_n1 (by omega)) q, fun q a b => up_n1 (by omega)⟩
theorem sm_386 {M M1 : fw_M} {j : Nat} {x : Int32} (h : sm M M1) : sm M (fw_up M1 386 j x) := sm_x h (Or.inl rfl)
theorem sm_378 {M M1 : fw_M} {x : Int32} (h : sm M M1) : sm M (fw_up M1 378 6 x) := sm_x h (Or.inr (Or.inr (Or.inr (Or.inr ⟨rfl, rfl⟩))))
theorem lc_t {x : Int32} : (lg_cmp x.toInt64 x.toInt64 = nI 0) = True := eq_true ((lg_cmp_eq _ _).mpr rfl)
theorem wl_s {r : Int32} {M : fw_M} {es : List Nat} : wr_l (some (.inl r, M)) es = some (nI 0, fw_up M 386 0 r) := rfl
theorem wb_s {r : Int32} {M : fw_M} {es : List Nat} : wr_b (some (.inl r, M)) es = some (nI 0, fw_up M 386 0 (if r = nI 0 then nI 0 else nI 1)) := rfl
theorem wl_0_0 {M : fw_M} : wr_l (some (.inr 0, M)) [0] = some (nI 1, M) := rfl
theorem wl_12_1 {M : fw_M} : wr_l (some (.inr 1, M)) [1, 2] = some (nI 1, M) := rfl
theorem wl_12_2 {M : fw_M} : wr_l (some (.inr 2, M)) [1, 2] = some (nI 2, M) := rfl
theorem wl_012_0 {M : fw_M} : wr_l (some (.inr 0, M)) [0, 1, 2] = some (nI 1, M) := rfl
theorem wl_012_1 {M : fw_M} : wr_l (some (.inr 1, M)) [0, 1, 2] = some (nI 2, M) := rfl
theorem wl_012_2 {M : fw_M} : wr_l (some (.inr 2, M)) [0, 1, 2] = some (nI 3, M) := rfl
theorem wl_03_0 {M : fw_M} : wr_l (some (.inr 0, M)) [0, 3] = some (nI 1, M) := rfl
theorem wl_03_3 {M : fw_M} : wr_l (some (.inr 3, M)) [0, 3] = some (nI 2, M) := rfl
theorem wl_02_0 {M : fw_M} : wr_l (some (.inr 0, M)) [0, 2] = some (nI 1, M) := rfl
theorem wl_02_2 {M : fw_M} : wr_l (some (.inr 2, M)) [0, 2] = some (nI 2, M) := rfl
theorem wl_3_3 {M : fw_M} : wr_l (some (.inr 3, M)) [3] = some (nI 1, M) := rfl
theorem wl_024_0 {M : fw_M} : wr_l (some (.inr 0, M)) [0, 2, 4] = some (nI 1, M) := rfl
theorem wl_024_2 {M : fw_M} : wr_l (some (.inr 2, M)) [0, 2, 4] = some (nI 2, M) := rfl
theorem wl_024_4 {M : fw_M} : wr_l (some (.inr 4, M)) [0, 2, 4] = some (nI 3, M) := rfl
theorem wl_2_2 {M : fw_M} : wr_l (some (.inr 2, M)) [2] = some (nI 1, M) := rfl
theorem wb_0_0 {M : fw_M} : wr_b (some (.inr 0, M)) [0] = some (nI 1, M) := rfl
theorem wb_01_0 {M : fw_M} : wr_b (some (.inr 0, M)) [0, 1] = some (nI 1, M) := rfl
theorem wb_01_1 {M : fw_M} : wr_b (some (.inr 1, M)) [0, 1] = some (nI 2, M) := rfl
theorem wb_0234_0 {M : fw_M} : wr_b (some (.inr 0, M)) [0, 2, 3, 4] = some (nI 1, M) := rfl
theorem wb_0234_2 {M : fw_M} : wr_b (some (.inr 2, M)) [0, 2, 3, 4] = some (nI 2, M) := rfl
theorem wb_0234_3 {M : fw_M} : wr_b (some (.inr 3, M)) [0, 2, 3, 4] = some (nI 3, M) := rfl
theorem wb_0234_4 {M : fw_M} : wr_b (some (.inr 4, M)) [0, 2, 3, 4] = some (nI 4, M) := rfl
theorem ou_1 {a : Int32} {n : Nat} (h : a < nI 0 ∨ nI n ≤ a) (hn : n < 2 ^ 31) : a < nI 0 ∨ nI n - nI 1 < a := by
  rcases h with h | h
  · exact Or.inl h
  · by_cases h0 : a < nI 0
    · exact Or.inl h0
    · refine Or.inr ?_
      obtain ⟨j, hj, rfl⟩ := nI_of h0
      rw [nI_leI hn hj] at h
      cases n with
      | zero => exact (pm_4 hj) ▸ trivial
      | succ n =>
        rw [pk_sub (by omega), nI_ltI (by omega) hj]
        omega
theorem px_o (a : Int32) {n : Nat} (hn : n < 2 ^ 31) : (∃ j : Nat, j < n ∧ a = nI j) ∨ (a < nI 0 ∨ nI n ≤ a) := by
  rcases pk_ix a hn with h | h | h
  · exact Or.inr (Or.inl h)
  · exact Or.inr (Or.inr h)
  · exact Or.inl h
theorem in_f {M : fw_M} {a x y : Int32} {n : Nat} (h : a < nI 0 ∨ nI n ≤ a) (hn : n < 2 ^ 31) (hx : x = nI 0) (hy : y = nI n - nI 1) : F_X9_in M a x y = some (nI 0) := by
  subst hx
  subst hy
  unfold F_X9_in
  rcases ou_1 h hn with h | h
  · rw [if_pos h]; rfl
  · by_cases h0 : a < nI 0
    · rw [if_pos h0]; rfl
    · rw [if_neg h0, if_pos h]; rfl
theorem hs_Stop {M : fw_M} {a : Int32} {n g : Nat} (h : a < nI 0 ∨ nI n ≤ a) (e : M g 0 = nI n) : F_X3_hasStop M g a = some (nI 0) := by
  unfold F_X3_hasStop
  rcases h with h | h
  · exact if_pos h
  · by_cases h0 : a < 0
    · exact if_pos h0
    · rw [if_neg h0, e, if_pos h]; rfl
theorem rq_Stop {M : fw_M} {a : Int32} {n : Nat} (h : a < nI 0 ∨ nI n ≤ a) (e : M 1 0 = nI n) : F_X8_requireStop M a = some (.inr 0, M) := by
  unfold F_X8_requireStop
  rw [hs_Stop h e]
  rfl
theorem is_Stop {M : fw_M} {a : Int32} {n : Nat} (h : a < nI 0 ∨ nI n ≤ a) (hn : n < 2 ^ 31) (e : M 379 0 = nI n) : F_X9_isStop M a = some (nI 0) := by
  unfold F_X9_isStop
  rw [if_pos (show ix_i 0 129 by decide)]
  have e1 : fw_ri M 379 0 = nI n := e
  have e2 : F_X9_in M a 0 (nI n - 1) = some (nI 0) := in_f h hn rfl rfl
  rw [e1, e2]
  rfl
theorem ht_Stop {M : fw_M} {n k g : Nat} (hk : k < n) (hn : n < 2 ^ 31) (e : M g 0 = nI n) : F_X3_hasStop M g (nI k) = some (nI 1) := by
  unfold F_X3_hasStop
  rw [e]
  simp (disch := omega) only [ix_i, ↓pn_m, pn_l0, pn_l1, pn_l2, pn_l3, pn_l4, pn_l5, pn_l6, pn_l7, pn_l8, pn_l9, pn_l10, pn_l11, pn_l12, pn_l16, pn_l18, pn_l20, pn_l31, pn_l32, pn_l40, pn_l45, pn_l48, pn_l51, pn_l57, pn_l59, pn_l60, pn_l62, pn_l64, pn_l69, pn_l97, pn_l98, pn_l99, pn_l100, pn_l101, pn_l105, pn_l107, pn_l108, pn_l114, pn_l115, pn_l116, pn_l117, pn_l119, pn_l126, pn_l129, pn_l240, pn_l903, pn_l1032, nI_add, pk_mul, pk_sub, nI_clamp, nI_leI, nI_ltI, nI_eq, pm_1, pm_2, pm_3, pm_4, pm_5, pm_6, pm_7, pm_8, pn_lt, pn_nlt, pn_le, pn_nle, pn_ne, pn_eq, not_true_eq_false, not_false_eq_true, true_and, and_true, false_and, and_false, true_or, or_true, false_or, or_false, or_self, and_self, ne_eq, reduceIte, if_true, if_false, Nat.add_zero, Nat.zero_add, Nat.mul_zero, Nat.reduceAdd, Nat.reduceMul]
theorem rt_Stop {M : fw_M} {n k : Nat} (hk : k < n) (hn : n < 2 ^ 31) (e : M 1 0 = nI n) : F_X8_requireStop M (nI k) = some (.inl (nI 0), M) := by
  unfold F_X8_requireStop
  rw [ht_Stop hk hn e]
  rfl
theorem it_Stop {M : fw_M} {n k : Nat} (hk : k < n) (hn : n < 2 ^ 31) (e : M 379 0 = nI n) : F_X9_isStop M (nI k) = some (nI 1) := by
  unfold F_X9_isStop F_X9_in
  rw [if_pos (show ix_i 0 129 by decide)]
  have e1 : fw_ri M 379 0 = nI n := e
  rw [e1]
  simp (disch := omega) only [ix_i, ↓pn_m, pn_l0, pn_l1, pn_l2, pn_l3, pn_l4, pn_l5, pn_l6, pn_l7, pn_l8, pn_l9, pn_l10, pn_l11, pn_l12, pn_l16, pn_l18, pn_l20, pn_l31, pn_l32, pn_l40, pn_l45, pn_l48, pn_l51, pn_l57, pn_l59, pn_l60, pn_l62, pn_l64, pn_l69, pn_l97, pn_l98, pn_l99, pn_l100, pn_l101, pn_l105, pn_l107, pn_l108, pn_l114, pn_l115, pn_l116, pn_l117, pn_l119, pn_l126, pn_l129, pn_l240, pn_l903, pn_l1032, nI_add, pk_mul, pk_sub, nI_clamp, nI_leI, nI_ltI, nI_eq, pm_1, pm_2, pm_3, pm_4, pm_5, pm_6, pm_7, pm_8, pn_lt, pn_nlt, pn_le, pn_nle, pn_ne, pn_eq, not_true_eq_false, not_false_eq_true, true_and, and_true, false_and, and_false, true_or, or_true, false_or, or_false, or_self, and_self, ne_eq, reduceIte, if_true, if_false, Nat.add_zero, Nat.zero_add, Nat.mul_zero, Nat.reduceAdd, Nat.reduceMul, bx_s]
theorem hs_Line {M : fw_M} {a : Int32} {n g : Nat} (h : a < nI 0 ∨ nI n ≤ a) (e : M g 1 = nI n) : F_X3_hasLine M g a = some (nI 0) := by
  unfold F_X3_hasLine
  rcases h with h | h
  · exact if_pos h
  · by_cases h0 : a < 0
    · exact if_pos h0
    · rw [if_neg h0, e, if_pos h]; rfl
theorem rq_Line {M : fw_M} {a : Int32} {n : Nat} (h : a < nI 0 ∨ nI n ≤ a) (e : M 1 1 = nI n) : F_X8_requireLine M a = some (.inr 0, M) := by
  unfold F_X8_requireLine
  rw [hs_Line h e]
  rfl
theorem is_Line {M : fw_M} {a : Int32} {n : Nat} (h : a < nI 0 ∨ nI n ≤ a) (hn : n < 2 ^ 31) (e : M 379 1 = nI n) : F_X9_isLine M a = some (nI 0) := by
  unfold F_X9_isLine
  rw [if_pos (show ix_i 1 129 by decide)]
  have e1 : fw_ri M 379 1 = nI n := e
  have e2 : F_X9_in M a 0 (nI n - 1) = some (nI 0) := in_f h hn rfl rfl
  rw [e1, e2]
  rfl
theorem ht_Line {M : fw_M} {n k g : Nat} (hk : k < n) (hn : n < 2 ^ 31) (e : M g 1 = nI n) : F_X3_hasLine M g (nI k) = some (nI 1) := by
  unfold F_X3_hasLine
  rw [e]
  simp (disch := omega) only [ix_i, ↓pn_m, pn_l0, pn_l1, pn_l2, pn_l3, pn_l4, pn_l5, pn_l6, pn_l7, pn_l8, pn_l9, pn_l10, pn_l11, pn_l12, pn_l16, pn_l18, pn_l20, pn_l31, pn_l32, pn_l40, pn_l45, pn_l48, pn_l51, pn_l57, pn_l59, pn_l60, pn_l62, pn_l64, pn_l69, pn_l97, pn_l98, pn_l99, pn_l100, pn_l101, pn_l105, pn_l107, pn_l108, pn_l114, pn_l115, pn_l116, pn_l117, pn_l119, pn_l126, pn_l129, pn_l240, pn_l903, pn_l1032, nI_add, pk_mul, pk_sub, nI_clamp, nI_leI, nI_ltI, nI_eq, pm_1, pm_2, pm_3, pm_4, pm_5, pm_6, pm_7, pm_8, pn_lt, pn_nlt, pn_le, pn_nle, pn_ne, pn_eq, not_true_eq_false, not_false_eq_true, true_and, and_true, false_and, and_false, true_or, or_true, false_or, or_false, or_self, and_self, ne_eq, reduceIte, if_true, if_false, Nat.add_zero, Nat.zero_add, Nat.mul_zero, Nat.reduceAdd, Nat.reduceMul]
theorem rt_Line {M : fw_M} {n k : Nat} (hk : k < n) (hn : n < 2 ^ 31) (e : M 1 1 = nI n) : F_X8_requireLine M (nI k) = some (.inl (nI 0), M) := by
  unfold F_X8_requireLine
  rw [ht_Line hk hn e]
  rfl
theorem it_Line {M : fw_M} {n k : Nat} (hk : k < n) (hn : n < 2 ^ 31) (e : M 379 1 = nI n) : F_X9_isLine M (nI k) = some (nI 1) := by
  unfold F_X9_isLine F_X9_in
  rw [if_pos (show ix_i 1 129 by decide)]
  have e1 : fw_ri M 379 1 = nI n := e
  rw [e1]
  simp (disch := omega) only [ix_i, ↓pn_m, pn_l0, pn_l1, pn_l2, pn_l3, pn_l4, pn_l5, pn_l6, pn_l7, pn_l8, pn_l9, pn_l10, pn_l11, pn_l12, pn_l16, pn_l18, pn_l20, pn_l31, pn_l32, pn_l40, pn_l45, pn_l48, pn_l51, pn_l57, pn_l59, pn_l60, pn_l62, pn_l64, pn_l69, pn_l97, pn_l98, pn_l99, pn_l100, pn_l101, pn_l105, pn_l107, pn_l108, pn_l114, pn_l115, pn_l116, pn_l117, pn_l119, pn_l126, pn_l129, pn_l240, pn_l903, pn_l1032, nI_add, pk_mul, pk_sub, nI_clamp, nI_leI, nI_ltI, nI_eq, pm_1, pm_2, pm_3, pm_4, pm_5, pm_6, pm_7, pm_8, pn_lt, pn_nlt, pn_le, pn_nle, pn_ne, pn_eq, not_true_eq_false, not_false_eq_true, true_and, and_true, false_and, and_false, true_or, or_true, false_or, or_false, or_self, and_self, ne_eq, reduceIte, if_true, if_false, Nat.add_zero, Nat.zero_add, Nat.mul_zero, Nat.reduceAdd, Nat.reduceMul, bx_s]
theorem hs_Tram {M : fw_M} {a : Int32} {n g : Nat} (h : a < nI 0 ∨ nI n ≤ a) (e : M g 0 = nI n) : F_X1_hasTram M g a = some (nI 0) := by
  unfold F_X1_hasTram
  rcases h with h | h
  · exact if_pos h
  · by_cases h0 : a < 0
    · exact if_pos h0
    · rw [if_neg h0, e, if_pos h]; rfl
theorem rq_Tram {M : fw_M} {a : Int32} {n : Nat} (h : a < nI 0 ∨ nI n ≤ a) (e : M 11 0 = nI n) : F_X8_requireTram M a = some (.inr 0, M) := by
  unfold F_X8_requireTram
  rw [hs_Tram h e]
  rfl
theorem is_Tram {M : fw_M} {a : Int32} {n : Nat} (h : a < nI 0 ∨ nI n ≤ a) (hn : n < 2 ^ 31) (e : M 379 2 = nI n) : F_X9_isTram M a = some (nI 0) := by
  unfold F_X9_isTram
  rw [if_pos (show ix_i 2 129 by decide)]
  have e1 : fw_ri M 379 2 = nI n := e
  have e2 : F_X9_in M a 0 (nI n - 1) = some (nI 0) := in_f h hn rfl rfl
  rw [e1, e2]
  rfl
theorem ht_Tram {M : fw_M} {n k g : Nat} (hk : k < n) (hn : n < 2 ^ 31) (e : M g 0 = nI n) : F_X1_hasTram M g (nI k) = some (nI 1) := by
  unfold F_X1_hasTram
  rw [e]
  simp (disch := omega) only [ix_i, ↓pn_m, pn_l0, pn_l1, pn_l2, pn_l3, pn_l4, pn_l5, pn_l6, pn_l7, pn_l8, pn_l9, pn_l10, pn_l11, pn_l12, pn_l16, pn_l18, pn_l20, pn_l31, pn_l32, pn_l40, pn_l45, pn_l48, pn_l51, pn_l57, pn_l59, pn_l60, pn_l62, pn_l64, pn_l69, pn_l97, pn_l98, pn_l99, pn_l100, pn_l101, pn_l105, pn_l107, pn_l108, pn_l114, pn_l115, pn_l116, pn_l117, pn_l119, pn_l126, pn_l129, pn_l240, pn_l903, pn_l1032, nI_add, pk_mul, pk_sub, nI_clamp, nI_leI, nI_ltI, nI_eq, pm_1, pm_2, pm_3, pm_4, pm_5, pm_6, pm_7, pm_8, pn_lt, pn_nlt, pn_le, pn_nle, pn_ne, pn_eq, not_true_eq_false, not_false_eq_true, true_and, and_true, false_and, and_false, true_or, or_true, false_or, or_false, or_self, and_self, ne_eq, reduceIte, if_true, if_false, Nat.add_zero, Nat.zero_add, Nat.mul_zero, Nat.reduceAdd, Nat.reduceMul]
theorem rt_Tram {M : fw_M} {n k : Nat} (hk : k < n) (hn : n < 2 ^ 31) (e : M 11 0 = nI n) : F_X8_requireTram M (nI k) = some (.inl (nI 0), M) := by
  unfold F_X8_requireTram
  rw [ht_Tram hk hn e]
  rfl
theorem it_Tram {M : fw_M} {n k : Nat} (hk : k < n) (hn : n < 2 ^ 31) (e : M 379 2 = nI n) : F_X9_isTram M (nI k) = some (nI 1) := by
  unfold F_X9_isTram F_X9_in
  rw [if_pos (show ix_i 2 129 by decide)]
  have e1 : fw_ri M 379 2 = nI n := e
  rw [e1]
  simp (disch := omega) only [ix_i, ↓pn_m, pn_l0, pn_l1, pn_l2, pn_l3, pn_l4, pn_l5, pn_l6, pn_l7, pn_l8, pn_l9, pn_l10, pn_l11, pn_l12, pn_l16, pn_l18, pn_l20, pn_l31, pn_l32, pn_l40, pn_l45, pn_l48, pn_l51, pn_l57, pn_l59, pn_l60, pn_l62, pn_l64, pn_l69, pn_l97, pn_l98, pn_l99, pn_l100, pn_l101, pn_l105, pn_l107, pn_l108, pn_l114, pn_l115, pn_l116, pn_l117, pn_l119, pn_l126, pn_l129, pn_l240, pn_l903, pn_l1032, nI_add, pk_mul, pk_sub, nI_clamp, nI_leI, nI_ltI, nI_eq, pm_1, pm_2, pm_3, pm_4, pm_5, pm_6, pm_7, pm_8, pn_lt, pn_nlt, pn_le, pn_nle, pn_ne, pn_eq, not_true_eq_false, not_false_eq_true, true_and, and_true, false_and, and_false, true_or, or_true, false_or, or_false, or_self, and_self, ne_eq, reduceIte, if_true, if_false, Nat.add_zero, Nat.zero_add, Nat.mul_zero, Nat.reduceAdd, Nat.reduceMul, bx_s]
theorem hs_Passenger {M : fw_M} {a : Int32} {n g : Nat} (h : a < nI 0 ∨ nI n ≤ a) (e : M g 0 = nI n) : F_X6_hasPassenger M g a = some (nI 0) := by
  unfold F_X6_hasPassenger
  rcases h with h | h
  · exact if_pos h
  · by_cases h0 : a < 0
    · exact if_pos h0
    · rw [if_neg h0, e, if_pos h]; rfl
theorem rq_Passenger {M : fw_M} {a : Int32} {n : Nat} (h : a < nI 0 ∨ nI n ≤ a) (e : M 15 0 = nI n) : F_X8_requirePassenger M a = some (.inr 0, M) := by
  unfold F_X8_requirePassenger
  rw [hs_Passenger h e]
  rfl
theorem is_Passenger {M : fw_M} {a : Int32} {n : Nat} (h : a < nI 0 ∨ nI n ≤ a) (hn : n < 2 ^ 31) (e : M 379 3 = nI n) : F_X9_isPassenger M a = some (nI 0) := by
  unfold F_X9_isPassenger
  rw [if_pos (show ix_i 3 129 by decide)]
  have e1 : fw_ri M 379 3 = nI n := e
  have e2 : F_X9_in M a 0 (nI n - 1) = some (nI 0) := in_f h hn rfl rfl
  rw [e1, e2]
  rfl
theorem ht_Passenger {M : fw_M} {n k g : Nat} (hk : k < n) (hn : n < 2 ^ 31) (e : M g 0 = nI n) : F_X6_hasPassenger M g (nI k) = some (nI 1) := by
  unfold F_X6_hasPassenger
  rw [e]
  simp (disch := omega) only [ix_i, ↓pn_m, pn_l0, pn_l1, pn_l2, pn_l3, pn_l4, pn_l5, pn_l6, pn_l7, pn_l8, pn_l9, pn_l10, pn_l11, pn_l12, pn_l16, pn_l18, pn_l20, pn_l31, pn_l32, pn_l40, pn_l45, pn_l48, pn_l51, pn_l57, pn_l59, pn_l60, pn_l62, pn_l64, pn_l69, pn_l97, pn_l98, pn_l99, pn_l100, pn_l101, pn_l105, pn_l107, pn_l108, pn_l114, pn_l115, pn_l116, pn_l117, pn_l119, pn_l126, pn_l129, pn_l240, pn_l903, pn_l1032, nI_add, pk_mul, pk_sub, nI_clamp, nI_leI, nI_ltI, nI_eq, pm_1, pm_2, pm_3, pm_4, pm_5, pm_6, pm_7, pm_8, pn_lt, pn_nlt, pn_le, pn_nle, pn_ne, pn_eq, not_true_eq_false, not_false_eq_true, true_and, and_true, false_and, and_false, true_or, or_true, false_or, or_false, or_self, and_self, ne_eq, reduceIte, if_true, if_false, Nat.add_zero, Nat.zero_add, Nat.mul_zero, Nat.reduceAdd, Nat.reduceMul]
theorem rt_Passenger {M : fw_M} {n k : Nat} (hk : k < n) (hn : n < 2 ^ 31) (e : M 15 0 = nI n) : F_X8_requirePassenger M (nI k) = some (.inl (nI 0), M) := by
  unfold F_X8_requirePassenger
  rw [ht_Passenger hk hn e]
  rfl
theorem it_Passenger {M : fw_M} {n k : Nat} (hk : k < n) (hn : n < 2 ^ 31) (e : M 379 3 = nI n) : F_X9_isPassenger M (nI k) = some (nI 1) := by
  unfold F_X9_isPassenger F_X9_in
  rw [if_pos (show ix_i 3 129 by decide)]
  have e1 : fw_ri M 379 3 = nI n := e
  rw [e1]
  simp (disch := omega) only [ix_i, ↓pn_m, pn_l0, pn_l1, pn_l2, pn_l3, pn_l4, pn_l5, pn_l6, pn_l7, pn_l8, pn_l9, pn_l10, pn_l11, pn_l12, pn_l16, pn_l18, pn_l20, pn_l31, pn_l32, pn_l40, pn_l45, pn_l48, pn_l51, pn_l57, pn_l59, pn_l60, pn_l62, pn_l64, pn_l69, pn_l97, pn_l98, pn_l99, pn_l100, pn_l101, pn_l105, pn_l107, pn_l108, pn_l114, pn_l115, pn_l116, pn_l117, pn_l119, pn_l126, pn_l129, pn_l240, pn_l903, pn_l1032, nI_add, pk_mul, pk_sub, nI_clamp, nI_leI, nI_ltI, nI_eq, pm_1, pm_2, pm_3, pm_4, pm_5, pm_6, pm_7, pm_8, pn_lt, pn_nlt, pn_le, pn_nle, pn_ne, pn_eq, not_true_eq_false, not_false_eq_true, true_and, and_true, false_and, and_false, true_or, or_true, false_or, or_false, or_self, and_self, ne_eq, reduceIte, if_true, if_false, Nat.add_zero, Nat.zero_add, Nat.mul_zero, Nat.reduceAdd, Nat.reduceMul, bx_s]
theorem hs_Secret {M : fw_M} {a : Int32} {n g : Nat} (h : a < nI 0 ∨ nI n ≤ a) (e : M g 0 = nI n) : F_X2_hasSecret M g a = some (nI 0) := by
  unfold F_X2_hasSecret
  rcases h with h | h
  · exact if_pos h
  · by_cases h0 : a < 0
    · exact if_pos h0
    · rw [if_neg h0, e, if_pos h]; rfl
theorem rq_Secret {M : fw_M} {a : Int32} {n : Nat} (h : a < nI 0 ∨ nI n ≤ a) (e : M 22 0 = nI n) : F_X8_requireSecret M a = some (.inr 0, M) := by
  unfold F_X8_requireSecret
  rw [hs_Secret h e]
  rfl
theorem is_Secret {M : fw_M} {a : Int32} {n : Nat} (h : a < nI 0 ∨ nI n ≤ a) (hn : n < 2 ^ 31) (e : M 379 4 = nI n) : F_X9_isSecret M a = some (nI 0) := by
  unfold F_X9_isSecret
  rw [if_pos (show ix_i 4 129 by decide)]
  have e1 : fw_ri M 379 4 = nI n := e
  have e2 : F_X9_in M a 0 (nI n - 1) = some (nI 0) := in_f h hn rfl rfl
  rw [e1, e2]
  rfl
theorem ht_Secret {M : fw_M} {n k g : Nat} (hk : k < n) (hn : n < 2 ^ 31) (e : M g 0 = nI n) : F_X2_hasSecret M g (nI k) = some (nI 1) := by
  unfold F_X2_hasSecret
  rw [e]
  simp (disch := omega) only [ix_i, ↓pn_m, pn_l0, pn_l1, pn_l2, pn_l3, pn_l4, pn_l5, pn_l6, pn_l7, pn_l8, pn_l9, pn_l10, pn_l11, pn_l12, pn_l16, pn_l18, pn_l20, pn_l31, pn_l32, pn_l40, pn_l45, pn_l48, pn_l51, pn_l57, pn_l59, pn_l60, pn_l62, pn_l64, pn_l69, pn_l97, pn_l98, pn_l99, pn_l100, pn_l101, pn_l105, pn_l107, pn_l108, pn_l114, pn_l115, pn_l116, pn_l117, pn_l119, pn_l126, pn_l129, pn_l240, pn_l903, pn_l1032, nI_add, pk_mul, pk_sub, nI_clamp, nI_leI, nI_ltI, nI_eq, pm_1, pm_2, pm_3, pm_4, pm_5, pm_6, pm_7, pm_8, pn_lt, pn_nlt, pn_le, pn_nle, pn_ne, pn_eq, not_true_eq_false, not_false_eq_true, true_and, and_true, false_and, and_false, true_or, or_true, false_or, or_false, or_self, and_self, ne_eq, reduceIte, if_true, if_false, Nat.add_zero, Nat.zero_add, Nat.mul_zero, Nat.reduceAdd, Nat.reduceMul]
theorem rt_Secret {M : fw_M} {n k : Nat} (hk : k < n) (hn : n < 2 ^ 31) (e : M 22 0 = nI n) : F_X8_requireSecret M (nI k) = some (.inl (nI 0), M) := by
  unfold F_X8_requireSecret
  rw [ht_Secret hk hn e]
  rfl
theorem it_Secret {M : fw_M} {n k : Nat} (hk : k < n) (hn : n < 2 ^ 31) (e : M 379 4 = nI n) : F_X9_isSecret M (nI k) = some (nI 1) := by
  unfold F_X9_isSecret F_X9_in
  rw [if_pos (show ix_i 4 129 by decide)]
  have e1 : fw_ri M 379 4 = nI n := e
  rw [e1]
  simp (disch := omega) only [ix_i, ↓pn_m, pn_l0, pn_l1, pn_l2, pn_l3, pn_l4, pn_l5, pn_l6, pn_l7, pn_l8, pn_l9, pn_l10, pn_l11, pn_l12, pn_l16, pn_l18, pn_l20, pn_l31, pn_l32, pn_l40, pn_l45, pn_l48, pn_l51, pn_l57, pn_l59, pn_l60, pn_l62, pn_l64, pn_l69, pn_l97, pn_l98, pn_l99, pn_l100, pn_l101, pn_l105, pn_l107, pn_l108, pn_l114, pn_l115, pn_l116, pn_l117, pn_l119, pn_l126, pn_l129, pn_l240, pn_l903, pn_l1032, nI_add, pk_mul, pk_sub, nI_clamp, nI_leI, nI_ltI, nI_eq, pm_1, pm_2, pm_3, pm_4, pm_5, pm_6, pm_7, pm_8, pn_lt, pn_nlt, pn_le, pn_nle, pn_ne, pn_eq, not_true_eq_false, not_false_eq_true, true_and, and_true, false_and, and_false, true_or, or_true, false_or, or_false, or_self, and_self, ne_eq, reduceIte, if_true, if_false, Nat.add_zero, Nat.zero_add, Nat.mul_zero, Nat.reduceAdd, Nat.reduceMul, bx_s]
theorem q_3 {M : fw_M} (h : Inv M) (xs : Nat → Int32) (i : Int32) : ∃ M1, F_cs_3 M xs i = some M1 ∧ Inv M1 := by
  have hI := h
  obtain ⟨⟨s, ⟨⟨⟨c0, b0⟩, ⟨c1, b1⟩, ⟨c2, b2⟩, ⟨c3, b3⟩, c4, b4⟩, oz, ol, os, od, ot, op, oq⟩, hR, hS⟩, -⟩ := h
  obtain ⟨⟨r0, r1, r2, r3, r4, r5⟩, rz, rl, rs, rt, ru, rp, rq⟩ := R0 hR
  have hS : ∀ j, j < 129 → M 379 j = s j := hS
  unfold F_cs_3
  simp (disch := omega) only [F_X8_stopCount, F_X9_stopCount, ix_i, ↓pn_m, pn_l0, pn_l1, pn_l2, pn_l3, pn_l4, pn_l5, pn_l6, pn_l7, pn_l8, pn_l9, pn_l10, pn_l11, pn_l12, pn_l16, pn_l18, pn_l20, pn_l31, pn_l32, pn_l40, pn_l45, pn_l48, pn_l51, pn_l57, pn_l59, pn_l60, pn_l62, pn_l64, pn_l69, pn_l97, pn_l98, pn_l99, pn_l100, pn_l101, pn_l105, pn_l107, pn_l108, pn_l114, pn_l115, pn_l116, pn_l117, pn_l119, pn_l126, pn_l129, pn_l240, pn_l903, pn_l1032, nI_add, pk_mul, pk_sub, nI_clamp, nI_leI, nI_ltI, nI_eq, pm_1, pm_2, pm_3, pm_4, pm_5, pm_6, pm_7, pm_8, pn_lt, pn_nlt, pn_le, pn_nle, pn_ne, pn_eq, not_true_eq_false, not_false_eq_true, true_and, and_true, false_and, and_false, true_or, or_true, false_or, or_false, or_self, and_self, ne_eq, reduceIte, if_true, if_false, Nat.add_zero, Nat.zero_add, Nat.mul_zero, Nat.reduceAdd, Nat.reduceMul, fw_wi, fw_ri, up_e, up_n1, up_n2, cp_n, bx_s, bp_s, bt_l, bt_r, lx_s, r0, r1, r2, r3, r4, r5, rz, rl, rs, rt, ru, rp, rq, hS, c0, c1, c2, c3, c4, lc_t, wl_s, wb_s]
  exact ⟨_, rfl, hI.sm (by repeat first | exact sm_0 | refine sm_386 ?_ | refine sm_378 ?_)⟩
theorem q_6 {M : fw_M} (h : Inv M) (xs : Nat → Int32) (i : Int32) : ∃ M1, F_cs_6 M xs i = some M1 ∧ Inv M1 := by
  have hI := h
  obtain ⟨⟨s, ⟨⟨⟨c0, b0⟩, ⟨c1, b1⟩, ⟨c2, b2⟩, ⟨c3, b3⟩, c4, b4⟩, oz, ol, os, od, ot, op, oq⟩, hR, hS⟩, -⟩ := h
  obtain ⟨⟨r0, r1, r2, r3, r4, r5⟩, rz, rl, rs, rt, ru, rp, rq⟩ := R0 hR
  have hS : ∀ j, j < 129 → M 379 j = s j := hS
  unfold F_cs_6
  simp (disch := omega) only [F_X8_lineCount, F_X9_lineCount, ix_i, ↓pn_m, pn_l0, pn_l1, pn_l2, pn_l3, pn_l4, pn_l5, pn_l6, pn_l7, pn_l8, pn_l9, pn_l10, pn_l11, pn_l12, pn_l16, pn_l18, pn_l20, pn_l31, pn_l32, pn_l40, pn_l45, pn_l48, pn_l51, pn_l57, pn_l59, pn_l60, pn_l62, pn_l64, pn_l69, pn_l97, pn_l98, pn_l99, pn_l100, pn_l101, pn_l105, pn_l107, pn_l108, pn_l114, pn_l115, pn_l116, pn_l117, pn_l119, pn_l126, pn_l129, pn_l240, pn_l903, pn_l1032, nI_add, pk_mul, pk_sub, nI_clamp, nI_leI, nI_ltI, nI_eq, pm_1, pm_2, pm_3, pm_4, pm_5, pm_6, pm_7, pm_8, pn_lt, pn_nlt, pn_le, pn_nle, pn_ne, pn_eq, not_true_eq_false, not_false_eq_true, true_and, and_true, false_and, and_false, true_or, or_true, false_or, or_false, or_self, and_self, ne_eq, reduceIte, if_true, if_false, Nat.add_zero, Nat.zero_add, Nat.mul_zero, Nat.reduceAdd, Nat.reduceMul, fw_wi, fw_ri, up_e, up_n1, up_n2, cp_n, bx_s, bp_s, bt_l, bt_r, lx_s, r0, r1, r2, r3, r4, r5, rz, rl, rs, rt, ru, rp, rq, hS, c0, c1, c2, c3, c4, lc_t, wl_s, wb_s]
  exact ⟨_, rfl, hI.sm (by repeat first | exact sm_0 | refine sm_386 ?_ | refine sm_378 ?_)⟩
theorem q_12 {M : fw_M} (h : Inv M) (xs : Nat → Int32) (i : Int32) : ∃ M1, F_cs_12 M xs i = some M1 ∧ Inv M1 := by
  have hI := h
  obtain ⟨⟨s, ⟨⟨⟨c0, b0⟩, ⟨c1, b1⟩, ⟨c2, b2⟩, ⟨c3, b3⟩, c4, b4⟩, oz, ol, os, od, ot, op, oq⟩, hR, hS⟩, -⟩ := h
  obtain ⟨⟨r0, r1, r2, r3, r4, r5⟩, rz, rl, rs, rt, ru, rp, rq⟩ := R0 hR
  have hS : ∀ j, j < 129 → M 379 j = s j := hS
  unfold F_cs_12
  simp (disch := omega) only [F_X8_tickCount, F_X9_tickCount, ix_i, ↓pn_m, pn_l0, pn_l1, pn_l2, pn_l3, pn_l4, pn_l5, pn_l6, pn_l7, pn_l8, pn_l9, pn_l10, pn_l11, pn_l12, pn_l16, pn_l18, pn_l20, pn_l31, pn_l32, pn_l40, pn_l45, pn_l48, pn_l51, pn_l57, pn_l59, pn_l60, pn_l62, pn_l64, pn_l69, pn_l97, pn_l98, pn_l99, pn_l100, pn_l101, pn_l105, pn_l107, pn_l108, pn_l114, pn_l115, pn_l116, pn_l117, pn_l119, pn_l126, pn_l129, pn_l240, pn_l903, pn_l1032, nI_add, pk_mul, pk_sub, nI_clamp, nI_leI, nI_ltI, nI_eq, pm_1, pm_2, pm_3, pm_4, pm_5, pm_6, pm_7, pm_8, pn_lt, pn_nlt, pn_le, pn_nle, pn_ne, pn_eq, not_true_eq_false, not_false_eq_true, true_and, and_true, false_and, and_false, true_or, or_true, false_or, or_false, or_self, and_self, ne_eq, reduceIte, if_true, if_false, Nat.add_zero, Nat.zero_add, Nat.mul_zero, Nat.reduceAdd, Nat.reduceMul, fw_wi, fw_ri, up_e, up_n1, up_n2, cp_n, bx_s, bp_s, bt_l, bt_r, lx_s, r0, r1, r2, r3, r4, r5, rz, rl, rs, rt, ru, rp, rq, hS, c0, c1, c2, c3, c4, lc_t, wl_s, wb_s]
  exact ⟨_, rfl, hI.sm (by repeat first | exact sm_0 | refine sm_386 ?_ | refine sm_378 ?_)⟩
theorem q_13 {M : fw_M} (h : Inv M) (xs : Nat → Int32) (i : Int32) : ∃ M1, F_cs_13 M xs i = some M1 ∧ Inv M1 := by
  have hI := h
  obtain ⟨⟨s, ⟨⟨⟨c0, b0⟩, ⟨c1, b1⟩, ⟨c2, b2⟩, ⟨c3, b3⟩, c4, b4⟩, oz, ol, os, od, ot, op, oq⟩, hR, hS⟩, -⟩ := h
  obtain ⟨⟨r0, r1, r2, r3, r4, r5⟩, rz, rl, rs, rt, ru, rp, rq⟩ := R0 hR
  have hS : ∀ j, j < 129 → M 379 j = s j := hS
  unfold F_cs_13
  simp (disch := omega) only [F_X8_tramCount, F_X9_tramCount, ix_i, ↓pn_m, pn_l0, pn_l1, pn_l2, pn_l3, pn_l4, pn_l5, pn_l6, pn_l7, pn_l8, pn_l9, pn_l10, pn_l11, pn_l12, pn_l16, pn_l18, pn_l20, pn_l31, pn_l32, pn_l40, pn_l45, pn_l48, pn_l51, pn_l57, pn_l59, pn_l60, pn_l62, pn_l64, pn_l69, pn_l97, pn_l98, pn_l99, pn_l100, pn_l101, pn_l105, pn_l107, pn_l108, pn_l114, pn_l115, pn_l116, pn_l117, pn_l119, pn_l126, pn_l129, pn_l240, pn_l903, pn_l1032, nI_add, pk_mul, pk_sub, nI_clamp, nI_leI, nI_ltI, nI_eq, pm_1, pm_2, pm_3, pm_4, pm_5, pm_6, pm_7, pm_8, pn_lt, pn_nlt, pn_le, pn_nle, pn_ne, pn_eq, not_true_eq_false, not_false_eq_true, true_and, and_true, false_and, and_false, true_or, or_true, false_or, or_false, or_self, and_self, ne_eq, reduceIte, if_true, if_false, Nat.add_zero, Nat.zero_add, Nat.mul_zero, Nat.reduceAdd, Nat.reduceMul, fw_wi, fw_ri, up_e, up_n1, up_n2, cp_n, bx_s, bp_s, bt_l, bt_r, lx_s, r0, r1, r2, r3, r4, r5, rz, rl, rs, rt, ru, rp, rq, hS, c0, c1, c2, c3, c4, lc_t, wl_s, wb_s]
  exact ⟨_, rfl, hI.sm (by repeat first | exact sm_0 | refine sm_386 ?_ | refine sm_378 ?_)⟩
theorem q_25 {M : fw_M} (h : Inv M) (xs : Nat → Int32) (i : Int32) : ∃ M1, F_cs_25 M xs i = some M1 ∧ Inv M1 := by
  have hI := h
  obtain ⟨⟨s, ⟨⟨⟨c0, b0⟩, ⟨c1, b1⟩, ⟨c2, b2⟩, ⟨c3, b3⟩, c4, b4⟩, oz, ol, os, od, ot, op, oq⟩, hR, hS⟩, -⟩ := h
  obtain ⟨⟨r0, r1, r2, r3, r4, r5⟩, rz, rl, rs, rt, ru, rp, rq⟩ := R0 hR
  have hS : ∀ j, j < 129 → M 379 j = s j := hS
  unfold F_cs_25
  simp (disch := omega) only [F_X8_passengerCount, F_X9_passengerCount, ix_i, ↓pn_m, pn_l0, pn_l1, pn_l2, pn_l3, pn_l4, pn_l5, pn_l6, pn_l7, pn_l8, pn_l9, pn_l10, pn_l11, pn_l12, pn_l16, pn_l18, pn_l20, pn_l31, pn_l32, pn_l40, pn_l45, pn_l48, pn_l51, pn_l57, pn_l59, pn_l60, pn_l62, pn_l64, pn_l69, pn_l97, pn_l98, pn_l99, pn_l100, pn_l101, pn_l105, pn_l107, pn_l108, pn_l114, pn_l115, pn_l116, pn_l117, pn_l119, pn_l126, pn_l129, pn_l240, pn_l903, pn_l1032, nI_add, pk_mul, pk_sub, nI_clamp, nI_leI, nI_ltI, nI_eq, pm_1, pm_2, pm_3, pm_4, pm_5, pm_6, pm_7, pm_8, pn_lt, pn_nlt, pn_le, pn_nle, pn_ne, pn_eq, not_true_eq_false, not_false_eq_true, true_and, and_true, false_and, and_false, true_or, or_true, false_or, or_false, or_self, and_self, ne_eq, reduceIte, if_true, if_false, Nat.add_zero, Nat.zero_add, Nat.mul_zero, Nat.reduceAdd, Nat.reduceMul, fw_wi, fw_ri, up_e, up_n1, up_n2, cp_n, bx_s, bp_s, bt_l, bt_r, lx_s, r0, r1, r2, r3, r4, r5, rz, rl, rs, rt, ru, rp, rq, hS, c0, c1, c2, c3, c4, lc_t, wl_s, wb_s]
  exact ⟨_, rfl, hI.sm (by repeat first | exact sm_0 | refine sm_386 ?_ | refine sm_378 ?_)⟩
theorem q_34 {M : fw_M} (h : Inv M) (xs : Nat → Int32) (i : Int32) : ∃ M1, F_cs_34 M xs i = some M1 ∧ Inv M1 := by
  have hI := h
  obtain ⟨⟨s, ⟨⟨⟨c0, b0⟩, ⟨c1, b1⟩, ⟨c2, b2⟩, ⟨c3, b3⟩, c4, b4⟩, oz, ol, os, od, ot, op, oq⟩, hR, hS⟩, -⟩ := h
  obtain ⟨⟨r0, r1, r2, r3, r4, r5⟩, rz, rl, rs, rt, ru, rp, rq⟩ := R0 hR
  have hS : ∀ j, j < 129 → M 379 j = s j := hS
  unfold F_cs_34
  simp (disch := omega) only [F_X8_secretCount, F_X9_secretCount, ix_i, ↓pn_m, pn_l0, pn_l1, pn_l2, pn_l3, pn_l4, pn_l5, pn_l6, pn_l7, pn_l8, pn_l9, pn_l10, pn_l11, pn_l12, pn_l16, pn_l18, pn_l20, pn_l31, pn_l32, pn_l40, pn_l45, pn_l48, pn_l51, pn_l57, pn_l59, pn_l60, pn_l62, pn_l64, pn_l69, pn_l97, pn_l98, pn_l99, pn_l100, pn_l101, pn_l105, pn_l107, pn_l108, pn_l114, pn_l115, pn_l116, pn_l117, pn_l119, pn_l126, pn_l129, pn_l240, pn_l903, pn_l1032, nI_add, pk_mul, pk_sub, nI_clamp, nI_leI, nI_ltI, nI_eq, pm_1, pm_2, pm_3, pm_4, pm_5, pm_6, pm_7, pm_8, pn_lt, pn_nlt, pn_le, pn_nle, pn_ne, pn_eq, not_true_eq_false, not_false_eq_true, true_and, and_true, false_and, and_false, true_or, or_true, false_or, or_false, or_self, and_self, ne_eq, reduceIte, if_true, if_false, Nat.add_zero, Nat.zero_add, Nat.mul_zero, Nat.reduceAdd, Nat.reduceMul, fw_wi, fw_ri, up_e, up_n1, up_n2, cp_n, bx_s, bp_s, bt_l, bt_r, lx_s, r0, r1, r2, r3, r4, r5, rz, rl, rs, rt, ru, rp, rq, hS, c0, c1, c2, c3, c4, lc_t, wl_s, wb_s]
  exact ⟨_, rfl, hI.sm (by repeat first | exact sm_0 | refine sm_386 ?_ | refine sm_378 ?_)⟩
theorem q_4 {M : fw_M} (h : Inv M) (xs : Nat → Int32) (i : Int32) : ∃ M1, F_cs_4 M xs i = some M1 ∧ Inv M1 := by
  have hI := h
  obtain ⟨⟨s, ⟨⟨⟨c0, b0⟩, ⟨c1, b1⟩, ⟨c2, b2⟩, ⟨c3, b3⟩, c4, b4⟩, oz, ol, os, od, ot, op, oq⟩, hR, hS⟩, -⟩ := h
  obtain ⟨⟨r0, r1, r2, r3, r4, r5⟩, rz, rl, rs, rt, ru, rp, rq⟩ := R0 hR
  have hS : ∀ j, j < 129 → M 379 j = s j := hS
  unfold F_cs_4
  generalize xs (i + 1).toNatClampNeg = a
  rcases px_o a (n := sv s 0) (by omega) with ⟨k, hk, rfl⟩ | hk
  · have e1 : F_X8_requireStop M (nI k) = some (.inl (nI 0), M) := rt_Stop hk (by omega) (by simp only [r0, r1, r2, r3, r4]; assumption)
    have e2 : ∀ M1 : fw_M, M1 379 = M 379 → F_X9_isStop M1 (nI k) = some (nI 1) := fun M1 q => it_Stop hk (by omega) (by rw [q, hS 0 (by omega)]; assumption)
    simp (disch := first | omega | rfl | (simp (disch := omega) only [up_n1])) only [F_L_zoneOf, F_X8_zoneOf,  F_X9_zoneOf, F_X9_isThere, F_X9_thrown,  e1, e2, ix_i, ↓pn_m, pn_l0, pn_l1, pn_l2, pn_l3, pn_l4, pn_l5, pn_l6, pn_l7, pn_l8, pn_l9, pn_l10, pn_l11, pn_l12, pn_l16, pn_l18, pn_l20, pn_l31, pn_l32, pn_l40, pn_l45, pn_l48, pn_l51, pn_l57, pn_l59, pn_l60, pn_l62, pn_l64, pn_l69, pn_l97, pn_l98, pn_l99, pn_l100, pn_l101, pn_l105, pn_l107, pn_l108, pn_l114, pn_l115, pn_l116, pn_l117, pn_l119, pn_l126, pn_l129, pn_l240, pn_l903, pn_l1032, nI_add, pk_mul, pk_sub, nI_clamp, nI_leI, nI_ltI, nI_eq, pm_1, pm_2, pm_3, pm_4, pm_5, pm_6, pm_7, pm_8, pn_lt, pn_nlt, pn_le, pn_nle, pn_ne, pn_eq, not_true_eq_false, not_false_eq_true, true_and, and_true, false_and, and_false, true_or, or_true, false_or, or_false, or_self, and_self, ne_eq, reduceIte, if_true, if_false, Nat.add_zero, Nat.zero_add, Nat.mul_zero, Nat.reduceAdd, Nat.reduceMul, fw_wi, fw_ri, up_e, up_n1, up_n2, cp_n, bx_s, bp_s, bt_l, bt_r, lx_s, r0, r1, r2, r3, r4, r5, rz, rl, rs, rt, ru, rp, rq, hS, c0, c1, c2, c3, c4, lc_t, wl_s, wb_s]
    exact ⟨_, rfl, hI.sm (by repeat first | exact sm_0 | refine sm_386 ?_ | refine sm_378 ?_)⟩
  · have e1 : F_X8_requireStop M a = some (.inr 0, M) := rq_Stop hk (by simp only [r0, r1, r2, r3, r4]; assumption)
    have e2 : F_X9_isStop M a = some (nI 0) := is_Stop hk (by omega) (by rw [hS 0 (by omega)]; assumption)
    simp (disch := omega) only [F_L_zoneOf, F_X8_zoneOf, F_X9_zoneOf, F_X9_isThere, F_X9_thrown, e1, e2, wl_0_0, ix_i, ↓pn_m, pn_l0, pn_l1, pn_l2, pn_l3, pn_l4, pn_l5, pn_l6, pn_l7, pn_l8, pn_l9, pn_l10, pn_l11, pn_l12, pn_l16, pn_l18, pn_l20, pn_l31, pn_l32, pn_l40, pn_l45, pn_l48, pn_l51, pn_l57, pn_l59, pn_l60, pn_l62, pn_l64, pn_l69, pn_l97, pn_l98, pn_l99, pn_l100, pn_l101, pn_l105, pn_l107, pn_l108, pn_l114, pn_l115, pn_l116, pn_l117, pn_l119, pn_l126, pn_l129, pn_l240, pn_l903, pn_l1032, nI_add, pk_mul, pk_sub, nI_clamp, nI_leI, nI_ltI, nI_eq, pm_1, pm_2, pm_3, pm_4, pm_5, pm_6, pm_7, pm_8, pn_lt, pn_nlt, pn_le, pn_nle, pn_ne, pn_eq, not_true_eq_false, not_false_eq_true, true_and, and_true, false_and, and_false, true_or, or_true, false_or, or_false, or_self, and_self, ne_eq, reduceIte, if_true, if_false, Nat.add_zero, Nat.zero_add, Nat.mul_zero, Nat.reduceAdd, Nat.reduceMul, fw_wi, fw_ri, up_e, up_n1, up_n2, cp_n, bx_s, bp_s, bt_l, bt_r, lx_s]
    exact ⟨_, rfl, hI.sm (by repeat first | exact sm_0 | refine sm_386 ?_ | refine sm_378 ?_)⟩
theorem q_7 {M : fw_M} (h : Inv M) (xs : Nat → Int32) (i : Int32) : ∃ M1, F_cs_7 M xs i = some M1 ∧ Inv M1 := by
  have hI := h
  obtain ⟨⟨s, ⟨⟨⟨c0, b0⟩, ⟨c1, b1⟩, ⟨c2, b2⟩, ⟨c3, b3⟩, c4, b4⟩, oz, ol, os, od, ot, op, oq⟩, hR, hS⟩, -⟩ := h
  obtain ⟨⟨r0, r1, r2, r3, r4, r5⟩, rz, rl, rs, rt, ru, rp, rq⟩ := R0 hR
  have hS : ∀ j, j < 129 → M 379 j = s j := hS
  unfold F_cs_7
  generalize xs (i + 1).toNatClampNeg = a
  rcases px_o a (n := sv s 1) (by omega) with ⟨k, hk, rfl⟩ | hk
  · have e1 : F_X8_requireLine M (nI k) = some (.inl (nI 0), M) := rt_Line hk (by omega) (by simp only [r0, r1, r2, r3, r4]; assumption)
    have e2 : ∀ M1 : fw_M, M1 379 = M 379 → F_X9_isLine M1 (nI k) = some (nI 1) := fun M1 q => it_Line hk (by omega) (by rw [q, hS 1 (by omega)]; assumption)
    simp (disch := first | omega | rfl | (simp (disch := omega) only [up_n1])) only [F_L_lineLength, F_X8_lineLength,  F_X9_lineLength, F_X9_isThere, F_X9_thrown, F_X9_lengthOf, e1, e2, ix_i, ↓pn_m, pn_l0, pn_l1, pn_l2, pn_l3, pn_l4, pn_l5, pn_l6, pn_l7, pn_l8, pn_l9, pn_l10, pn_l11, pn_l12, pn_l16, pn_l18, pn_l20, pn_l31, pn_l32, pn_l40, pn_l45, pn_l48, pn_l51, pn_l57, pn_l59, pn_l60, pn_l62, pn_l64, pn_l69, pn_l97, pn_l98, pn_l99, pn_l100, pn_l101, pn_l105, pn_l107, pn_l108, pn_l114, pn_l115, pn_l116, pn_l117, pn_l119, pn_l126, pn_l129, pn_l240, pn_l903, pn_l1032, nI_add, pk_mul, pk_sub, nI_clamp, nI_leI, nI_ltI, nI_eq, pm_1, pm_2, pm_3, pm_4, pm_5, pm_6, pm_7, pm_8, pn_lt, pn_nlt, pn_le, pn_nle, pn_ne, pn_eq, not_true_eq_false, not_false_eq_true, true_and, and_true, false_and, and_false, true_or, or_true, false_or, or_false, or_self, and_self, ne_eq, reduceIte, if_true, if_false, Nat.add_zero, Nat.zero_add, Nat.mul_zero, Nat.reduceAdd, Nat.reduceMul, fw_wi, fw_ri, up_e, up_n1, up_n2, cp_n, bx_s, bp_s, bt_l, bt_r, lx_s, r0, r1, r2, r3, r4, r5, rz, rl, rs, rt, ru, rp, rq, hS, c0, c1, c2, c3, c4, lc_t, wl_s, wb_s]
    exact ⟨_, rfl, hI.sm (by repeat first | exact sm_0 | refine sm_386 ?_ | refine sm_378 ?_)⟩
  · have e1 : F_X8_requireLine M a = some (.inr 0, M) := rq_Line hk (by simp only [r0, r1, r2, r3, r4]; assumption)
    have e2 : F_X9_isLine M a = some (nI 0) := is_Line hk (by omega) (by rw [hS 1 (by omega)]; assumption)
    simp (disch := omega) only [F_L_lineLength, F_X8_lineLength, F_X9_lineLength, F_X9_isThere, F_X9_thrown, e1, e2, wl_0_0, ix_i, ↓pn_m, pn_l0, pn_l1, pn_l2, pn_l3, pn_l4, pn_l5, pn_l6, pn_l7, pn_l8, pn_l9, pn_l10, pn_l11, pn_l12, pn_l16, pn_l18, pn_l20, pn_l31, pn_l32, pn_l40, pn_l45, pn_l48, pn_l51, pn_l57, pn_l59, pn_l60, pn_l62, pn_l64, pn_l69, pn_l97, pn_l98, pn_l99, pn_l100, pn_l101, pn_l105, pn_l107, pn_l108, pn_l114, pn_l115, pn_l116, pn_l117, pn_l119, pn_l126, pn_l129, pn_l240, pn_l903, pn_l1032, nI_add, pk_mul, pk_sub, nI_clamp, nI_leI, nI_ltI, nI_eq, pm_1, pm_2, pm_3, pm_4, pm_5, pm_6, pm_7, pm_8, pn_lt, pn_nlt, pn_le, pn_nle, pn_ne, pn_eq, not_true_eq_false, not_false_eq_true, true_and, and_true, false_and, and_false, true_or, or_true, false_or, or_false, or_self, and_self, ne_eq, reduceIte, if_true, if_false, Nat.add_zero, Nat.zero_add, Nat.mul_zero, Nat.reduceAdd, Nat.reduceMul, fw_wi, fw_ri, up_e, up_n1, up_n2, cp_n, bx_s, bp_s, bt_l, bt_r, lx_s]
    exact ⟨_, rfl, hI.sm (by repeat first | exact sm_0 | refine sm_386 ?_ | refine sm_378 ?_)⟩
theorem q_14 {M : fw_M} (h : Inv M) (xs : Nat → Int32) (i : Int32) : ∃ M1, F_cs_14 M xs i = some M1 ∧ Inv M1 := by
  have hI := h
  obtain ⟨⟨s, ⟨⟨⟨c0, b0⟩, ⟨c1, b1⟩, ⟨c2, b2⟩, ⟨c3, b3⟩, c4, b4⟩, oz, ol, os, od, ot, op, oq⟩, hR, hS⟩, -⟩ := h
  obtain ⟨⟨r0, r1, r2, r3, r4, r5⟩, rz, rl, rs, rt, ru, rp, rq⟩ := R0 hR
  have hS : ∀ j, j < 129 → M 379 j = s j := hS
  unfold F_cs_14
  generalize xs (i + 1).toNatClampNeg = a
  rcases px_o a (n := sv s 2) (by omega) with ⟨k, hk, rfl⟩ | hk
  · have e1 : F_X8_requireTram M (nI k) = some (.inl (nI 0), M) := rt_Tram hk (by omega) (by simp only [r0, r1, r2, r3, r4]; assumption)
    have e2 : ∀ M1 : fw_M, M1 379 = M 379 → F_X9_isTram M1 (nI k) = some (nI 1) := fun M1 q => it_Tram hk (by omega) (by rw [q, hS 2 (by omega)]; assumption)
    simp (disch := first | omega | rfl | (simp (disch := omega) only [up_n1])) only [F_L_lineOfTram, F_X8_lineOfTram,  F_X9_lineOfTram, F_X9_isThere, F_X9_thrown, F_X9_ofTram, e1, e2, ix_i, ↓pn_m, pn_l0, pn_l1, pn_l2, pn_l3, pn_l4, pn_l5, pn_l6, pn_l7, pn_l8, pn_l9, pn_l10, pn_l11, pn_l12, pn_l16, pn_l18, pn_l20, pn_l31, pn_l32, pn_l40, pn_l45, pn_l48, pn_l51, pn_l57, pn_l59, pn_l60, pn_l62, pn_l64, pn_l69, pn_l97, pn_l98, pn_l99, pn_l100, pn_l101, pn_l105, pn_l107, pn_l108, pn_l114, pn_l115, pn_l116, pn_l117, pn_l119, pn_l126, pn_l129, pn_l240, pn_l903, pn_l1032, nI_add, pk_mul, pk_sub, nI_clamp, nI_leI, nI_ltI, nI_eq, pm_1, pm_2, pm_3, pm_4, pm_5, pm_6, pm_7, pm_8, pn_lt, pn_nlt, pn_le, pn_nle, pn_ne, pn_eq, not_true_eq_false, not_false_eq_true, true_and, and_true, false_and, and_false, true_or, or_true, false_or, or_false, or_self, and_self, ne_eq, reduceIte, if_true, if_false, Nat.add_zero, Nat.zero_add, Nat.mul_zero, Nat.reduceAdd, Nat.reduceMul, fw_wi, fw_ri, up_e, up_n1, up_n2, cp_n, bx_s, bp_s, bt_l, bt_r, lx_s, r0, r1, r2, r3, r4, r5, rz, rl, rs, rt, ru, rp, rq, hS, c0, c1, c2, c3, c4, lc_t, wl_s, wb_s]
    exact ⟨_, rfl, hI.sm (by repeat first | exact sm_0 | refine sm_386 ?_ | refine sm_378 ?_)⟩
  · have e1 : F_X8_requireTram M a = some (.inr 0, M) := rq_Tram hk (by simp only [r0, r1, r2, r3, r4]; assumption)
    have e2 : F_X9_isTram M a = some (nI 0) := is_Tram hk (by omega) (by rw [hS 2 (by omega)]; assumption)
    simp (disch := omega) only [F_L_lineOfTram, F_X8_lineOfTram, F_X9_lineOfTram, F_X9_isThere, F_X9_thrown, e1, e2, wl_0_0, ix_i, ↓pn_m, pn_l0, pn_l1, pn_l2, pn_l3, pn_l4, pn_l5, pn_l6, pn_l7, pn_l8, pn_l9, pn_l10, pn_l11, pn_l12, pn_l16, pn_l18, pn_l20, pn_l31, pn_l32, pn_l40, pn_l45, pn_l48, pn_l51, pn_l57, pn_l59, pn_l60, pn_l62, pn_l64, pn_l69, pn_l97, pn_l98, pn_l99, pn_l100, pn_l101, pn_l105, pn_l107, pn_l108, pn_l114, pn_l115, pn_l116, pn_l117, pn_l119, pn_l126, pn_l129, pn_l240, pn_l903, pn_l1032, nI_add, pk_mul, pk_sub, nI_clamp, nI_leI, nI_ltI, nI_eq, pm_1, pm_2, pm_3, pm_4, pm_5, pm_6, pm_7, pm_8, pn_lt, pn_nlt, pn_le, pn_nle, pn_ne, pn_eq, not_true_eq_false, not_false_eq_true, true_and, and_true, false_and, and_false, true_or, or_true, false_or, or_false, or_self, and_self, ne_eq, reduceIte, if_true, if_false, Nat.add_zero, Nat.zero_add, Nat.mul_zero, Nat.reduceAdd, Nat.reduceMul, fw_wi, fw_ri, up_e, up_n1, up_n2, cp_n, bx_s, bp_s, bt_l, bt_r, lx_s]
    exact ⟨_, rfl, hI.sm (by repeat first | exact sm_0 | refine sm_386 ?_ | refine sm_378 ?_)⟩
theorem q_15 {M : fw_M} (h : Inv M) (xs : Nat → Int32) (i : Int32) : ∃ M1, F_cs_15 M xs i = some M1 ∧ Inv M1 := by
  have hI := h
  obtain ⟨⟨s, ⟨⟨⟨c0, b0⟩, ⟨c1, b1⟩, ⟨c2, b2⟩, ⟨c3, b3⟩, c4, b4⟩, oz, ol, os, od, ot, op, oq⟩, hR, hS⟩, -⟩ := h
  obtain ⟨⟨r0, r1, r2, r3, r4, r5⟩, rz, rl, rs, rt, ru, rp, rq⟩ := R0 hR
  have hS : ∀ j, j < 129 → M 379 j = s j := hS
  unfold F_cs_15
  generalize xs (i + 1).toNatClampNeg = a
  rcases px_o a (n := sv s 2) (by omega) with ⟨k, hk, rfl⟩ | hk
  · have e1 : F_X8_requireTram M (nI k) = some (.inl (nI 0), M) := rt_Tram hk (by omega) (by simp only [r0, r1, r2, r3, r4]; assumption)
    have e2 : ∀ M1 : fw_M, M1 379 = M 379 → F_X9_isTram M1 (nI k) = some (nI 1) := fun M1 q => it_Tram hk (by omega) (by rw [q, hS 2 (by omega)]; assumption)
    obtain ⟨t1, t2, t3, t4, t5⟩ := ot k hk
    have t6 := (ol (sv s (51 + 3 * k)) (by omega)).2.1
    simp (disch := first | omega | rfl | (simp (disch := omega) only [up_n1])) only [F_L_stopOfTram, F_X8_stopOfTram, F_X7_stopUnder, F_X9_stopOfTram, F_X9_isThere, F_X9_thrown, F_X9_tramStop, F_X9_ofTram, F_X9_stopOf, e1, e2, ix_i, ↓pn_m, pn_l0, pn_l1, pn_l2, pn_l3, pn_l4, pn_l5, pn_l6, pn_l7, pn_l8, pn_l9, pn_l10, pn_l11, pn_l12, pn_l16, pn_l18, pn_l20, pn_l31, pn_l32, pn_l40, pn_l45, pn_l48, pn_l51, pn_l57, pn_l59, pn_l60, pn_l62, pn_l64, pn_l69, pn_l97, pn_l98, pn_l99, pn_l100, pn_l101, pn_l105, pn_l107, pn_l108, pn_l114, pn_l115, pn_l116, pn_l117, pn_l119, pn_l126, pn_l129, pn_l240, pn_l903, pn_l1032, nI_add, pk_mul, pk_sub, nI_clamp, nI_leI, nI_ltI, nI_eq, pm_1, pm_2, pm_3, pm_4, pm_5, pm_6, pm_7, pm_8, pn_lt, pn_nlt, pn_le, pn_nle, pn_ne, pn_eq, not_true_eq_false, not_false_eq_true, true_and, and_true, false_and, and_false, true_or, or_true, false_or, or_false, or_self, and_self, ne_eq, reduceIte, if_true, if_false, Nat.add_zero, Nat.zero_add, Nat.mul_zero, Nat.reduceAdd, Nat.reduceMul, fw_wi, fw_ri, up_e, up_n1, up_n2, cp_n, bx_s, bp_s, bt_l, bt_r, lx_s, r0, r1, r2, r3, r4, r5, rz, rl, rs, rt, ru, rp, rq, hS, c0, c1, c2, c3, c4, lc_t, wl_s, wb_s, t1, t3]
    exact ⟨_, rfl, hI.sm (by repeat first | exact sm_0 | refine sm_386 ?_ | refine sm_378 ?_)⟩
  · have e1 : F_X8_requireTram M a = some (.inr 0, M) := rq_Tram hk (by simp only [r0, r1, r2, r3, r4]; assumption)
    have e2 : F_X9_isTram M a = some (nI 0) := is_Tram hk (by omega) (by rw [hS 2 (by omega)]; assumption)
    simp (disch := omega) only [F_L_stopOfTram, F_X8_stopOfTram, F_X9_stopOfTram, F_X9_isThere, F_X9_thrown, e1, e2, wl_0_0, ix_i, ↓pn_m, pn_l0, pn_l1, pn_l2, pn_l3, pn_l4, pn_l5, pn_l6, pn_l7, pn_l8, pn_l9, pn_l10, pn_l11, pn_l12, pn_l16, pn_l18, pn_l20, pn_l31, pn_l32, pn_l40, pn_l45, pn_l48, pn_l51, pn_l57, pn_l59, pn_l60, pn_l62, pn_l64, pn_l69, pn_l97, pn_l98, pn_l99, pn_l100, pn_l101, pn_l105, pn_l107, pn_l108, pn_l114, pn_l115, pn_l116, pn_l117, pn_l119, pn_l126, pn_l129, pn_l240, pn_l903, pn_l1032, nI_add, pk_mul, pk_sub, nI_clamp, nI_leI, nI_ltI, nI_eq, pm_1, pm_2, pm_3, pm_4, pm_5, pm_6, pm_7, pm_8, pn_lt, pn_nlt, pn_le, pn_nle, pn_ne, pn_eq, not_true_eq_false, not_false_eq_true, true_and, and_true, false_and, and_false, true_or, or_true, false_or, or_false, or_self, and_self, ne_eq, reduceIte, if_true, if_false, Nat.add_zero, Nat.zero_add, Nat.mul_zero, Nat.reduceAdd, Nat.reduceMul, fw_wi, fw_ri, up_e, up_n1, up_n2, cp_n, bx_s, bp_s, bt_l, bt_r, lx_s]
    exact ⟨_, rfl, hI.sm (by repeat first | exact sm_0 | refine sm_386 ?_ | refine sm_378 ?_)⟩
theorem q_16 {M : fw_M} (h : Inv M) (xs : Nat → Int32) (i : Int32) : ∃ M1, F_cs_16 M xs i = some M1 ∧ Inv M1 := by
  have hI := h
  obtain ⟨⟨s, ⟨⟨⟨c0, b0⟩, ⟨c1, b1⟩, ⟨c2, b2⟩, ⟨c3, b3⟩, c4, b4⟩, oz, ol, os, od, ot, op, oq⟩, hR, hS⟩, -⟩ := h
  obtain ⟨⟨r0, r1, r2, r3, r4, r5⟩, rz, rl, rs, rt, ru, rp, rq⟩ := R0 hR
  have hS : ∀ j, j < 129 → M 379 j = s j := hS
  unfold F_cs_16
  generalize xs (i + 1).toNatClampNeg = a
  rcases px_o a (n := sv s 2) (by omega) with ⟨k, hk, rfl⟩ | hk
  · have e1 : F_X8_requireTram M (nI k) = some (.inl (nI 0), M) := rt_Tram hk (by omega) (by simp only [r0, r1, r2, r3, r4]; assumption)
    have e2 : ∀ M1 : fw_M, M1 379 = M 379 → F_X9_isTram M1 (nI k) = some (nI 1) := fun M1 q => it_Tram hk (by omega) (by rw [q, hS 2 (by omega)]; assumption)
    rcases (ot k hk).2.2.2.2 with ⟨t5, -⟩ | ⟨t5, -⟩
    · simp (disch := first | omega | rfl | (simp (disch := omega) only [up_n1])) only [F_L_isForward, F_X8_isForward,  F_X9_isForward, F_X9_isThere, F_X9_thrown, F_X9_ofTram, e1, e2, ix_i, ↓pn_m, pn_l0, pn_l1, pn_l2, pn_l3, pn_l4, pn_l5, pn_l6, pn_l7, pn_l8, pn_l9, pn_l10, pn_l11, pn_l12, pn_l16, pn_l18, pn_l20, pn_l31, pn_l32, pn_l40, pn_l45, pn_l48, pn_l51, pn_l57, pn_l59, pn_l60, pn_l62, pn_l64, pn_l69, pn_l97, pn_l98, pn_l99, pn_l100, pn_l101, pn_l105, pn_l107, pn_l108, pn_l114, pn_l115, pn_l116, pn_l117, pn_l119, pn_l126, pn_l129, pn_l240, pn_l903, pn_l1032, nI_add, pk_mul, pk_sub, nI_clamp, nI_leI, nI_ltI, nI_eq, pm_1, pm_2, pm_3, pm_4, pm_5, pm_6, pm_7, pm_8, pn_lt, pn_nlt, pn_le, pn_nle, pn_ne, pn_eq, not_true_eq_false, not_false_eq_true, true_and, and_true, false_and, and_false, true_or, or_true, false_or, or_false, or_self, and_self, ne_eq, reduceIte, if_true, if_false, Nat.add_zero, Nat.zero_add, Nat.mul_zero, Nat.reduceAdd, Nat.reduceMul, fw_wi, fw_ri, up_e, up_n1, up_n2, cp_n, bx_s, bp_s, bt_l, bt_r, lx_s, r0, r1, r2, r3, r4, r5, rz, rl, rs, rt, ru, rp, rq, hS, c0, c1, c2, c3, c4, lc_t, wl_s, wb_s, t5]
      exact ⟨_, rfl, hI.sm (by repeat first | exact sm_0 | refine sm_386 ?_ | refine sm_378 ?_)⟩
    · simp (disch := first | omega | rfl | (simp (disch := omega) only [up_n1])) only [F_L_isForward, F_X8_isForward,  F_X9_isForward, F_X9_isThere, F_X9_thrown, F_X9_ofTram, e1, e2, ix_i, ↓pn_m, pn_l0, pn_l1, pn_l2, pn_l3, pn_l4, pn_l5, pn_l6, pn_l7, pn_l8, pn_l9, pn_l10, pn_l11, pn_l12, pn_l16, pn_l18, pn_l20, pn_l31, pn_l32, pn_l40, pn_l45, pn_l48, pn_l51, pn_l57, pn_l59, pn_l60, pn_l62, pn_l64, pn_l69, pn_l97, pn_l98, pn_l99, pn_l100, pn_l101, pn_l105, pn_l107, pn_l108, pn_l114, pn_l115, pn_l116, pn_l117, pn_l119, pn_l126, pn_l129, pn_l240, pn_l903, pn_l1032, nI_add, pk_mul, pk_sub, nI_clamp, nI_leI, nI_ltI, nI_eq, pm_1, pm_2, pm_3, pm_4, pm_5, pm_6, pm_7, pm_8, pn_lt, pn_nlt, pn_le, pn_nle, pn_ne, pn_eq, not_true_eq_false, not_false_eq_true, true_and, and_true, false_and, and_false, true_or, or_true, false_or, or_false, or_self, and_self, ne_eq, reduceIte, if_true, if_false, Nat.add_zero, Nat.zero_add, Nat.mul_zero, Nat.reduceAdd, Nat.reduceMul, fw_wi, fw_ri, up_e, up_n1, up_n2, cp_n, bx_s, bp_s, bt_l, bt_r, lx_s, r0, r1, r2, r3, r4, r5, rz, rl, rs, rt, ru, rp, rq, hS, c0, c1, c2, c3, c4, lc_t, wl_s, wb_s, t5]
      exact ⟨_, rfl, hI.sm (by repeat first | exact sm_0 | refine sm_386 ?_ | refine sm_378 ?_)⟩
  · have e1 : F_X8_requireTram M a = some (.inr 0, M) := rq_Tram hk (by simp only [r0, r1, r2, r3, r4]; assumption)
    have e2 : F_X9_isTram M a = some (nI 0) := is_Tram hk (by omega) (by rw [hS 2 (by omega)]; assumption)
    simp (disch := omega) only [F_L_isForward, F_X8_isForward, F_X9_isForward, F_X9_isThere, F_X9_thrown, e1, e2, wb_0_0, ix_i, ↓pn_m, pn_l0, pn_l1, pn_l2, pn_l3, pn_l4, pn_l5, pn_l6, pn_l7, pn_l8, pn_l9, pn_l10, pn_l11, pn_l12, pn_l16, pn_l18, pn_l20, pn_l31, pn_l32, pn_l40, pn_l45, pn_l48, pn_l51, pn_l57, pn_l59, pn_l60, pn_l62, pn_l64, pn_l69, pn_l97, pn_l98, pn_l99, pn_l100, pn_l101, pn_l105, pn_l107, pn_l108, pn_l114, pn_l115, pn_l116, pn_l117, pn_l119, pn_l126, pn_l129, pn_l240, pn_l903, pn_l1032, nI_add, pk_mul, pk_sub, nI_clamp, nI_leI, nI_ltI, nI_eq, pm_1, pm_2, pm_3, pm_4, pm_5, pm_6, pm_7, pm_8, pn_lt, pn_nlt, pn_le, pn_nle, pn_ne, pn_eq, not_true_eq_false, not_false_eq_true, true_and, and_true, false_and, and_false, true_or, or_true, false_or, or_false, or_self, and_self, ne_eq, reduceIte, if_true, if_false, Nat.add_zero, Nat.zero_add, Nat.mul_zero, Nat.reduceAdd, Nat.reduceMul, fw_wi, fw_ri, up_e, up_n1, up_n2, cp_n, bx_s, bp_s, bt_l, bt_r, lx_s]
    exact ⟨_, rfl, hI.sm (by repeat first | exact sm_0 | refine sm_386 ?_ | refine sm_378 ?_)⟩
theorem q_26 {M : fw_M} (h : Inv M) (xs : Nat → Int32) (i : Int32) : ∃ M1, F_cs_26 M xs i = some M1 ∧ Inv M1 := by
  have hI := h
  obtain ⟨⟨s, ⟨⟨⟨c0, b0⟩, ⟨c1, b1⟩, ⟨c2, b2⟩, ⟨c3, b3⟩, c4, b4⟩, oz, ol, os, od, ot, op, oq⟩, hR, hS⟩, -⟩ := h
  obtain ⟨⟨r0, r1, r2, r3, r4, r5⟩, rz, rl, rs, rt, ru, rp, rq⟩ := R0 hR
  have hS : ∀ j, j < 129 → M 379 j = s j := hS
  unfold F_cs_26
  generalize xs (i + 1).toNatClampNeg = a
  rcases px_o a (n := sv s 3) (by omega) with ⟨k, hk, rfl⟩ | hk
  · have e1 : F_X8_requirePassenger M (nI k) = some (.inl (nI 0), M) := rt_Passenger hk (by omega) (by simp only [r0, r1, r2, r3, r4]; assumption)
    have e2 : ∀ M1 : fw_M, M1 379 = M 379 → F_X9_isPassenger M1 (nI k) = some (nI 1) := fun M1 q => it_Passenger hk (by omega) (by rw [q, hS 3 (by omega)]; assumption)
    simp (disch := first | omega | rfl | (simp (disch := omega) only [up_n1])) only [F_L_stopOfPassenger, F_X8_stopOfPassenger,  F_X9_stopOfPassenger, F_X9_isThere, F_X9_thrown, F_X9_ofPassenger, e1, e2, ix_i, ↓pn_m, pn_l0, pn_l1, pn_l2, pn_l3, pn_l4, pn_l5, pn_l6, pn_l7, pn_l8, pn_l9, pn_l10, pn_l11, pn_l12, pn_l16, pn_l18, pn_l20, pn_l31, pn_l32, pn_l40, pn_l45, pn_l48, pn_l51, pn_l57, pn_l59, pn_l60, pn_l62, pn_l64, pn_l69, pn_l97, pn_l98, pn_l99, pn_l100, pn_l101, pn_l105, pn_l107, pn_l108, pn_l114, pn_l115, pn_l116, pn_l117, pn_l119, pn_l126, pn_l129, pn_l240, pn_l903, pn_l1032, nI_add, pk_mul, pk_sub, nI_clamp, nI_leI, nI_ltI, nI_eq, pm_1, pm_2, pm_3, pm_4, pm_5, pm_6, pm_7, pm_8, pn_lt, pn_nlt, pn_le, pn_nle, pn_ne, pn_eq, not_true_eq_false, not_false_eq_true, true_and, and_true, false_and, and_false, true_or, or_true, false_or, or_false, or_self, and_self, ne_eq, reduceIte, if_true, if_false, Nat.add_zero, Nat.zero_add, Nat.mul_zero, Nat.reduceAdd, Nat.reduceMul, fw_wi, fw_ri, up_e, up_n1, up_n2, cp_n, bx_s, bp_s, bt_l, bt_r, lx_s, r0, r1, r2, r3, r4, r5, rz, rl, rs, rt, ru, rp, rq, hS, c0, c1, c2, c3, c4, lc_t, wl_s, wb_s]
    exact ⟨_, rfl, hI.sm (by repeat first | exact sm_0 | refine sm_386 ?_ | refine sm_378 ?_)⟩
  · have e1 : F_X8_requirePassenger M a = some (.inr 0, M) := rq_Passenger hk (by simp only [r0, r1, r2, r3, r4]; assumption)
    have e2 : F_X9_isPassenger M a = some (nI 0) := is_Passenger hk (by omega) (by rw [hS 3 (by omega)]; assumption)
    simp (disch := omega) only [F_L_stopOfPassenger, F_X8_stopOfPassenger, F_X9_stopOfPassenger, F_X9_isThere, F_X9_thrown, e1, e2, wl_0_0, ix_i, ↓pn_m, pn_l0, pn_l1, pn_l2, pn_l3, pn_l4, pn_l5, pn_l6, pn_l7, pn_l8, pn_l9, pn_l10, pn_l11, pn_l12, pn_l16, pn_l18, pn_l20, pn_l31, pn_l32, pn_l40, pn_l45, pn_l48, pn_l51, pn_l57, pn_l59, pn_l60, pn_l62, pn_l64, pn_l69, pn_l97, pn_l98, pn_l99, pn_l100, pn_l101, pn_l105, pn_l107, pn_l108, pn_l114, pn_l115, pn_l116, pn_l117, pn_l119, pn_l126, pn_l129, pn_l240, pn_l903, pn_l1032, nI_add, pk_mul, pk_sub, nI_clamp, nI_leI, nI_ltI, nI_eq, pm_1, pm_2, pm_3, pm_4, pm_5, pm_6, pm_7, pm_8, pn_lt, pn_nlt, pn_le, pn_nle, pn_ne, pn_eq, not_true_eq_false, not_false_eq_true, true_and, and_true, false_and, and_false, true_or, or_true, false_or, or_false, or_self, and_self, ne_eq, reduceIte, if_true, if_false, Nat.add_zero, Nat.zero_add, Nat.mul_zero, Nat.reduceAdd, Nat.reduceMul, fw_wi, fw_ri, up_e, up_n1, up_n2, cp_n, bx_s, bp_s, bt_l, bt_r, lx_s]
    exact ⟨_, rfl, hI.sm (by repeat first | exact sm_0 | refine sm_386 ?_ | refine sm_378 ?_)⟩
theorem q_27 {M : fw_M} (h : Inv M) (xs : Nat → Int32) (i : Int32) : ∃ M1, F_cs_27 M xs i = some M1 ∧ Inv M1 := by
  have hI := h
  obtain ⟨⟨s, ⟨⟨⟨c0, b0⟩, ⟨c1, b1⟩, ⟨c2, b2⟩, ⟨c3, b3⟩, c4, b4⟩, oz, ol, os, od, ot, op, oq⟩, hR, hS⟩, -⟩ := h
  obtain ⟨⟨r0, r1, r2, r3, r4, r5⟩, rz, rl, rs, rt, ru, rp, rq⟩ := R0 hR
  have hS : ∀ j, j < 129 → M 379 j = s j := hS
  unfold F_cs_27
  generalize xs (i + 1).toNatClampNeg = a
  rcases px_o a (n := sv s 3) (by omega) with ⟨k, hk, rfl⟩ | hk
  · have e1 : F_X8_requirePassenger M (nI k) = some (.inl (nI 0), M) := rt_Passenger hk (by omega) (by simp only [r0, r1, r2, r3, r4]; assumption)
    have e2 : ∀ M1 : fw_M, M1 379 = M 379 → F_X9_isPassenger M1 (nI k) = some (nI 1) := fun M1 q => it_Passenger hk (by omega) (by rw [q, hS 3 (by omega)]; assumption)
    simp (disch := first | omega | rfl | (simp (disch := omega) only [up_n1])) only [F_L_tramOfPassenger, F_X8_tramOfPassenger,  F_X9_tramOfPassenger, F_X9_isThere, F_X9_thrown, F_X9_ofPassenger, e1, e2, ix_i, ↓pn_m, pn_l0, pn_l1, pn_l2, pn_l3, pn_l4, pn_l5, pn_l6, pn_l7, pn_l8, pn_l9, pn_l10, pn_l11, pn_l12, pn_l16, pn_l18, pn_l20, pn_l31, pn_l32, pn_l40, pn_l45, pn_l48, pn_l51, pn_l57, pn_l59, pn_l60, pn_l62, pn_l64, pn_l69, pn_l97, pn_l98, pn_l99, pn_l100, pn_l101, pn_l105, pn_l107, pn_l108, pn_l114, pn_l115, pn_l116, pn_l117, pn_l119, pn_l126, pn_l129, pn_l240, pn_l903, pn_l1032, nI_add, pk_mul, pk_sub, nI_clamp, nI_leI, nI_ltI, nI_eq, pm_1, pm_2, pm_3, pm_4, pm_5, pm_6, pm_7, pm_8, pn_lt, pn_nlt, pn_le, pn_nle, pn_ne, pn_eq, not_true_eq_false, not_false_eq_true, true_and, and_true, false_and, and_false, true_or, or_true, false_or, or_false, or_self, and_self, ne_eq, reduceIte, if_true, if_false, Nat.add_zero, Nat.zero_add, Nat.mul_zero, Nat.reduceAdd, Nat.reduceMul, fw_wi, fw_ri, up_e, up_n1, up_n2, cp_n, bx_s, bp_s, bt_l, bt_r, lx_s, r0, r1, r2, r3, r4, r5, rz, rl, rs, rt, ru, rp, rq, hS, c0, c1, c2, c3, c4, lc_t, wl_s, wb_s]
    exact ⟨_, rfl, hI.sm (by repeat first | exact sm_0 | refine sm_386 ?_ | refine sm_378 ?_)⟩
  · have e1 : F_X8_requirePassenger M a = some (.inr 0, M) := rq_Passenger hk (by simp only [r0, r1, r2, r3, r4]; assumption)
    have e2 : F_X9_isPassenger M a = some (nI 0) := is_Passenger hk (by omega) (by rw [hS 3 (by omega)]; assumption)
    simp (disch := omega) only [F_L_tramOfPassenger, F_X8_tramOfPassenger, F_X9_tramOfPassenger, F_X9_isThere, F_X9_thrown, e1, e2, wl_0_0, ix_i, ↓pn_m, pn_l0, pn_l1, pn_l2, pn_l3, pn_l4, pn_l5, pn_l6, pn_l7, pn_l8, pn_l9, pn_l10, pn_l11, pn_l12, pn_l16, pn_l18, pn_l20, pn_l31, pn_l32, pn_l40, pn_l45, pn_l48, pn_l51, pn_l57, pn_l59, pn_l60, pn_l62, pn_l64, pn_l69, pn_l97, pn_l98, pn_l99, pn_l100, pn_l101, pn_l105, pn_l107, pn_l108, pn_l114, pn_l115, pn_l116, pn_l117, pn_l119, pn_l126, pn_l129, pn_l240, pn_l903, pn_l1032, nI_add, pk_mul, pk_sub, nI_clamp, nI_leI, nI_ltI, nI_eq, pm_1, pm_2, pm_3, pm_4, pm_5, pm_6, pm_7, pm_8, pn_lt, pn_nlt, pn_le, pn_nle, pn_ne, pn_eq, not_true_eq_false, not_false_eq_true, true_and, and_true, false_and, and_false, true_or, or_true, false_or, or_false, or_self, and_self, ne_eq, reduceIte, if_true, if_false, Nat.add_zero, Nat.zero_add, Nat.mul_zero, Nat.reduceAdd, Nat.reduceMul, fw_wi, fw_ri, up_e, up_n1, up_n2, cp_n, bx_s, bp_s, bt_l, bt_r, lx_s]
    exact ⟨_, rfl, hI.sm (by repeat first | exact sm_0 | refine sm_386 ?_ | refine sm_378 ?_)⟩
theorem q_28 {M : fw_M} (h : Inv M) (xs : Nat → Int32) (i : Int32) : ∃ M1, F_cs_28 M xs i = some M1 ∧ Inv M1 := by
  have hI := h
  obtain ⟨⟨s, ⟨⟨⟨c0, b0⟩, ⟨c1, b1⟩, ⟨c2, b2⟩, ⟨c3, b3⟩, c4, b4⟩, oz, ol, os, od, ot, op, oq⟩, hR, hS⟩, -⟩ := h
  obtain ⟨⟨r0, r1, r2, r3, r4, r5⟩, rz, rl, rs, rt, ru, rp, rq⟩ := R0 hR
  have hS : ∀ j, j < 129 → M 379 j = s j := hS
  unfold F_cs_28
  generalize xs (i + 1).toNatClampNeg = a
  rcases px_o a (n := sv s 3) (by omega) with ⟨k, hk, rfl⟩ | hk
  · have e1 : F_X8_requirePassenger M (nI k) = some (.inl (nI 0), M) := rt_Passenger hk (by omega) (by simp only [r0, r1, r2, r3, r4]; assumption)
    have e2 : ∀ M1 : fw_M, M1 379 = M 379 → F_X9_isPassenger M1 (nI k) = some (nI 1) := fun M1 q => it_Passenger hk (by omega) (by rw [q, hS 3 (by omega)]; assumption)
    simp (disch := first | omega | rfl | (simp (disch := omega) only [up_n1])) only [F_L_ridesOf, F_X8_ridesOf,  F_X9_ridesOf, F_X9_isThere, F_X9_thrown, F_X9_ofPassenger, e1, e2, ix_i, ↓pn_m, pn_l0, pn_l1, pn_l2, pn_l3, pn_l4, pn_l5, pn_l6, pn_l7, pn_l8, pn_l9, pn_l10, pn_l11, pn_l12, pn_l16, pn_l18, pn_l20, pn_l31, pn_l32, pn_l40, pn_l45, pn_l48, pn_l51, pn_l57, pn_l59, pn_l60, pn_l62, pn_l64, pn_l69, pn_l97, pn_l98, pn_l99, pn_l100, pn_l101, pn_l105, pn_l107, pn_l108, pn_l114, pn_l115, pn_l116, pn_l117, pn_l119, pn_l126, pn_l129, pn_l240, pn_l903, pn_l1032, nI_add, pk_mul, pk_sub, nI_clamp, nI_leI, nI_ltI, nI_eq, pm_1, pm_2, pm_3, pm_4, pm_5, pm_6, pm_7, pm_8, pn_lt, pn_nlt, pn_le, pn_nle, pn_ne, pn_eq, not_true_eq_false, not_false_eq_true, true_and, and_true, false_and, and_false, true_or, or_true, false_or, or_false, or_self, and_self, ne_eq, reduceIte, if_true, if_false, Nat.add_zero, Nat.zero_add, Nat.mul_zero, Nat.reduceAdd, Nat.reduceMul, fw_wi, fw_ri, up_e, up_n1, up_n2, cp_n, bx_s, bp_s, bt_l, bt_r, lx_s, r0, r1, r2, r3, r4, r5, rz, rl, rs, rt, ru, rp, rq, hS, c0, c1, c2, c3, c4, lc_t, wl_s, wb_s]
    exact ⟨_, rfl, hI.sm (by repeat first | exact sm_0 | refine sm_386 ?_ | refine sm_378 ?_)⟩
  · have e1 : F_X8_requirePassenger M a = some (.inr 0, M) := rq_Passenger hk (by simp only [r0, r1, r2, r3, r4]; assumption)
    have e2 : F_X9_isPassenger M a = some (nI 0) := is_Passenger hk (by omega) (by rw [hS 3 (by omega)]; assumption)
    simp (disch := omega) only [F_L_ridesOf, F_X8_ridesOf, F_X9_ridesOf, F_X9_isThere, F_X9_thrown, e1, e2, wl_0_0, ix_i, ↓pn_m, pn_l0, pn_l1, pn_l2, pn_l3, pn_l4, pn_l5, pn_l6, pn_l7, pn_l8, pn_l9, pn_l10, pn_l11, pn_l12, pn_l16, pn_l18, pn_l20, pn_l31, pn_l32, pn_l40, pn_l45, pn_l48, pn_l51, pn_l57, pn_l59, pn_l60, pn_l62, pn_l64, pn_l69, pn_l97, pn_l98, pn_l99, pn_l100, pn_l101, pn_l105, pn_l107, pn_l108, pn_l114, pn_l115, pn_l116, pn_l117, pn_l119, pn_l126, pn_l129, pn_l240, pn_l903, pn_l1032, nI_add, pk_mul, pk_sub, nI_clamp, nI_leI, nI_ltI, nI_eq, pm_1, pm_2, pm_3, pm_4, pm_5, pm_6, pm_7, pm_8, pn_lt, pn_nlt, pn_le, pn_nle, pn_ne, pn_eq, not_true_eq_false, not_false_eq_true, true_and, and_true, false_and, and_false, true_or, or_true, false_or, or_false, or_self, and_self, ne_eq, reduceIte, if_true, if_false, Nat.add_zero, Nat.zero_add, Nat.mul_zero, Nat.reduceAdd, Nat.reduceMul, fw_wi, fw_ri, up_e, up_n1, up_n2, cp_n, bx_s, bp_s, bt_l, bt_r, lx_s]
    exact ⟨_, rfl, hI.sm (by repeat first | exact sm_0 | refine sm_386 ?_ | refine sm_378 ?_)⟩
theorem q_35 {M : fw_M} (h : Inv M) (xs : Nat → Int32) (i : Int32) : ∃ M1, F_cs_35 M xs i = some M1 ∧ Inv M1 := by
  have hI := h
  obtain ⟨⟨s, ⟨⟨⟨c0, b0⟩, ⟨c1, b1⟩, ⟨c2, b2⟩, ⟨c3, b3⟩, c4, b4⟩, oz, ol, os, od, ot, op, oq⟩, hR, hS⟩, -⟩ := h
  obtain ⟨⟨r0, r1, r2, r3, r4, r5⟩, rz, rl, rs, rt, ru, rp, rq⟩ := R0 hR
  have hS : ∀ j, j < 129 → M 379 j = s j := hS
  unfold F_cs_35
  generalize xs (i + 1).toNatClampNeg = a
  rcases px_o a (n := sv s 4) (by omega) with ⟨k, hk, rfl⟩ | hk
  · have e1 : F_X8_requireSecret M (nI k) = some (.inl (nI 0), M) := rt_Secret hk (by omega) (by simp only [r0, r1, r2, r3, r4]; assumption)
    have e2 : ∀ M1 : fw_M, M1 379 = M 379 → F_X9_isSecret M1 (nI k) = some (nI 1) := fun M1 q => it_Secret hk (by omega) (by rw [q, hS 4 (by omega)]; assumption)
    simp (disch := first | omega | rfl | (simp (disch := omega) only [up_n1])) only [F_L_carrierOf, F_X8_carrierOf,  F_X9_carrierOf, F_X9_isThere, F_X9_thrown, F_X9_carrier, e1, e2, ix_i, ↓pn_m, pn_l0, pn_l1, pn_l2, pn_l3, pn_l4, pn_l5, pn_l6, pn_l7, pn_l8, pn_l9, pn_l10, pn_l11, pn_l12, pn_l16, pn_l18, pn_l20, pn_l31, pn_l32, pn_l40, pn_l45, pn_l48, pn_l51, pn_l57, pn_l59, pn_l60, pn_l62, pn_l64, pn_l69, pn_l97, pn_l98, pn_l99, pn_l100, pn_l101, pn_l105, pn_l107, pn_l108, pn_l114, pn_l115, pn_l116, pn_l117, pn_l119, pn_l126, pn_l129, pn_l240, pn_l903, pn_l1032, nI_add, pk_mul, pk_sub, nI_clamp, nI_leI, nI_ltI, nI_eq, pm_1, pm_2, pm_3, pm_4, pm_5, pm_6, pm_7, pm_8, pn_lt, pn_nlt, pn_le, pn_nle, pn_ne, pn_eq, not_true_eq_false, not_false_eq_true, true_and, and_true, false_and, and_false, true_or, or_true, false_or, or_false, or_self, and_self, ne_eq, reduceIte, if_true, if_false, Nat.add_zero, Nat.zero_add, Nat.mul_zero, Nat.reduceAdd, Nat.reduceMul, fw_wi, fw_ri, up_e, up_n1, up_n2, cp_n, bx_s, bp_s, bt_l, bt_r, lx_s, r0, r1, r2, r3, r4, r5, rz, rl, rs, rt, ru, rp, rq, hS, c0, c1, c2, c3, c4, lc_t, wl_s, wb_s]
    exact ⟨_, rfl, hI.sm (by repeat first | exact sm_0 | refine sm_386 ?_ | refine sm_378 ?_)⟩
  · have e1 : F_X8_requireSecret M a = some (.inr 0, M) := rq_Secret hk (by simp only [r0, r1, r2, r3, r4]; assumption)
    have e2 : F_X9_isSecret M a = some (nI 0) := is_Secret hk (by omega) (by rw [hS 4 (by omega)]; assumption)
    simp (disch := omega) only [F_L_carrierOf, F_X8_carrierOf, F_X9_carrierOf, F_X9_isThere, F_X9_thrown, e1, e2, wl_0_0, ix_i, ↓pn_m, pn_l0, pn_l1, pn_l2, pn_l3, pn_l4, pn_l5, pn_l6, pn_l7, pn_l8, pn_l9, pn_l10, pn_l11, pn_l12, pn_l16, pn_l18, pn_l20, pn_l31, pn_l32, pn_l40, pn_l45, pn_l48, pn_l51, pn_l57, pn_l59, pn_l60, pn_l62, pn_l64, pn_l69, pn_l97, pn_l98, pn_l99, pn_l100, pn_l101, pn_l105, pn_l107, pn_l108, pn_l114, pn_l115, pn_l116, pn_l117, pn_l119, pn_l126, pn_l129, pn_l240, pn_l903, pn_l1032, nI_add, pk_mul, pk_sub, nI_clamp, nI_leI, nI_ltI, nI_eq, pm_1, pm_2, pm_3, pm_4, pm_5, pm_6, pm_7, pm_8, pn_lt, pn_nlt, pn_le, pn_nle, pn_ne, pn_eq, not_true_eq_false, not_false_eq_true, true_and, and_true, false_and, and_false, true_or, or_true, false_or, or_false, or_self, and_self, ne_eq, reduceIte, if_true, if_false, Nat.add_zero, Nat.zero_add, Nat.mul_zero, Nat.reduceAdd, Nat.reduceMul, fw_wi, fw_ri, up_e, up_n1, up_n2, cp_n, bx_s, bp_s, bt_l, bt_r, lx_s]
    exact ⟨_, rfl, hI.sm (by repeat first | exact sm_0 | refine sm_386 ?_ | refine sm_378 ?_)⟩
theorem q_36 {M : fw_M} (h : Inv M) (xs : Nat → Int32) (i : Int32) : ∃ M1, F_cs_36 M xs i = some M1 ∧ Inv M1 := by
  have hI := h
  obtain ⟨⟨s, ⟨⟨⟨c0, b0⟩, ⟨c1, b1⟩, ⟨c2, b2⟩, ⟨c3, b3⟩, c4, b4⟩, oz, ol, os, od, ot, op, oq⟩, hR, hS⟩, -⟩ := h
  obtain ⟨⟨r0, r1, r2, r3, r4, r5⟩, rz, rl, rs, rt, ru, rp, rq⟩ := R0 hR
  have hS : ∀ j, j < 129 → M 379 j = s j := hS
  unfold F_cs_36
  generalize xs (i + 1).toNatClampNeg = a
  rcases px_o a (n := sv s 4) (by omega) with ⟨k, hk, rfl⟩ | hk
  · have e1 : F_X8_requireSecret M (nI k) = some (.inl (nI 0), M) := rt_Secret hk (by omega) (by simp only [r0, r1, r2, r3, r4]; assumption)
    have e2 : ∀ M1 : fw_M, M1 379 = M 379 → F_X9_isSecret M1 (nI k) = some (nI 1) := fun M1 q => it_Secret hk (by omega) (by rw [q, hS 4 (by omega)]; assumption)
    rcases (oq k hk).2 with t5 | ⟨t5, t6, -⟩
    · simp (disch := first | omega | rfl | (simp (disch := omega) only [up_n1])) only [F_L_isTruth, F_X8_isTruth, F_X2_isOut, F_X9_isTruth, F_X9_isThere, F_X9_thrown, F_X9_carrier, e1, e2, ix_i, ↓pn_m, pn_l0, pn_l1, pn_l2, pn_l3, pn_l4, pn_l5, pn_l6, pn_l7, pn_l8, pn_l9, pn_l10, pn_l11, pn_l12, pn_l16, pn_l18, pn_l20, pn_l31, pn_l32, pn_l40, pn_l45, pn_l48, pn_l51, pn_l57, pn_l59, pn_l60, pn_l62, pn_l64, pn_l69, pn_l97, pn_l98, pn_l99, pn_l100, pn_l101, pn_l105, pn_l107, pn_l108, pn_l114, pn_l115, pn_l116, pn_l117, pn_l119, pn_l126, pn_l129, pn_l240, pn_l903, pn_l1032, nI_add, pk_mul, pk_sub, nI_clamp, nI_leI, nI_ltI, nI_eq, pm_1, pm_2, pm_3, pm_4, pm_5, pm_6, pm_7, pm_8, pn_lt, pn_nlt, pn_le, pn_nle, pn_ne, pn_eq, not_true_eq_false, not_false_eq_true, true_and, and_true, false_and, and_false, true_or, or_true, false_or, or_false, or_self, and_self, ne_eq, reduceIte, if_true, if_false, Nat.add_zero, Nat.zero_add, Nat.mul_zero, Nat.reduceAdd, Nat.reduceMul, fw_wi, fw_ri, up_e, up_n1, up_n2, cp_n, bx_s, bp_s, bt_l, bt_r, lx_s, r0, r1, r2, r3, r4, r5, rz, rl, rs, rt, ru, rp, rq, hS, c0, c1, c2, c3, c4, lc_t, wl_s, wb_s, t5]
      exact ⟨_, rfl, hI.sm (by repeat first | exact sm_0 | refine sm_386 ?_ | refine sm_378 ?_)⟩
    · simp (disch := first | omega | rfl | (simp (disch := omega) only [up_n1])) only [F_L_isTruth, F_X8_isTruth, F_X2_isOut, F_X9_isTruth, F_X9_isThere, F_X9_thrown, F_X9_carrier, e1, e2, ix_i, ↓pn_m, pn_l0, pn_l1, pn_l2, pn_l3, pn_l4, pn_l5, pn_l6, pn_l7, pn_l8, pn_l9, pn_l10, pn_l11, pn_l12, pn_l16, pn_l18, pn_l20, pn_l31, pn_l32, pn_l40, pn_l45, pn_l48, pn_l51, pn_l57, pn_l59, pn_l60, pn_l62, pn_l64, pn_l69, pn_l97, pn_l98, pn_l99, pn_l100, pn_l101, pn_l105, pn_l107, pn_l108, pn_l114, pn_l115, pn_l116, pn_l117, pn_l119, pn_l126, pn_l129, pn_l240, pn_l903, pn_l1032, nI_add, pk_mul, pk_sub, nI_clamp, nI_leI, nI_ltI, nI_eq, pm_1, pm_2, pm_3, pm_4, pm_5, pm_6, pm_7, pm_8, pn_lt, pn_nlt, pn_le, pn_nle, pn_ne, pn_eq, not_true_eq_false, not_false_eq_true, true_and, and_true, false_and, and_false, true_or, or_true, false_or, or_false, or_self, and_self, ne_eq, reduceIte, if_true, if_false, Nat.add_zero, Nat.zero_add, Nat.mul_zero, Nat.reduceAdd, Nat.reduceMul, fw_wi, fw_ri, up_e, up_n1, up_n2, cp_n, bx_s, bp_s, bt_l, bt_r, lx_s, r0, r1, r2, r3, r4, r5, rz, rl, rs, rt, ru, rp, rq, hS, c0, c1, c2, c3, c4, lc_t, wl_s, wb_s, t5]
      exact ⟨_, rfl, hI.sm (by repeat first | exact sm_0 | refine sm_386 ?_ | refine sm_378 ?_)⟩
  · have e1 : F_X8_requireSecret M a = some (.inr 0, M) := rq_Secret hk (by simp only [r0, r1, r2, r3, r4]; assumption)
    have e2 : F_X9_isSecret M a = some (nI 0) := is_Secret hk (by omega) (by rw [hS 4 (by omega)]; assumption)
    simp (disch := omega) only [F_L_isTruth, F_X8_isTruth, F_X9_isTruth, F_X9_isThere, F_X9_thrown, e1, e2, wb_0_0, ix_i, ↓pn_m, pn_l0, pn_l1, pn_l2, pn_l3, pn_l4, pn_l5, pn_l6, pn_l7, pn_l8, pn_l9, pn_l10, pn_l11, pn_l12, pn_l16, pn_l18, pn_l20, pn_l31, pn_l32, pn_l40, pn_l45, pn_l48, pn_l51, pn_l57, pn_l59, pn_l60, pn_l62, pn_l64, pn_l69, pn_l97, pn_l98, pn_l99, pn_l100, pn_l101, pn_l105, pn_l107, pn_l108, pn_l114, pn_l115, pn_l116, pn_l117, pn_l119, pn_l126, pn_l129, pn_l240, pn_l903, pn_l1032, nI_add, pk_mul, pk_sub, nI_clamp, nI_leI, nI_ltI, nI_eq, pm_1, pm_2, pm_3, pm_4, pm_5, pm_6, pm_7, pm_8, pn_lt, pn_nlt, pn_le, pn_nle, pn_ne, pn_eq, not_true_eq_false, not_false_eq_true, true_and, and_true, false_and, and_false, true_or, or_true, false_or, or_false, or_self, and_self, ne_eq, reduceIte, if_true, if_false, Nat.add_zero, Nat.zero_add, Nat.mul_zero, Nat.reduceAdd, Nat.reduceMul, fw_wi, fw_ri, up_e, up_n1, up_n2, cp_n, bx_s, bp_s, bt_l, bt_r, lx_s]
    exact ⟨_, rfl, hI.sm (by repeat first | exact sm_0 | refine sm_386 ?_ | refine sm_378 ?_)⟩
