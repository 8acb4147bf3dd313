/-! copies of states, the rows of states before -/
theorem cp_l {g g1 : Nat} (hg : g + 24 ≤ g1 ∨ g1 + 24 ≤ g) : ∀ (r n k : Nat) (M : fw_M), k + r = 5 → r < n → ∃ M1, F_X3_copyFrom_61 g g1 n (nI k) M = some M1 ∧ (∀ c, ¬ (g + 4 + k ≤ c ∧ c < g + 9) → M1 c = M c) ∧ (∀ c p, k ≤ c → c < 5 → p < 6 → M1 (g + 4 + c) p = M (g1 + 4 + c) p) := by
  intro r
  induction r with
  | zero =>
    intro n k M hk hn
    obtain ⟨n, rfl⟩ : ∃ m, n = m + 1 := ⟨n - 1, by omega⟩
    rw [F_X3_copyFrom_61]
    simp (disch := omega) only [ix_i, ↓pn_m, pn_l0, pn_l1, pn_l2, pn_l3, pn_l4, pn_l5, pn_l6, pn_l7, pn_l8, pn_l9, pn_l10, pn_l11, pn_l12, pn_l16, pn_l18, pn_l20, pn_l31, pn_l32, pn_l40, pn_l45, pn_l48, pn_l51, pn_l57, pn_l59, pn_l60, pn_l62, pn_l64, pn_l69, pn_l97, pn_l98, pn_l99, pn_l100, pn_l101, pn_l105, pn_l107, pn_l108, pn_l114, pn_l115, pn_l116, pn_l117, pn_l119, pn_l126, pn_l129, pn_l240, pn_l903, pn_l1032, nI_add, pk_mul, pk_sub, nI_clamp, nI_leI, nI_ltI, nI_eq, pm_1, pm_2, pm_3, pm_4, pm_5, pm_6, pm_7, pm_8, pn_lt, pn_nlt, pn_le, pn_nle, pn_ne, pn_eq, not_true_eq_false, not_false_eq_true, true_and, and_true, false_and, and_false, true_or, or_true, false_or, or_false, or_self, and_self, ne_eq, reduceIte, if_true, if_false, Nat.add_zero, Nat.zero_add, Nat.mul_zero, Nat.reduceAdd, Nat.reduceMul]
    exact ⟨M, rfl, fun _ _ => rfl, fun c p h1 h2 => by omega⟩
  | succ r ih =>
    intro n k M hk hn
    obtain ⟨n, rfl⟩ : ∃ m, n = m + 1 := ⟨n - 1, by omega⟩
    rw [F_X3_copyFrom_61]
    simp (disch := omega) only [ix_i, ↓pn_m, pn_l0, pn_l1, pn_l2, pn_l3, pn_l4, pn_l5, pn_l6, pn_l7, pn_l8, pn_l9, pn_l10, pn_l11, pn_l12, pn_l16, pn_l18, pn_l20, pn_l31, pn_l32, pn_l40, pn_l45, pn_l48, pn_l51, pn_l57, pn_l59, pn_l60, pn_l62, pn_l64, pn_l69, pn_l97, pn_l98, pn_l99, pn_l100, pn_l101, pn_l105, pn_l107, pn_l108, pn_l114, pn_l115, pn_l116, pn_l117, pn_l119, pn_l126, pn_l129, pn_l240, pn_l903, pn_l1032, nI_add, pk_mul, pk_sub, nI_clamp, nI_leI, nI_ltI, nI_eq, pm_1, pm_2, pm_3, pm_4, pm_5, pm_6, pm_7, pm_8, pn_lt, pn_nlt, pn_le, pn_nle, pn_ne, pn_eq, not_true_eq_false, not_false_eq_true, true_and, and_true, false_and, and_false, true_or, or_true, false_or, or_false, or_self, and_self, ne_eq, reduceIte, if_true, if_false, Nat.add_zero, Nat.zero_add, Nat.mul_zero, Nat.reduceAdd, Nat.reduceMul, lx_s]
    obtain ⟨M1, q1, q2, q3⟩ := ih n (k + 1) (fw_cp M (g1 + 4 + k) (g + 4 + k) 0 0 6) (by omega) (by omega)
    refine ⟨M1, q1, fun c hc => ?_, fun c p h1 h2 h3 => ?_⟩
    · rw [q2 c (by omega), cp_n (by omega)]
    · by_cases e : c = k
      · subst e
        rw [q2 _ (by omega), cp_i rfl (by omega) (by omega), Nat.zero_add, Nat.sub_zero]
      · rw [q3 c p (by omega) h2 h3, cp_n (by omega)]
theorem z_0 : (0 : Int32).toNatClampNeg = 0 := by decide
theorem z_5 : (5 : Int32).toNatClampNeg = 5 := by decide
theorem z_6 : (6 : Int32).toNatClampNeg = 6 := by decide
theorem z_8 : (8 : Int32).toNatClampNeg = 8 := by decide
theorem z_10 : (10 : Int32).toNatClampNeg = 10 := by decide
theorem cp_0 {M : fw_M} {k k1 n a b : Nat} (h : a = k1) (h2 : b < n) : fw_cp M k k1 0 0 n a b = M k b := by
  rw [cp_i h (by omega) (by omega), Nat.zero_add, Nat.sub_zero]
theorem cp_G {g g1 : Nat} {M : fw_M} (hg : g + 24 ≤ g1 ∨ g1 + 24 ≤ g) : ∃ M1, F_X3_copyFrom M g g1 = some M1 ∧ (∀ c, ¬ (g ≤ c ∧ c < g + 10) → M1 c = M c) ∧ (∀ i j, i < 10 → i ≠ 3 → (i = 0 → j < 2) → (i = 1 → j < 10) → (i = 2 → j < 5) → (i = 9 → j < 5) → (4 ≤ i ∧ i < 9 → j < 6) → M1 (g + i) j = M (g1 + i) j) := by
  unfold F_X3_copyFrom
  rw [lx_s, lx_s, if_pos (by decide), lx_s, if_pos (by decide), lx_s, lx_s, z_0, z_5, z_10]
  generalize hA : fw_up M g 0 (M g1 0) = A
  generalize hB : fw_up A g 1 (A g1 1) = B
  generalize hC : fw_cp B (g1 + 1) (g + 1) 0 0 10 = C
  generalize hD : fw_cp C (g1 + 2) (g + 2) 0 0 5 = D
  generalize hN : fw_cp D (g1 + 9) (g + 9) 0 0 5 = N
  have n1 : ∀ c, c ≠ g → c ≠ g + 1 → c ≠ g + 2 → c ≠ g + 9 → N c = M c := fun c h1 h2 h3 h4 => by
    rw [← hN, cp_n h4, ← hD, cp_n h3, ← hC, cp_n h2, ← hB, up_n1 h1, ← hA, up_n1 h1]
  have n2 : ∀ j, j < 2 → N g j = M g1 j := fun j hj => by
    rw [← hN, cp_n (by omega), ← hD, cp_n (by omega), ← hC, cp_n (by omega), ← hB]
    by_cases e : j = 1
    · rw [e, up_e rfl rfl, ← hA, up_n1 (by omega)]
    · obtain rfl : j = 0 := by omega
      rw [up_n2 (by omega), ← hA, up_e rfl rfl]
  have n3 : ∀ j, j < 10 → N (g + 1) j = M (g1 + 1) j := fun j hj => by
    rw [← hN, cp_n (by omega), ← hD, cp_n (by omega), ← hC, cp_0 rfl hj, ← hB, up_n1 (by omega), ← hA, up_n1 (by omega)]
  have n4 : ∀ j, j < 5 → N (g + 2) j = M (g1 + 2) j := fun j hj => by
    rw [← hN, cp_n (by omega), ← hD, cp_0 rfl hj, ← hC, cp_n (by omega), ← hB, up_n1 (by omega), ← hA, up_n1 (by omega)]
  have n5 : ∀ j, j < 5 → N (g + 9) j = M (g1 + 9) j := fun j hj => by
    rw [← hN, cp_0 rfl hj, ← hD, cp_n (by omega), ← hC, cp_n (by omega), ← hB, up_n1 (by omega), ← hA, up_n1 (by omega)]
  obtain ⟨M1, q1, q2, q3⟩ := cp_l hg 5 64 0 N rfl (by omega)
  refine ⟨M1, q1, fun c hc => ?_, fun i j h1 h2 h3 h4 h5 h6 h7 => ?_⟩
  · rw [q2 c (by omega), n1 c (by omega) (by omega) (by omega) (by omega)]
  · rcases (show i = 0 ∨ i = 1 ∨ i = 2 ∨ i = 9 ∨ (4 ≤ i ∧ i < 9) by omega) with rfl | rfl | rfl | rfl | h
    · rw [q2 _ (by omega)]
      exact n2 j (h3 rfl)
    · rw [q2 _ (by omega)]
      exact n3 j (h4 rfl)
    · rw [q2 _ (by omega)]
      exact n4 j (h5 rfl)
    · rw [q2 _ (by omega)]
      exact n5 j (h6 rfl)
    · obtain ⟨c, rfl⟩ : ∃ c, i = 4 + c := ⟨i - 4, by omega⟩
      rw [← Nat.add_assoc, ← Nat.add_assoc, q3 c j (by omega) (by omega) (h7 h), n1 _ (by omega) (by omega) (by omega) (by omega)]
theorem cp_F {g g1 : Nat} {M : fw_M} (hg : g + 16 ≤ g1 ∨ g1 + 16 ≤ g) : ∃ M1, F_X1_copyFrom M g g1 = some M1 ∧ (∀ c, ¬ (g ≤ c ∧ c < g + 4) → M1 c = M c) ∧ (∀ i j, i < 4 → (i = 0 → j < 1) → (0 < i → j < 6) → M1 (g + i) j = M (g1 + i) j) := by
  unfold F_X1_copyFrom
  rw [lx_s, if_pos (by decide), lx_s, lx_s, lx_s, z_0, z_6]
  generalize hA : fw_up M g 0 (M g1 0) = A
  generalize hB : fw_cp A (g1 + 1) (g + 1) 0 0 6 = B
  generalize hC : fw_cp B (g1 + 2) (g + 2) 0 0 6 = C
  generalize hD : fw_cp C (g1 + 3) (g + 3) 0 0 6 = D
  refine ⟨_, rfl, fun c hc => ?_, fun i j h1 h2 h3 => ?_⟩
  · rw [← hD, cp_n (by omega), ← hC, cp_n (by omega), ← hB, cp_n (by omega), ← hA, up_n1 (by omega)]
  · by_cases e : i = 0
    · subst e
      obtain rfl : j = 0 := by have := h2 rfl; omega
      rw [← hD, cp_n (by omega), ← hC, cp_n (by omega), ← hB, cp_n (by omega), ← hA, Nat.add_zero, up_e rfl rfl, Nat.add_zero]
    · have hj := h3 (by omega)
      rcases (show i = 1 ∨ i = 2 ∨ i = 3 by omega) with rfl | rfl | rfl
      · rw [← hD, cp_n (by omega), ← hC, cp_n (by omega), ← hB, cp_0 rfl hj, ← hA, up_n1 (by omega)]
      · rw [← hD, cp_n (by omega), ← hC, cp_0 rfl hj, ← hB, cp_n (by omega), ← hA, up_n1 (by omega)]
      · rw [← hD, cp_0 rfl hj, ← hC, cp_n (by omega), ← hB, cp_n (by omega), ← hA, up_n1 (by omega)]
theorem cp_D {g g1 : Nat} {M : fw_M} (hg : g + 16 ≤ g1 ∨ g1 + 16 ≤ g) : ∃ M1, F_X6_copyFrom M g g1 = some M1 ∧ (∀ c, ¬ (g ≤ c ∧ c < g + 7) → M1 c = M c) ∧ (∀ i j, i < 7 → (i = 0 → j < 1) → (0 < i → j < 8) → M1 (g + i) j = M (g1 + i) j) := by
  unfold F_X6_copyFrom
  rw [lx_s, if_pos (by decide), lx_s, lx_s, lx_s, lx_s, lx_s, lx_s, z_0, z_8]
  generalize hA : fw_up M g 0 (M g1 0) = A
  generalize hB : fw_cp A (g1 + 1) (g + 1) 0 0 8 = B
  generalize hC : fw_cp B (g1 + 2) (g + 2) 0 0 8 = C
  generalize hD : fw_cp C (g1 + 3) (g + 3) 0 0 8 = D
  generalize hE : fw_cp D (g1 + 4) (g + 4) 0 0 8 = E
  generalize hF : fw_cp E (g1 + 5) (g + 5) 0 0 8 = F
  generalize hG : fw_cp F (g1 + 6) (g + 6) 0 0 8 = G
  refine ⟨_, rfl, fun c hc => ?_, fun i j h1 h2 h3 => ?_⟩
  · rw [← hG, cp_n (by omega), ← hF, cp_n (by omega), ← hE, cp_n (by omega), ← hD, cp_n (by omega), ← hC, cp_n (by omega), ← hB, cp_n (by omega), ← hA, up_n1 (by omega)]
  · by_cases e : i = 0
    · subst e
      obtain rfl : j = 0 := by have := h2 rfl; omega
      rw [← hG, cp_n (by omega), ← hF, cp_n (by omega), ← hE, cp_n (by omega), ← hD, cp_n (by omega), ← hC, cp_n (by omega), ← hB, cp_n (by omega), ← hA, Nat.add_zero, up_e rfl rfl, Nat.add_zero]
    · have hj := h3 (by omega)
      rcases (show i = 1 ∨ i = 2 ∨ i = 3 ∨ i = 4 ∨ i = 5 ∨ i = 6 by omega) with rfl | rfl | rfl | rfl | rfl | rfl
      · rw [← hG, cp_n (by omega), ← hF, cp_n (by omega), ← hE, cp_n (by omega), ← hD, cp_n (by omega), ← hC, cp_n (by omega), ← hB, cp_0 rfl hj, ← hA, up_n1 (by omega)]
      · rw [← hG, cp_n (by omega), ← hF, cp_n (by omega), ← hE, cp_n (by omega), ← hD, cp_n (by omega), ← hC, cp_0 rfl hj, ← hB, cp_n (by omega), ← hA, up_n1 (by omega)]
      · rw [← hG, cp_n (by omega), ← hF, cp_n (by omega), ← hE, cp_n (by omega), ← hD, cp_0 rfl hj, ← hC, cp_n (by omega), ← hB, cp_n (by omega), ← hA, up_n1 (by omega)]
      · rw [← hG, cp_n (by omega), ← hF, cp_n (by omega), ← hE, cp_0 rfl hj, ← hD, cp_n (by omega), ← hC, cp_n (by omega), ← hB, cp_n (by omega), ← hA, up_n1 (by omega)]
      · rw [← hG, cp_n (by omega), ← hF, cp_0 rfl hj, ← hE, cp_n (by omega), ← hD, cp_n (by omega), ← hC, cp_n (by omega), ← hB, cp_n (by omega), ← hA, up_n1 (by omega)]
      · rw [← hG, cp_0 rfl hj, ← hF, cp_n (by omega), ← hE, cp_n (by omega), ← hD, cp_n (by omega), ← hC, cp_n (by omega), ← hB, cp_n (by omega), ← hA, up_n1 (by omega)]
theorem cp_O {g g1 : Nat} {M : fw_M} (hg : g + 8 ≤ g1 ∨ g1 + 8 ≤ g) : ∃ M1, F_X2_copyFrom M g g1 = some M1 ∧ (∀ c, ¬ (g ≤ c ∧ c < g + 3) → M1 c = M c) ∧ (∀ i j, i < 3 → (i = 0 → j < 1) → (0 < i → j < 6) → M1 (g + i) j = M (g1 + i) j) := by
  unfold F_X2_copyFrom
  rw [lx_s, if_pos (by decide), lx_s, lx_s, z_0, z_6]
  generalize hA : fw_up M g 0 (M g1 0) = A
  generalize hB : fw_cp A (g1 + 1) (g + 1) 0 0 6 = B
  generalize hC : fw_cp B (g1 + 2) (g + 2) 0 0 6 = C
  refine ⟨_, rfl, fun c hc => ?_, fun i j h1 h2 h3 => ?_⟩
  · rw [← hC, cp_n (by omega), ← hB, cp_n (by omega), ← hA, up_n1 (by omega)]
  · by_cases e : i = 0
    · subst e
      obtain rfl : j = 0 := by have := h2 rfl; omega
      rw [← hC, cp_n (by omega), ← hB, cp_n (by omega), ← hA, Nat.add_zero, up_e rfl rfl, Nat.add_zero]
    · have hj := h3 (by omega)
      rcases (show i = 1 ∨ i = 2 by omega) with rfl | rfl
      · rw [← hC, cp_n (by omega), ← hB, cp_0 rfl hj, ← hA, up_n1 (by omega)]
      · rw [← hC, cp_0 rfl hj, ← hB, cp_n (by omega), ← hA, up_n1 (by omega)]
theorem cp_S {g g1 : Nat} {M : fw_M} (hg : g + 32 ≤ g1 ∨ g1 + 32 ≤ g) : ∃ M1, F_X7_copyFrom M g g1 = some M1 ∧ (∀ c, ¬ (g ≤ c ∧ c < g + 32) → M1 c = M c) ∧ (∀ s, R M g1 s → sv s 2 ≤ 6 → R M1 g s) := by
  obtain ⟨A, a1, a2, a3⟩ := cp_G (g := g + 1) (g1 := g1 + 1) (M := M) (by omega)
  obtain ⟨B, b1, b2, b3⟩ := cp_F (g := g + 11) (g1 := g1 + 11) (M := A) (by omega)
  obtain ⟨C, c1, c2, c3⟩ := cp_D (g := g + 15) (g1 := g1 + 15) (M := B) (by omega)
  obtain ⟨D, d1, d2, d3⟩ := cp_O (g := g + 22) (g1 := g1 + 22) (M := C) (by omega)
  unfold F_X7_copyFrom
  rw [a1, bx_s, b1, bx_s, c1, bx_s, d1, bx_s, lx_s]
  have z : ∀ c, ¬ (g ≤ c ∧ c < g + 32) → fw_up D g 4 (D g1 4) c = M c := fun c hc => by
    rw [up_n1 (by omega), d2 c (by omega), c2 c (by omega), b2 c (by omega), a2 c (by omega)]
  refine ⟨_, rfl, z, fun s hR hs => hR.copy ?_ ?_ hs⟩
  · rw [up_e rfl rfl, d2 g1 (by omega), c2 g1 (by omega), b2 g1 (by omega), a2 g1 (by omega)]
  · intro i j h1 h2 h3 e1 e11 e2 e3 e10 e5 e12 e16 e23
    rw [up_n1 (by omega)]
    rcases (show i ≤ 10 ∨ (11 ≤ i ∧ i ≤ 14) ∨ (15 ≤ i ∧ i ≤ 21) ∨ 22 ≤ i by omega) with h | h | h | h
    · rw [d2 _ (by omega), c2 _ (by omega), b2 _ (by omega)]
      obtain ⟨c, rfl⟩ : ∃ c, i = 1 + c := ⟨i - 1, by omega⟩
      rw [← Nat.add_assoc, ← Nat.add_assoc]
      exact a3 c j (by omega) (by omega) (fun q => e1 (by omega)) (fun q => e2 (by omega)) (fun q => e3 (by omega)) (fun q => e10 (by omega)) (fun q => e5 (by omega))
    · rw [d2 _ (by omega), c2 _ (by omega)]
      obtain ⟨c, rfl⟩ : ∃ c, i = 11 + c := ⟨i - 11, by omega⟩
      rw [← Nat.add_assoc, ← Nat.add_assoc, b3 c j (by omega) (fun q => e11 (by omega)) (fun q => e12 (by omega)), a2 _ (by omega)]
    · rw [d2 _ (by omega)]
      obtain ⟨c, rfl⟩ : ∃ c, i = 15 + c := ⟨i - 15, by omega⟩
      rw [← Nat.add_assoc, ← Nat.add_assoc, c3 c j (by omega) (fun q => e11 (by omega)) (fun q => e16 (by omega)), b2 _ (by omega), a2 _ (by omega)]
    · obtain ⟨c, rfl⟩ : ∃ c, i = 22 + c := ⟨i - 22, by omega⟩
      rw [← Nat.add_assoc, ← Nat.add_assoc, d3 c j (by omega) (fun q => e11 (by omega)) (fun q => e23 (by omega)), c2 _ (by omega), b2 _ (by omega), a2 _ (by omega)]
def psh (hist : Nat → Nat → Int32) (nh : Nat) (s : Nat → Int32) : Nat → Nat → Int32 := fun i => if nh = 8 then (if i < 7 then hist (i + 1) else s) else (if i = nh then s else hist i)
def psn (nh : Nat) : Nat := if nh = 8 then 8 else nh + 1
theorem psn_le {nh : Nat} (h : nh ≤ 8) : psn nh ≤ 8 := by
  unfold psn
  split <;> omega
theorem psh_ok {hist : Nat → Nat → Int32} {nh : Nat} {s : Nat → Int32} (h : ∀ i, i < nh → ok (hist i)) (hs : ok s) : ∀ i, i < psn nh → ok (psh hist nh s i) := by
  intro i hi
  unfold psn at hi
  unfold psh
  by_cases e : nh = 8
  · rw [if_pos e]
    by_cases e2 : i < 7
    · rw [if_pos e2]; exact h _ (by omega)
    · rw [if_neg e2]; exact hs
  · rw [if_neg e] at hi ⊢
    by_cases e2 : i = nh
    · rw [if_pos e2]; exact hs
    · rw [if_neg e2]; exact h _ (by omega)
theorem rem_x {M : fw_M} {g1 a : Nat} {s : Nat → Int32} {n o : Nat} (hg : g1 = 0 ∨ g1 = 32) (hR : R M g1 s) (hs : sv s 2 ≤ 6) (ho : o < 8) (hn : n < 8) (h1 : M 353 1 = nI o) (h2 : M 353 2 = nI n) (ha : a = (o + n) % 8) : ∃ M1, F_X4_remember_32 g1 M = some M1 ∧ (∀ c, ¬ (96 + 32 * a ≤ c ∧ c < 96 + 32 * a + 32) → c ≠ 353 → M1 c = M c) ∧ M1 353 1 = nI o ∧ M1 353 2 = nI (n + 1) ∧ R M1 (96 + 32 * a) s := by
  have ha8 : a < 8 := by omega
  obtain ⟨A, a1, a2, a3⟩ := cp_S (g := 96 + 32 * a) (g1 := g1) (M := M) (by omega)
  have e1 : (M 353 1 + M 353 2) - (M 353 1 + M 353 2) / 8 * 8 = nI a := by
    rw [h1, h2, nI_add, ha]
    exact pk_rem (d := 8) (by omega) (by omega) (by omega)
  unfold F_X4_remember_32
  rw [e1, if_pos (nI_in ha8 (by omega)), nI_clamp (by omega), a1, bx_s, lx_s]
  refine ⟨_, rfl, fun c hc h3 => ?_, ?_, ?_, ?_⟩
  · rw [up_n1 h3, a2 c hc]
  · rw [up_n2 (by omega), a2 353 (by omega), h1]
  · rw [up_e rfl rfl, a2 353 (by omega), h2]
    exact nI_1 n
  · exact (a3 s hR hs).cong (fun k h3 h4 => up_n1 (by omega))
theorem rem_ok {M : fw_M} {g1 : Nat} {s : Nat → Int32} {hist : Nat → Nat → Int32} {nh : Nat} (hg : g1 = 0 ∨ g1 = 32) (hR : R M g1 s) (hs : sv s 2 ≤ 6) (hn : nh ≤ 8) (hH : Hc M hist nh) : ∃ M1, F_X4_remember M g1 = some M1 ∧ (∀ c, ¬ (96 ≤ c ∧ c < 352) → c ≠ 353 → M1 c = M c) ∧ Hc M1 (psh hist nh s) (psn nh) := by
  obtain ⟨h2, o, ho, h1, hh⟩ := hH
  unfold F_X4_remember
  by_cases e : nh = 8
  · subst e
    rw [h2, if_neg (by decide), h1]
    simp (disch := omega) only [lx_s]
    have e1 : ((nI o + 1) - (nI o + 1) / 8 * 8 : Int32) = nI ((o + 1) % 8) := by
      rw [nI_1]
      exact pk_rem (d := 8) (by omega) (by omega) (by omega)
    rw [e1]
    have e2 : fw_up M 353 1 (nI ((o + 1) % 8)) 353 2 - 1 = nI 7 := by
      rw [up_n2 (by omega), h2]
      decide
    rw [e2]
    obtain ⟨A, a1, a2, a3, a4, a5⟩ := rem_x (M := fw_up (fw_up M 353 1 (nI ((o + 1) % 8))) 353 2 (nI 7)) (o := (o + 1) % 8) (n := 7) (a := ((o + 1) % 8 + 7) % 8) hg (hR.cong (fun k h3 h4 => by rw [up_n1 (by omega), up_n1 (by omega)])) hs (by omega) (by omega) (by rw [up_n2 (by omega), up_e rfl rfl]) (up_e rfl rfl) rfl
    refine ⟨A, a1, fun c hc h3 => ?_, a4, (o + 1) % 8, by omega, a3, fun i hi => ?_⟩
    · rw [a2 c (by omega) h3, up_n1 h3, up_n1 h3]
    · unfold psh
      rw [if_pos rfl]
      have hi : i < 8 := hi
      by_cases e3 : i < 7
      · rw [if_pos e3]
        have e4 : ((o + 1) % 8 + i) % 8 = (o + (i + 1)) % 8 := by omega
        rw [e4]
        refine (hh (i + 1) (by omega)).cong (fun k h3 h4 => ?_)
        rw [a2 k (by omega) (by omega), up_n1 (by omega), up_n1 (by omega)]
      · rw [if_neg e3]
        obtain rfl : i = 7 := by omega
        exact a5
  · rw [h2, if_pos (by rw [show (8 : Int32) = nI 8 from rfl, nI_eq (by omega) (by omega)]; exact e)]
    obtain ⟨A, a1, a2, a3, a4, a5⟩ := rem_x (M := M) (o := o) (n := nh) (a := (o + nh) % 8) hg hR hs ho (by omega) h1 h2 rfl
    refine ⟨A, a1, fun c hc h3 => a2 c (by omega) h3, ?_⟩
    unfold psn psh
    rw [if_neg e]
    refine ⟨a4, o, ho, a3, fun i hi => ?_⟩
    show R A _ (if nh = 8 then (if i < 7 then hist (i + 1) else s) else (if i = nh then s else hist i))
    rw [if_neg e]
    by_cases e3 : i = nh
    · subst e3
      rw [if_pos rfl]
      exact a5
    · rw [if_neg e3]
      refine (hh i (by omega)).cong (fun k h3 h4 => ?_)
      rw [a2 k (by omega) (by omega)]
theorem tak_ok {M : fw_M} {hist : Nat → Nat → Int32} {nh : Nat} (h0 : 0 < nh) (hn : nh ≤ 8) (hH : Hc M hist nh) (hs : sv (hist (nh - 1)) 2 ≤ 6) : ∃ M1, F_X4_takeBack M 0 = some M1 ∧ (∀ c, 32 ≤ c → c ≠ 353 → M1 c = M c) ∧ R M1 0 (hist (nh - 1)) ∧ Hc M1 hist (nh - 1) := by
  obtain ⟨h2, o, ho, h1, hh⟩ := hH
  unfold F_X4_takeBack
  rw [h2, if_neg (nI_nle h0 (by omega)), lx_s]
  have e0 : nI nh - 1 = nI (nh - 1) := pk_sub (a := nh) (b := 1) (by omega)
  rw [e0, up_n2 (by omega), up_e rfl rfl, h1]
  have e1 : (nI o + nI (nh - 1)) - (nI o + nI (nh - 1)) / 8 * 8 = nI ((o + (nh - 1)) % 8) := by
    rw [nI_add]
    exact pk_rem (d := 8) (by omega) (by omega) (by omega)
  rw [e1, if_pos (nI_in (by omega) (by omega)), nI_clamp (by omega)]
  obtain ⟨A, a1, a2, a3⟩ := cp_S (g := 0) (g1 := 96 + 32 * ((o + (nh - 1)) % 8)) (M := fw_up M 353 2 (nI (nh - 1))) (by omega)
  rw [a1, bx_s]
  refine ⟨A, rfl, fun c hc h3 => by rw [a2 c (by omega), up_n1 h3], a3 _ ((hh (nh - 1) (by omega)).cong (fun k h3 h4 => up_n1 (by omega))) hs, ?_, o, ho, ?_, fun i hi => ?_⟩
  · rw [a2 353 (by omega), up_e rfl rfl]
  · rw [a2 353 (by omega), up_n2 (by omega), h1]
  · exact (hh i (by omega)).cong (fun k h3 h4 => by rw [a2 k (by omega), up_n1 (by omega)])
/-! the model's keep and ends -/
theorem keep_ok (M : fw_M) : F_X9_keep M = some (fw_cp (fw_up M 378 6 (nI 0)) 379 380 0 0 129) := by
  unfold F_X9_keep
  simp (disch := omega) only [ix_i, ↓pn_m, pn_l0, pn_l1, pn_l2, pn_l3, pn_l4, pn_l5, pn_l6, pn_l7, pn_l8, pn_l9, pn_l10, pn_l11, pn_l12, pn_l16, pn_l18, pn_l20, pn_l31, pn_l32, pn_l40, pn_l45, pn_l48, pn_l51, pn_l57, pn_l59, pn_l60, pn_l62, pn_l64, pn_l69, pn_l97, pn_l98, pn_l99, pn_l100, pn_l101, pn_l105, pn_l107, pn_l108, pn_l114, pn_l115, pn_l116, pn_l117, pn_l119, pn_l126, pn_l129, pn_l240, pn_l903, pn_l1032, nI_add, pk_mul, pk_sub, nI_clamp, nI_leI, nI_ltI, nI_eq, pm_1, pm_2, pm_3, pm_4, pm_5, pm_6, pm_7, pm_8, pn_lt, pn_nlt, pn_le, pn_nle, pn_ne, pn_eq, not_true_eq_false, not_false_eq_true, true_and, and_true, false_and, and_false, true_or, or_true, false_or, or_false, or_self, and_self, ne_eq, reduceIte, if_true, if_false, Nat.add_zero, Nat.zero_add, Nat.mul_zero, Nat.reduceAdd, Nat.reduceMul, lx_s]
theorem ends_ok {M : fw_M} {s : Nat → Int32} {hist : Nat → Nat → Int32} {nh : Nat} {a : Int32} (h0 : M 378 6 = nI 0) (hn : nh ≤ 8) (hH : Hm M hist nh) (hb : ∀ j, j < 129 → M 380 j = s j) : ∃ M1, F_X9_ends M a = some (a, M1) ∧ (∀ c, c ≠ 382 → c ≠ 378 → M1 c = M c) ∧ (∀ j, j ≠ 5 → M1 378 j = M 378 j) ∧ Hm M1 (psh hist nh s) (psn nh) := by
  obtain ⟨h2, hh⟩ := hH
  unfold F_X9_ends
  rw [h0, if_pos (by decide), h2]
  by_cases e : nh = 8
  · subst e
    simp (disch := omega) only [ix_i, ↓pn_m, pn_l0, pn_l1, pn_l2, pn_l3, pn_l4, pn_l5, pn_l6, pn_l7, pn_l8, pn_l9, pn_l10, pn_l11, pn_l12, pn_l16, pn_l18, pn_l20, pn_l31, pn_l32, pn_l40, pn_l45, pn_l48, pn_l51, pn_l57, pn_l59, pn_l60, pn_l62, pn_l64, pn_l69, pn_l97, pn_l98, pn_l99, pn_l100, pn_l101, pn_l105, pn_l107, pn_l108, pn_l114, pn_l115, pn_l116, pn_l117, pn_l119, pn_l126, pn_l129, pn_l240, pn_l903, pn_l1032, nI_add, pk_mul, pk_sub, nI_clamp, nI_leI, nI_ltI, nI_eq, pm_1, pm_2, pm_3, pm_4, pm_5, pm_6, pm_7, pm_8, pn_lt, pn_nlt, pn_le, pn_nle, pn_ne, pn_eq, not_true_eq_false, not_false_eq_true, true_and, and_true, false_and, and_false, true_or, or_true, false_or, or_false, or_self, and_self, ne_eq, reduceIte, if_true, if_false, Nat.add_zero, Nat.zero_add, Nat.mul_zero, Nat.reduceAdd, Nat.reduceMul, lx_s, F_X9_ends_62]
    have e2 : fw_up (fw_cp M 382 382 129 0 903) 378 5 (fw_cp M 382 382 129 0 903 378 5 - nI 1) 378 5 = nI 7 := by
      rw [up_e rfl rfl, cp_n (by omega), h2]
      decide
    rw [e2]
    simp (disch := omega) only [ix_i, ↓pn_m, pn_l0, pn_l1, pn_l2, pn_l3, pn_l4, pn_l5, pn_l6, pn_l7, pn_l8, pn_l9, pn_l10, pn_l11, pn_l12, pn_l16, pn_l18, pn_l20, pn_l31, pn_l32, pn_l40, pn_l45, pn_l48, pn_l51, pn_l57, pn_l59, pn_l60, pn_l62, pn_l64, pn_l69, pn_l97, pn_l98, pn_l99, pn_l100, pn_l101, pn_l105, pn_l107, pn_l108, pn_l114, pn_l115, pn_l116, pn_l117, pn_l119, pn_l126, pn_l129, pn_l240, pn_l903, pn_l1032, nI_add, pk_mul, pk_sub, nI_clamp, nI_leI, nI_ltI, nI_eq, pm_1, pm_2, pm_3, pm_4, pm_5, pm_6, pm_7, pm_8, pn_lt, pn_nlt, pn_le, pn_nle, pn_ne, pn_eq, not_true_eq_false, not_false_eq_true, true_and, and_true, false_and, and_false, true_or, or_true, false_or, or_false, or_self, and_self, ne_eq, reduceIte, if_true, if_false, Nat.add_zero, Nat.zero_add, Nat.mul_zero, Nat.reduceAdd, Nat.reduceMul, lx_s]
    refine ⟨_, rfl, fun c h3 h4 => ?_, fun j h3 => ?_, ?_, fun i j hi hj => ?_⟩
    · rw [up_n1 h4, cp_n h3, up_n1 h4, cp_n h3]
    · rw [up_n2 h3, cp_n (by omega), up_n2 h3, cp_n (by omega)]
    · rw [up_e rfl rfl, cp_n (by omega), e2]
      rfl
    · have hi : i < 8 := hi
      rw [up_n1 (by omega)]
      unfold psh
      rw [if_pos rfl]
      by_cases e3 : i < 7
      · rw [if_pos e3, cp_o (by omega), up_n1 (by omega), cp_i rfl (by omega) (by omega), ← hh (i + 1) j (by omega) hj]
        exact congrArg (M 382) (by omega)
      · obtain rfl : i = 7 := by omega
        rw [if_neg e3, cp_i rfl (by omega) (by omega), up_n1 (by omega), cp_n (by omega), ← hb j hj]
        exact congrArg (M 380) (by omega)
  · rw [if_pos (by rw [show (8 : Int32) = nI 8 from rfl, nI_eq (by omega) (by omega)]; exact e)]
    unfold F_X9_ends_62
    rw [h2]
    simp (disch := omega) only [ix_i, ↓pn_m, pn_l0, pn_l1, pn_l2, pn_l3, pn_l4, pn_l5, pn_l6, pn_l7, pn_l8, pn_l9, pn_l10, pn_l11, pn_l12, pn_l16, pn_l18, pn_l20, pn_l31, pn_l32, pn_l40, pn_l45, pn_l48, pn_l51, pn_l57, pn_l59, pn_l60, pn_l62, pn_l64, pn_l69, pn_l97, pn_l98, pn_l99, pn_l100, pn_l101, pn_l105, pn_l107, pn_l108, pn_l114, pn_l115, pn_l116, pn_l117, pn_l119, pn_l126, pn_l129, pn_l240, pn_l903, pn_l1032, nI_add, pk_mul, pk_sub, nI_clamp, nI_leI, nI_ltI, nI_eq, pm_1, pm_2, pm_3, pm_4, pm_5, pm_6, pm_7, pm_8, pn_lt, pn_nlt, pn_le, pn_nle, pn_ne, pn_eq, not_true_eq_false, not_false_eq_true, true_and, and_true, false_and, and_false, true_or, or_true, false_or, or_false, or_self, and_self, ne_eq, reduceIte, if_true, if_false, Nat.add_zero, Nat.zero_add, Nat.mul_zero, Nat.reduceAdd, Nat.reduceMul, lx_s]
    refine ⟨_, rfl, fun c h3 h4 => ?_, fun j h3 => ?_, ?_, fun i j hi hj => ?_⟩
    · rw [up_n1 h4, cp_n h3]
    · rw [up_n2 h3, cp_n (by omega)]
    · rw [up_e rfl rfl, cp_n (by omega), h2, nI_add]
      unfold psn
      rw [if_neg e]
    · unfold psn at hi
      rw [if_neg e] at hi
      rw [up_n1 (by omega)]
      unfold psh
      rw [if_neg e]
      by_cases e3 : i = nh
      · subst e3
        rw [if_pos rfl, cp_i rfl (by omega) (by omega), ← hb j hj]
        exact congrArg (M 380) (by omega)
      · rw [if_neg e3, cp_o (by omega), hh i j (by omega) hj]
theorem ends_no {M : fw_M} {s : Nat → Int32} {t : Nat} {a : Int32} (ht : 0 < t) (ht2 : t < 100) (h0 : M 378 6 = nI t) (hb : ∀ j, j < 129 → M 380 j = s j) : ∃ M1, F_X9_ends M a = some (nI 0, M1) ∧ (∀ c, c ≠ 379 → M1 c = M c) ∧ Sm M1 s := by
  unfold F_X9_ends
  rw [h0, if_neg (nI_nle ht (by omega))]
  simp (disch := omega) only [ix_i, ↓pn_m, pn_l0, pn_l1, pn_l2, pn_l3, pn_l4, pn_l5, pn_l6, pn_l7, pn_l8, pn_l9, pn_l10, pn_l11, pn_l12, pn_l16, pn_l18, pn_l20, pn_l31, pn_l32, pn_l40, pn_l45, pn_l48, pn_l51, pn_l57, pn_l59, pn_l60, pn_l62, pn_l64, pn_l69, pn_l97, pn_l98, pn_l99, pn_l100, pn_l101, pn_l105, pn_l107, pn_l108, pn_l114, pn_l115, pn_l116, pn_l117, pn_l119, pn_l126, pn_l129, pn_l240, pn_l903, pn_l1032, nI_add, pk_mul, pk_sub, nI_clamp, nI_leI, nI_ltI, nI_eq, pm_1, pm_2, pm_3, pm_4, pm_5, pm_6, pm_7, pm_8, pn_lt, pn_nlt, pn_le, pn_nle, pn_ne, pn_eq, not_true_eq_false, not_false_eq_true, true_and, and_true, false_and, and_false, true_or, or_true, false_or, or_false, or_self, and_self, ne_eq, reduceIte, if_true, if_false, Nat.add_zero, Nat.zero_add, Nat.mul_zero, Nat.reduceAdd, Nat.reduceMul, lx_s]
  refine ⟨_, rfl, fun c hc => cp_n hc, fun j hj => ?_⟩
  rw [cp_i rfl (by omega) (by omega), ← hb j hj]
  exact congrArg (M 380) (by omega)
