/-! which slots a sound picture rests on -/
theorem pk_u1 {f : Nat → Int32} {k j : Nat} {x : Int32} (h : j = k) : upd f k x j = x := by
  subst h
  exact pk_us
theorem okc.c {s s1 : Nat → Int32} (h : okc s) (q : ∀ j, j < 5 → s1 j = s j) : okc s1 := by
  unfold okc at *
  rw [sv_cong (q 0 (by omega)), sv_cong (q 1 (by omega)), sv_cong (q 2 (by omega)), sv_cong (q 3 (by omega)), sv_cong (q 4 (by omega)), q 0 (by omega), q 1 (by omega), q 2 (by omega), q 3 (by omega), q 4 (by omega)]
  exact h
theorem okz.c {s s1 : Nat → Int32} (h : okz s) (q : ∀ j, 6 ≤ j → j < 16 → s1 j = s j) : okz s1 := by
  intro j hj
  rw [sv_cong (q (6 + j) (by omega) (by omega)), q (6 + j) (by omega) (by omega)]
  exact h j hj
theorem okl.c {s s1 : Nat → Int32} (h : okl s) (q1 : s1 1 = s 1) (q : ∀ l, l < 5 → s1 (16 + 7 * l) = s (16 + 7 * l)) : okl s1 := by
  intro l hl
  rw [sv_cong (q l hl), sv_cong q1, q l hl]
  exact h l hl
theorem oks.c {s s1 : Nat → Int32} (h : oks s) (hl6 : okl s) (q0 : sv s 0 ≤ sv s1 0) (q : ∀ j, 16 ≤ j → j < 51 → s1 j = s j) : oks s1 := by
  intro l p hl hp
  rw [sv_cong (q (16 + 7 * l) (by omega) (by omega))] at hp
  have h6 := (hl6 l hl).2.1
  rw [sv_cong (q (16 + 7 * l + 1 + p) (by omega) (by omega)), q (16 + 7 * l + 1 + p) (by omega) (by omega)]
  exact ⟨(h l p hl hp).1, Nat.lt_of_lt_of_le (h l p hl hp).2 q0⟩
theorem okd.c {s s1 : Nat → Int32} (h : okd s) (hl6 : okl s) (q : ∀ j, 16 ≤ j → j < 51 → s1 j = s j) : okd s1 := by
  intro l p p2 hl hp hp2
  rw [sv_cong (q (16 + 7 * l) (by omega) (by omega))] at hp2
  have h6 := (hl6 l hl).2.1
  rw [sv_cong (q (16 + 7 * l + 1 + p) (by omega) (by omega)), sv_cong (q (16 + 7 * l + 1 + p2) (by omega) (by omega))]
  exact h l p p2 hl hp hp2
theorem okt.c {s s1 : Nat → Int32} (h : okt s) (b1 : sv s 1 ≤ 5) (b2 : sv s 2 ≤ 6) (q2 : s1 2 = s 2) (q1 : sv s 1 ≤ sv s1 1) (ql : ∀ l, l < sv s 1 → sv s (16 + 7 * l) ≤ sv s1 (16 + 7 * l)) (q : ∀ j, 51 ≤ j → j < 69 → s1 j = s j) : okt s1 := by
  intro t ht
  rw [sv_cong q2] at ht
  obtain ⟨h1, h2, h3, h4, h5⟩ := h t ht
  have h6 := ql _ h2
  rw [sv_cong (q (51 + 3 * t) (by omega) (by omega)), sv_cong (q (51 + 3 * t + 1) (by omega) (by omega)), q (51 + 3 * t) (by omega) (by omega), q (51 + 3 * t + 1) (by omega) (by omega), q (51 + 3 * t + 2) (by omega) (by omega)]
  refine ⟨h1, by omega, h3, by omega, ?_⟩
  rcases h5 with ⟨h5, h7⟩ | h5
  · exact Or.inl ⟨h5, by omega⟩
  · exact Or.inr h5
theorem okp.c {s s1 : Nat → Int32} (h : okp s) (b3 : sv s 3 ≤ 8) (q3 : s1 3 = s 3) (q0 : sv s 0 ≤ sv s1 0) (q2 : sv s 2 ≤ sv s1 2) (q : ∀ j, 69 ≤ j → j < 117 → s1 j = s j) : okp s1 := by
  intro p hp
  rw [sv_cong q3] at hp
  obtain ⟨h1, h2⟩ := h p hp
  rw [sv_cong (q (69 + 6 * p) (by omega) (by omega)), sv_cong (q (69 + 6 * p + 1) (by omega) (by omega)), sv_cong (q (69 + 6 * p + 2) (by omega) (by omega)), sv_cong (q (69 + 6 * p + 3) (by omega) (by omega)), sv_cong (q (69 + 6 * p + 4) (by omega) (by omega)), q (69 + 6 * p) (by omega) (by omega), q (69 + 6 * p + 1) (by omega) (by omega), q (69 + 6 * p + 2) (by omega) (by omega), q (69 + 6 * p + 3) (by omega) (by omega), q (69 + 6 * p + 4) (by omega) (by omega)]
  refine ⟨?_, h2⟩
  rcases h1 with ⟨a, b, c⟩ | ⟨a, b⟩
  · exact Or.inl ⟨a, b, by omega⟩
  · exact Or.inr ⟨a, by omega⟩
theorem okq.c {s s1 : Nat → Int32} (h : okq s) (b4 : sv s 4 ≤ 6) (q4 : s1 4 = s 4) (q3 : sv s 3 ≤ sv s1 3) (q : ∀ j, 117 ≤ j → j < 129 → s1 j = s j) : okq s1 := by
  intro p hp
  rw [sv_cong q4] at hp
  obtain ⟨h1, h2⟩ := h p hp
  rw [sv_cong (q (117 + 2 * p) (by omega) (by omega)), sv_cong (q (117 + 2 * p + 1) (by omega) (by omega)), q (117 + 2 * p) (by omega) (by omega), q (117 + 2 * p + 1) (by omega) (by omega)]
  refine ⟨h1, ?_⟩
  rcases h2 with a | ⟨a, b, c⟩
  · exact Or.inl a
  · exact Or.inr ⟨a, by omega, c⟩
theorem lset.c {s s1 : Nat → Int32} {l : Nat} (hl : sv s (16 + 7 * l) ≤ 6) (q : ∀ j, j < 7 → s1 (16 + 7 * l + j) = s (16 + 7 * l + j)) : lset s1 l = lset s l := by
  unfold lset
  have e0 : sv s1 (16 + 7 * l) = sv s (16 + 7 * l) := sv_cong (q 0 (by omega))
  rw [e0]
  exact bs_cong (fun k hk => sv_cong (by rw [Nat.add_assoc]; exact q (1 + k) (by omega)))
/-! which cells and slots a picture of the class's state rests on -/
theorem Rn.c {M M1 : fw_M} {s s1 : Nat → Int32} (h : Rn M 0 s) (q : M1 1 0 = M 1 0 ∧ M1 1 1 = M 1 1 ∧ M1 11 0 = M 11 0 ∧ M1 15 0 = M 15 0 ∧ M1 22 0 = M 22 0 ∧ M1 0 4 = M 0 4) (q2 : ∀ j, j < 6 → s1 j = s j) : Rn M1 0 s1 := by
  unfold Rn at *
  simp only [Nat.zero_add] at *
  rw [q.1, q.2.1, q.2.2.1, q.2.2.2.1, q.2.2.2.2.1, q.2.2.2.2.2, q2 0 (by omega), q2 1 (by omega), q2 2 (by omega), q2 3 (by omega), q2 4 (by omega), q2 5 (by omega)]
  exact h
theorem Rz.c {M M1 : fw_M} {s s1 : Nat → Int32} (h : Rz M 0 s) (q : M1 2 = M 2) (q2 : ∀ j, 6 ≤ j → j < 16 → s1 j = s j) : Rz M1 0 s1 := by
  intro j hj
  rw [q2 (6 + j) (by omega) (by omega), Nat.zero_add, q]
  have := h j hj
  rwa [Nat.zero_add] at this
theorem Rl.c {M M1 : fw_M} {s s1 : Nat → Int32} (h : Rl M 0 s) (hk : okl s) (q : M1 3 = M 3) (qb : M1 10 = M 10) (q2 : ∀ j, 16 ≤ j → j < 51 → s1 j = s j) : Rl M1 0 s1 := by
  intro l hl
  rw [q2 (16 + 7 * l) (by omega) (by omega), lset.c (hk l hl).2.1 (fun j hj => q2 _ (by omega) (by omega)), Nat.zero_add, Nat.zero_add, q, qb]
  have := h l hl
  rwa [Nat.zero_add, Nat.zero_add] at this
theorem Rs.c {M M1 : fw_M} {s s1 : Nat → Int32} (h : Rs M 0 s) (q : ∀ l, l < 5 → M1 (5 + l) = M (5 + l)) (q2 : ∀ j, 16 ≤ j → j < 51 → s1 j = s j) : Rs M1 0 s1 := by
  intro l p hl hp
  have := h l p hl hp
  rw [q2 (16 + 7 * l + 1 + p) (by omega) (by omega), Nat.zero_add, q l hl]
  rwa [Nat.zero_add] at this
theorem Rt.c {M M1 : fw_M} {s s1 : Nat → Int32} (h : Rt M 0 s) (q : M1 12 = M 12) (qb : M1 13 = M 13) (q2 : ∀ j, 51 ≤ j → j < 69 → s1 j = s j) : Rt M1 0 s1 := by
  intro t ht
  have := h t ht
  rw [q2 (51 + 3 * t) (by omega) (by omega), q2 (51 + 3 * t + 1) (by omega) (by omega), Nat.zero_add, Nat.zero_add, q, qb]
  rwa [Nat.zero_add, Nat.zero_add] at this
theorem Ru.c {M M1 : fw_M} {s s1 : Nat → Int32} (h : Ru M 0 s) (b2 : sv s 2 ≤ 6) (q : M1 14 = M 14) (qn : s1 2 = s 2) (q2 : ∀ j, 51 ≤ j → j < 69 → s1 j = s j) : Ru M1 0 s1 := by
  intro t ht
  rw [sv_cong qn] at ht
  have := h t ht
  rw [q2 (51 + 3 * t + 2) (by omega) (by omega), Nat.zero_add, q]
  rwa [Nat.zero_add] at this
theorem Rp.c {M M1 : fw_M} {s s1 : Nat → Int32} (h : Rp M 0 s) (q : ∀ k, 16 ≤ k → k < 22 → M1 k = M k) (q2 : ∀ j, 69 ≤ j → j < 117 → s1 j = s j) : Rp M1 0 s1 := by
  intro p hp
  have := h p hp
  rw [q2 (69 + 6 * p) (by omega) (by omega), q2 (69 + 6 * p + 1) (by omega) (by omega), q2 (69 + 6 * p + 2) (by omega) (by omega), q2 (69 + 6 * p + 3) (by omega) (by omega), q2 (69 + 6 * p + 4) (by omega) (by omega), q2 (69 + 6 * p + 5) (by omega) (by omega)]
  simp only [Nat.zero_add] at *
  rw [q 16 (by omega) (by omega), q 17 (by omega) (by omega), q 18 (by omega) (by omega), q 19 (by omega) (by omega), q 20 (by omega) (by omega), q 21 (by omega) (by omega)]
  exact this
theorem Rq.c {M M1 : fw_M} {s s1 : Nat → Int32} (h : Rq M 0 s) (q : M1 23 = M 23) (qb : M1 24 = M 24) (q2 : ∀ j, 117 ≤ j → j < 129 → s1 j = s j) : Rq M1 0 s1 := by
  intro p hp
  have := h p hp
  rw [q2 (117 + 2 * p) (by omega) (by omega), q2 (117 + 2 * p + 1) (by omega) (by omega), Nat.zero_add, Nat.zero_add, q, qb]
  rwa [Nat.zero_add, Nat.zero_add] at this
/-! the model's small readers -/
theorem lenM {M : fw_M} {s : Nat → Int32} (hk : ok s) (hS : Sm M s) {l : Nat} (hl : l < 5) : F_X9_lengthOf M (nI l) = some (nI (sv s (16 + 7 * l))) := by
  obtain ⟨-, -, ol, -⟩ := hk
  obtain ⟨l1, l2, -⟩ := ol l hl
  unfold F_X9_lengthOf
  simp (disch := omega) only [ix_i, ↓pn_m, pn_l0, pn_l1, pn_l2, pn_l3, pn_l4, pn_l5, pn_l6, pn_l7, pn_l8, pn_l9, pn_l10, pn_l11, pn_l12, pn_l16, pn_l18, pn_l20, pn_l31, pn_l32, pn_l40, pn_l45, pn_l48, pn_l51, pn_l57, pn_l59, pn_l60, pn_l62, pn_l64, pn_l69, pn_l97, pn_l98, pn_l99, pn_l100, pn_l101, pn_l105, pn_l107, pn_l108, pn_l114, pn_l115, pn_l116, pn_l117, pn_l119, pn_l126, pn_l129, pn_l240, pn_l903, pn_l1032, nI_add, pk_mul, pk_sub, nI_clamp, nI_leI, nI_ltI, nI_eq, pm_1, pm_2, pm_3, pm_4, pm_5, pm_6, pm_7, pm_8, pn_lt, pn_nlt, pn_le, pn_nle, pn_ne, pn_eq, not_true_eq_false, not_false_eq_true, true_and, and_true, false_and, and_false, true_or, or_true, false_or, or_false, or_self, and_self, ne_eq, reduceIte, if_true, if_false, Nat.add_zero, Nat.zero_add, Nat.mul_zero, Nat.reduceAdd, Nat.reduceMul, fw_ri, hS (16 + 7 * l) (by omega)]
  rw [← l1]
theorem stM {M : fw_M} {s : Nat → Int32} (hS : Sm M s) {l p : Nat} (hl : l < 5) (hp : p < 6) : F_X9_stopOf M (nI l) (nI p) = some (s (16 + 7 * l + 1 + p)) := by
  unfold F_X9_stopOf
  simp (disch := omega) only [ix_i, ↓pn_m, pn_l0, pn_l1, pn_l2, pn_l3, pn_l4, pn_l5, pn_l6, pn_l7, pn_l8, pn_l9, pn_l10, pn_l11, pn_l12, pn_l16, pn_l18, pn_l20, pn_l31, pn_l32, pn_l40, pn_l45, pn_l48, pn_l51, pn_l57, pn_l59, pn_l60, pn_l62, pn_l64, pn_l69, pn_l97, pn_l98, pn_l99, pn_l100, pn_l101, pn_l105, pn_l107, pn_l108, pn_l114, pn_l115, pn_l116, pn_l117, pn_l119, pn_l126, pn_l129, pn_l240, pn_l903, pn_l1032, nI_add, pk_mul, pk_sub, nI_clamp, nI_leI, nI_ltI, nI_eq, pm_1, pm_2, pm_3, pm_4, pm_5, pm_6, pm_7, pm_8, pn_lt, pn_nlt, pn_le, pn_nle, pn_ne, pn_eq, not_true_eq_false, not_false_eq_true, true_and, and_true, false_and, and_false, true_or, or_true, false_or, or_false, or_self, and_self, ne_eq, reduceIte, if_true, if_false, Nat.add_zero, Nat.zero_add, Nat.mul_zero, Nat.reduceAdd, Nat.reduceMul, fw_ri, hS (16 + 7 * l + 1 + p) (by omega)]
theorem pos_1 {M : fw_M} {s : Nat → Int32} (hk : ok s) (hS : Sm M s) {l : Nat} (hl : l < 5) {a : Int32} : ∀ (r n k : Nat) (x : Int32), k + r = sv s (16 + 7 * l) → r < n → (∀ j, k ≤ j → j < sv s (16 + 7 * l) → s (16 + 7 * l + 1 + j) ≠ a) → F_X9_positionOf_5 M (nI l) a n x (nI k) = some x := by
  have l6 := (hk.2.2.1 l hl).2.1
  intro r
  induction r with
  | zero =>
    intro n k x h1 h2 h3
    obtain ⟨n, rfl⟩ : ∃ m, n = m + 1 := ⟨n - 1, by omega⟩
    rw [F_X9_positionOf_5, lenM hk hS hl, bx_s, if_pos (nI_le (by omega) (by omega))]
  | succ r ih =>
    intro n k x h1 h2 h3
    obtain ⟨n, rfl⟩ : ∃ m, n = m + 1 := ⟨n - 1, by omega⟩
    rw [F_X9_positionOf_5, lenM hk hS hl, bx_s, if_neg (nI_ge (by omega) (by omega)), stM hS hl (by omega), bx_s, if_pos (h3 k (by omega) (by omega)), nI_1]
    exact ih n (k + 1) x (by omega) (by omega) (fun j h4 h5 => h3 j (by omega) h5)
theorem pos_none {M : fw_M} {s : Nat → Int32} (hk : ok s) (hS : Sm M s) {l : Nat} (hl : l < 5) {a : Int32} (h : ∀ j, j < sv s (16 + 7 * l) → s (16 + 7 * l + 1 + j) ≠ a) : F_X9_positionOf M (nI l) a = some mI := by
  have l6 := (hk.2.2.1 l hl).2.1
  exact pos_1 hk hS hl (sv s (16 + 7 * l)) 64 0 mI (by omega) (by omega) (fun j _ h5 => h j h5)
theorem pos_2 {M : fw_M} {s : Nat → Int32} (hk : ok s) (hS : Sm M s) {l p : Nat} (hl : l < 5) (hp : p < sv s (16 + 7 * l)) : ∀ (r n k : Nat) (x : Int32), k + r = p → r + 7 < n → F_X9_positionOf_5 M (nI l) (nI (sv s (16 + 7 * l + 1 + p))) n x (nI k) = some (nI p) := by
  have l6 := (hk.2.2.1 l hl).2.1
  have hs := hk.2.2.2.1
  have hd := hk.2.2.2.2.1
  have b0 := hk.1.1.2
  intro r
  induction r with
  | zero =>
    intro n k x h1 h2
    obtain ⟨n, rfl⟩ : ∃ m, n = m + 1 := ⟨n - 1, by omega⟩
    obtain rfl : k = p := by omega
    rw [F_X9_positionOf_5, lenM hk hS hl, bx_s, if_neg (nI_ge (by omega) (by omega)), stM hS hl (by omega), bx_s, if_neg (fun q => q (hs l k hl hp).1), nI_1]
    refine pos_1 hk hS hl (sv s (16 + 7 * l) - (k + 1)) n (k + 1) _ (by omega) (by omega) (fun j h4 h5 e => ?_)
    have e1 := (hs l j hl h5)
    have e2 := (hs l k hl hp)
    rw [e1.1, nI_eq (by omega) (by omega)] at e
    exact hd l k j hl (by omega) h5 e.symm
  | succ r ih =>
    intro n k x h1 h2
    obtain ⟨n, rfl⟩ : ∃ m, n = m + 1 := ⟨n - 1, by omega⟩
    rw [F_X9_positionOf_5, lenM hk hS hl, bx_s, if_neg (nI_ge (by omega) (by omega)), stM hS hl (by omega), bx_s, nI_1]
    have e1 := (hs l k hl (by omega))
    have e2 := (hs l p hl hp)
    rw [if_pos (fun e => ?_)]
    · exact ih n (k + 1) x (by omega) (by omega)
    · rw [e1.1, nI_eq (by omega) (by omega)] at e
      exact hd l k p hl (by omega) hp e
theorem pos_some {M : fw_M} {s : Nat → Int32} (hk : ok s) (hS : Sm M s) {l p : Nat} (hl : l < 5) (hp : p < sv s (16 + 7 * l)) : F_X9_positionOf M (nI l) (nI (sv s (16 + 7 * l + 1 + p))) = some (nI p) := by
  have l6 := (hk.2.2.1 l hl).2.1
  exact pos_2 hk hS hl hp p 64 0 mI (by omega) (by omega)
/-- a stop lies on a line, or not -/
theorem on_line {s : Nat → Int32} (hk : ok s) {l k : Nat} (hl : l < 5) (hkk : k < 2 ^ 31) : (∃ p, p < sv s (16 + 7 * l) ∧ sv s (16 + 7 * l + 1 + p) = k) ∨ (∀ p, p < sv s (16 + 7 * l) → s (16 + 7 * l + 1 + p) ≠ nI k) := by
  by_cases h : ∃ p, p < sv s (16 + 7 * l) ∧ sv s (16 + 7 * l + 1 + p) = k
  · exact Or.inl h
  · refine Or.inr (fun p hp e => h ⟨p, hp, sv_of e hkk⟩)
theorem lset_t {s : Nat → Int32} {l k : Nat} : (lset s l).testBit k = true ↔ ∃ p, p < sv s (16 + 7 * l) ∧ sv s (16 + 7 * l + 1 + p) = k := bs_mem _ _ _
theorem srv_t {M : fw_M} {s : Nat → Int32} (hR : R M 0 s) {l p : Nat} (hl : l < 5) (hp : p < sv s (16 + 7 * l)) (hb : sv s (16 + 7 * l + 1 + p) < 10) : F_X3_serves M 1 (nI l) (nI (sv s (16 + 7 * l + 1 + p))) = some (nI 1) := by
  have r3 := (hR.2.2.1 l hl).2
  rw [Nat.zero_add] at r3
  unfold F_X3_serves
  have hb2 : (lset s l).testBit (sv s (16 + 7 * l + 1 + p)) = true := lset_t.mpr ⟨p, hp, rfl⟩
  simp (disch := omega) only [ix_i, ↓pn_m, pn_l0, pn_l1, pn_l2, pn_l3, pn_l4, pn_l5, pn_l6, pn_l7, pn_l8, pn_l9, pn_l10, pn_l11, pn_l12, pn_l16, pn_l18, pn_l20, pn_l31, pn_l32, pn_l40, pn_l45, pn_l48, pn_l51, pn_l57, pn_l59, pn_l60, pn_l62, pn_l64, pn_l69, pn_l97, pn_l98, pn_l99, pn_l100, pn_l101, pn_l105, pn_l107, pn_l108, pn_l114, pn_l115, pn_l116, pn_l117, pn_l119, pn_l126, pn_l129, pn_l240, pn_l903, pn_l1032, nI_add, pk_mul, pk_sub, nI_clamp, nI_leI, nI_ltI, nI_eq, pm_1, pm_2, pm_3, pm_4, pm_5, pm_6, pm_7, pm_8, pn_lt, pn_nlt, pn_le, pn_nle, pn_ne, pn_eq, not_true_eq_false, not_false_eq_true, true_and, and_true, false_and, and_false, true_or, or_true, false_or, or_false, or_self, and_self, ne_eq, reduceIte, if_true, if_false, Nat.add_zero, Nat.zero_add, Nat.mul_zero, Nat.reduceAdd, Nat.reduceMul, fw_ri, r3, sh_and, hb2]
  rfl
theorem srv_f {M : fw_M} {s : Nat → Int32} (hk : ok s) (hR : R M 0 s) {l k : Nat} (hl : l < 5) (hb : k < 10) (h : ∀ p, p < sv s (16 + 7 * l) → s (16 + 7 * l + 1 + p) ≠ nI k) : F_X3_serves M 1 (nI l) (nI k) = some (nI 0) := by
  have r3 := (hR.2.2.1 l hl).2
  rw [Nat.zero_add] at r3
  unfold F_X3_serves
  have hb2 : (lset s l).testBit k = false := by
    rw [Bool.eq_false_iff]
    intro q
    obtain ⟨p, hp, e⟩ := lset_t.mp q
    have e1 := (hk.2.2.2.1 l p hl hp).1
    rw [e] at e1
    exact h p hp e1
  simp (disch := omega) only [ix_i, ↓pn_m, pn_l0, pn_l1, pn_l2, pn_l3, pn_l4, pn_l5, pn_l6, pn_l7, pn_l8, pn_l9, pn_l10, pn_l11, pn_l12, pn_l16, pn_l18, pn_l20, pn_l31, pn_l32, pn_l40, pn_l45, pn_l48, pn_l51, pn_l57, pn_l59, pn_l60, pn_l62, pn_l64, pn_l69, pn_l97, pn_l98, pn_l99, pn_l100, pn_l101, pn_l105, pn_l107, pn_l108, pn_l114, pn_l115, pn_l116, pn_l117, pn_l119, pn_l126, pn_l129, pn_l240, pn_l903, pn_l1032, nI_add, pk_mul, pk_sub, nI_clamp, nI_leI, nI_ltI, nI_eq, pm_1, pm_2, pm_3, pm_4, pm_5, pm_6, pm_7, pm_8, pn_lt, pn_nlt, pn_le, pn_nle, pn_ne, pn_eq, not_true_eq_false, not_false_eq_true, true_and, and_true, false_and, and_false, true_or, or_true, false_or, or_false, or_self, and_self, ne_eq, reduceIte, if_true, if_false, Nat.add_zero, Nat.zero_add, Nat.mul_zero, Nat.reduceAdd, Nat.reduceMul, fw_ri, r3, sh_and, hb2]
