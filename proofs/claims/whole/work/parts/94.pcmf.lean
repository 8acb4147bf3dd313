/-! ends of lines -/
def ise (s : Nat → Int32) (a : Int32) : Prop := ∃ l, l < sv s 1 ∧ (s (16 + 7 * l + 1 + 0) = a ∨ s (16 + 7 * l + 1 + (sv s (16 + 7 * l) - 1)) = a)
theorem ie_c1 {M : fw_M} {s : Nat → Int32} (hk : ok s) (hR : R M 0 s) {a : Int32} : ∀ (r n l : Nat), l + r = sv s 1 → r < n → ∃ e, F_X3_isEnd_2 M 1 a n (nI l) = some (nI e) ∧ (e = 0 ∨ e = 1) ∧ (e = 1 ↔ ∃ q, l ≤ q ∧ q < sv s 1 ∧ (s (16 + 7 * q + 1 + 0) = a ∨ s (16 + 7 * q + 1 + (sv s (16 + 7 * q) - 1)) = a)) := by
  have b1 := hk.1.2.1
  obtain ⟨⟨-, r1, -⟩, -, rl, rs, -⟩ := R0 hR
  intro r
  induction r with
  | zero =>
    intro n l h1 h2
    obtain ⟨n, rfl⟩ : ∃ x, n = x + 1 := ⟨n - 1, by omega⟩
    rw [F_X3_isEnd_2, r1, b1.1, if_pos (nI_le (by omega) (by omega))]
    exact ⟨0, rfl, Or.inl rfl, fun h => by omega, fun ⟨q, h3, h4, _⟩ => by omega⟩
  | succ r ih =>
    intro n l h1 h2
    obtain ⟨n, rfl⟩ : ∃ x, n = x + 1 := ⟨n - 1, by omega⟩
    obtain ⟨l1, l6, l2, -⟩ := hk.2.2.1 l (by omega)
    have l2 := l2 (by omega)
    have e0 : fw_ri M (1 + 4 + (nI l).toNatClampNeg) 0 = s (16 + 7 * l + 1 + 0) := by
      rw [show (0 : Int32) = nI 0 from rfl, fw_ri, nI_clamp (by omega), nI_clamp (by omega)]
      exact rs l 0 (by omega) (by omega)
    have e1 : fw_ri M (1 + 2) (nI l) - 1 = nI (sv s (16 + 7 * l) - 1) := by
      rw [fw_ri, nI_clamp (by omega), show M (1 + 2) l = nI (sv s (16 + 7 * l)) from (rl l (by omega)).1.trans l1]
      exact pk_sub (a := sv s (16 + 7 * l)) (b := 1) (by omega)
    have e2 : fw_ri M (1 + 4 + (nI l).toNatClampNeg) (nI (sv s (16 + 7 * l) - 1)) = s (16 + 7 * l + 1 + (sv s (16 + 7 * l) - 1)) := by
      rw [fw_ri, nI_clamp (by omega), nI_clamp (by omega)]
      exact rs l _ (by omega) (by omega)
    rw [F_X3_isEnd_2, r1, b1.1, if_neg (nI_ge (by omega) (by omega)), if_pos (nI_in (by omega) (by omega)), if_pos (show ix_i 0 6 by decide), e0, e1, if_pos (nI_in (by omega) (by omega)), e2, nI_1]
    by_cases h3 : s (16 + 7 * l + 1 + 0) = a
    · rw [if_pos h3]
      exact ⟨1, rfl, Or.inr rfl, fun _ => ⟨l, by omega, by omega, Or.inl h3⟩, fun _ => rfl⟩
    · rw [if_neg h3]
      by_cases h4 : s (16 + 7 * l + 1 + (sv s (16 + 7 * l) - 1)) = a
      · rw [if_neg (show ¬ ¬ s (16 + 7 * l + 1 + (sv s (16 + 7 * l) - 1)) = a from fun q => q h4)]
        exact ⟨1, rfl, Or.inr rfl, fun _ => ⟨l, by omega, by omega, Or.inr h4⟩, fun _ => rfl⟩
      · rw [if_pos (show ¬ s (16 + 7 * l + 1 + (sv s (16 + 7 * l) - 1)) = a from h4)]
        obtain ⟨e, q1, q2, q3⟩ := ih n (l + 1) (by omega) (by omega)
        refine ⟨e, q1, q2, q3.trans ⟨fun ⟨q, a1, a2⟩ => ⟨q, by omega, a2⟩, fun ⟨q, a1, a2, a3⟩ => ?_⟩⟩
        by_cases eq : q = l
        · subst eq
          rcases a3 with a3 | a3
          · exact absurd a3 h3
          · exact absurd a3 h4
        · exact ⟨q, by omega, a2, a3⟩
theorem ie_c {M : fw_M} {s : Nat → Int32} (hk : ok s) (hR : R M 0 s) {a : Int32} : ∃ e, F_X3_isEnd M 1 a = some (nI e) ∧ (e = 0 ∨ e = 1) ∧ (e = 1 ↔ ise s a) := by
  have b1 := hk.1.2.1.2
  obtain ⟨e, q1, q2, q3⟩ := ie_c1 hk hR (a := a) (sv s 1) 64 0 (by omega) (by omega)
  exact ⟨e, q1, q2, q3.trans ⟨fun ⟨q, _, a2⟩ => ⟨q, a2⟩, fun ⟨q, a2⟩ => ⟨q, by omega, a2⟩⟩⟩
theorem ie_m1 {M : fw_M} {s : Nat → Int32} (hk : ok s) (hS : ∀ j, j < 51 → M 379 j = s j) {a : Int32} : ∀ (r n l x : Nat), l + r = sv s 1 → r < n → (x = 0 ∨ x = 1) → ∃ e, F_X9_isEnd_4 M a n (nI x) (nI l) = some (nI e) ∧ (e = 0 ∨ e = 1) ∧ (e = 1 ↔ x = 1 ∨ ∃ q, l ≤ q ∧ q < sv s 1 ∧ (s (16 + 7 * q + 1 + 0) = a ∨ s (16 + 7 * q + 1 + (sv s (16 + 7 * q) - 1)) = a)) := by
  have b1 := hk.1.2.1
  have g1 : fw_ri M 379 1 = nI (sv s 1) := (hS 1 (by omega)).trans b1.1
  intro r
  induction r with
  | zero =>
    intro n l x h1 h2 hx
    obtain ⟨n, rfl⟩ : ∃ x, n = x + 1 := ⟨n - 1, by omega⟩
    have hx2 : nI x = 0 ∨ nI x = 1 := hx.imp (fun e => by rw [e]; rfl) (fun e => by rw [e]; rfl)
    rw [F_X9_isEnd_4, if_pos (show ix_i 1 129 by decide), g1, if_pos (nI_le (by omega) (by omega)), if_pos hx2]
    exact ⟨x, rfl, hx, Or.inl, fun h => h.elim id (fun ⟨q, h3, h4, _⟩ => by omega)⟩
  | succ r ih =>
    intro n l x h1 h2 hx
    obtain ⟨n, rfl⟩ : ∃ x, n = x + 1 := ⟨n - 1, by omega⟩
    obtain ⟨l1, l6, l2, -⟩ := hk.2.2.1 l (by omega)
    have l2 := l2 (by omega)
    have e0 : F_X9_stopOf M (nI l) 0 = some (s (16 + 7 * l + 1 + 0)) := by
      unfold F_X9_stopOf
      simp (disch := omega) only [ix_i, ↓pn_m, pn_l0, pn_l1, pn_l2, pn_l3, pn_l4, pn_l5, pn_l6, pn_l7, pn_l8, pn_l9, pn_l10, pn_l11, pn_l12, pn_l16, pn_l18, pn_l20, pn_l31, pn_l32, pn_l40, pn_l45, pn_l48, pn_l51, pn_l57, pn_l59, pn_l60, pn_l62, pn_l64, pn_l69, pn_l97, pn_l98, pn_l99, pn_l100, pn_l101, pn_l105, pn_l107, pn_l108, pn_l114, pn_l115, pn_l116, pn_l117, pn_l119, pn_l126, pn_l129, pn_l240, pn_l903, pn_l1032, nI_add, pk_mul, pk_sub, nI_clamp, nI_leI, nI_ltI, nI_eq, pm_1, pm_2, pm_3, pm_4, pm_5, pm_6, pm_7, pm_8, pn_lt, pn_nlt, pn_le, pn_nle, pn_ne, pn_eq, not_true_eq_false, not_false_eq_true, true_and, and_true, false_and, and_false, true_or, or_true, false_or, or_false, or_self, and_self, ne_eq, reduceIte, if_true, if_false, Nat.add_zero, Nat.zero_add, Nat.mul_zero, Nat.reduceAdd, Nat.reduceMul, fw_ri, hS]
    have el : F_X9_lengthOf M (nI l) = some (nI (sv s (16 + 7 * l))) := by
      unfold F_X9_lengthOf
      simp (disch := omega) only [ix_i, ↓pn_m, pn_l0, pn_l1, pn_l2, pn_l3, pn_l4, pn_l5, pn_l6, pn_l7, pn_l8, pn_l9, pn_l10, pn_l11, pn_l12, pn_l16, pn_l18, pn_l20, pn_l31, pn_l32, pn_l40, pn_l45, pn_l48, pn_l51, pn_l57, pn_l59, pn_l60, pn_l62, pn_l64, pn_l69, pn_l97, pn_l98, pn_l99, pn_l100, pn_l101, pn_l105, pn_l107, pn_l108, pn_l114, pn_l115, pn_l116, pn_l117, pn_l119, pn_l126, pn_l129, pn_l240, pn_l903, pn_l1032, nI_add, pk_mul, pk_sub, nI_clamp, nI_leI, nI_ltI, nI_eq, pm_1, pm_2, pm_3, pm_4, pm_5, pm_6, pm_7, pm_8, pn_lt, pn_nlt, pn_le, pn_nle, pn_ne, pn_eq, not_true_eq_false, not_false_eq_true, true_and, and_true, false_and, and_false, true_or, or_true, false_or, or_false, or_self, and_self, ne_eq, reduceIte, if_true, if_false, Nat.add_zero, Nat.zero_add, Nat.mul_zero, Nat.reduceAdd, Nat.reduceMul, fw_ri, hS]
      rw [← l1]
    have ee : nI (sv s (16 + 7 * l)) - 1 = nI (sv s (16 + 7 * l) - 1) := pk_sub (a := sv s (16 + 7 * l)) (b := 1) (by omega)
    have e1 : F_X9_stopOf M (nI l) (nI (sv s (16 + 7 * l) - 1)) = some (s (16 + 7 * l + 1 + (sv s (16 + 7 * l) - 1))) := by
      unfold F_X9_stopOf
      simp (disch := omega) only [ix_i, ↓pn_m, pn_l0, pn_l1, pn_l2, pn_l3, pn_l4, pn_l5, pn_l6, pn_l7, pn_l8, pn_l9, pn_l10, pn_l11, pn_l12, pn_l16, pn_l18, pn_l20, pn_l31, pn_l32, pn_l40, pn_l45, pn_l48, pn_l51, pn_l57, pn_l59, pn_l60, pn_l62, pn_l64, pn_l69, pn_l97, pn_l98, pn_l99, pn_l100, pn_l101, pn_l105, pn_l107, pn_l108, pn_l114, pn_l115, pn_l116, pn_l117, pn_l119, pn_l126, pn_l129, pn_l240, pn_l903, pn_l1032, nI_add, pk_mul, pk_sub, nI_clamp, nI_leI, nI_ltI, nI_eq, pm_1, pm_2, pm_3, pm_4, pm_5, pm_6, pm_7, pm_8, pn_lt, pn_nlt, pn_le, pn_nle, pn_ne, pn_eq, not_true_eq_false, not_false_eq_true, true_and, and_true, false_and, and_false, true_or, or_true, false_or, or_false, or_self, and_self, ne_eq, reduceIte, if_true, if_false, Nat.add_zero, Nat.zero_add, Nat.mul_zero, Nat.reduceAdd, Nat.reduceMul, fw_ri, hS]
    have key : ∀ y, (y = 0 ∨ y = 1) → (y = 1 ↔ x = 1 ∨ (s (16 + 7 * l + 1 + 0) = a ∨ s (16 + 7 * l + 1 + (sv s (16 + 7 * l) - 1)) = a)) → ∃ e, F_X9_isEnd_4 M a n (nI y) (nI (l + 1)) = some (nI e) ∧ (e = 0 ∨ e = 1) ∧ (e = 1 ↔ x = 1 ∨ ∃ q, l ≤ q ∧ q < sv s 1 ∧ (s (16 + 7 * q + 1 + 0) = a ∨ s (16 + 7 * q + 1 + (sv s (16 + 7 * q) - 1)) = a)) := by
      intro y hy hyx
      obtain ⟨e, q1, q2, q3⟩ := ih n (l + 1) y (by omega) (by omega) hy
      refine ⟨e, q1, q2, q3.trans ⟨fun h => ?_, fun h => ?_⟩⟩
      · rcases h with h | ⟨q, a1, a2⟩
        · rcases hyx.mp h with h | h
          · exact Or.inl h
          · exact Or.inr ⟨l, by omega, by omega, h⟩
        · exact Or.inr ⟨q, by omega, a2⟩
      · rcases h with h | ⟨q, a1, a2, a3⟩
        · exact Or.inl (hyx.mpr (Or.inl h))
        · by_cases eq : q = l
          · subst eq
            exact Or.inl (hyx.mpr (Or.inr a3))
          · exact Or.inr ⟨q, by omega, a2, a3⟩
    rw [F_X9_isEnd_4, if_pos (show ix_i 1 129 by decide), g1, if_neg (nI_ge (by omega) (by omega)), nI_1]
    rcases hx with hx | hx
    · rw [hx, if_neg (show ¬ ¬ nI 0 = 0 from fun q => q rfl), e0, bx_s]
      rw [hx] at key
      by_cases h3 : s (16 + 7 * l + 1 + 0) = a
      · rw [if_pos h3]
        exact key 1 (Or.inr rfl) ⟨fun _ => Or.inr (Or.inl h3), fun _ => rfl⟩
      · rw [if_neg h3, el, bx_s, ee, e1, bx_s]
        by_cases h4 : s (16 + 7 * l + 1 + (sv s (16 + 7 * l) - 1)) = a
        · rw [if_neg (show ¬ ¬ s (16 + 7 * l + 1 + (sv s (16 + 7 * l) - 1)) = a from fun q => q h4)]
          exact key 1 (Or.inr rfl) ⟨fun _ => Or.inr (Or.inr h4), fun _ => rfl⟩
        · rw [if_pos (show ¬ s (16 + 7 * l + 1 + (sv s (16 + 7 * l) - 1)) = a from h4)]
          refine key 0 (Or.inl rfl) ⟨fun h => by omega, fun h => ?_⟩
          rcases h with h | h | h
          · omega
          · exact absurd h h3
          · exact absurd h h4
    · rw [hx, if_pos (show ¬ nI 1 = 0 by decide)]
      rw [hx] at key
      exact key 1 (Or.inr rfl) ⟨fun _ => Or.inl rfl, fun _ => rfl⟩
theorem ie_m {M : fw_M} {s : Nat → Int32} (hk : ok s) (hS : ∀ j, j < 51 → M 379 j = s j) {a : Int32} : ∃ e, F_X9_isEnd M a = some (nI e) ∧ (e = 0 ∨ e = 1) ∧ (e = 1 ↔ ise s a) := by
  have b1 := hk.1.2.1.2
  obtain ⟨e, q1, q2, q3⟩ := ie_m1 hk hS (a := a) (sv s 1) 64 0 0 (by omega) (by omega) (Or.inl rfl)
  refine ⟨e, q1, q2, q3.trans ⟨fun h => ?_, fun ⟨q, a2⟩ => Or.inr ⟨q, by omega, a2⟩⟩⟩
  rcases h with h | ⟨q, _, a2⟩
  · omega
  · exact ⟨q, a2⟩
theorem bool_eq {e e1 : Nat} {P : Prop} (h : e = 0 ∨ e = 1) (h1 : e = 1 ↔ P) (q : e1 = 0 ∨ e1 = 1) (q1 : e1 = 1 ↔ P) : e = e1 := by
  by_cases hp : P
  · rw [h1.mpr hp, q1.mpr hp]
  · rcases h with h | h
    · rcases q with q | q
      · omega
      · exact absurd (q1.mp q) hp
    · exact absurd (h1.mp h) hp
/-! 8: alight -/
def rvl (s : Nat → Int32) (p e : Nat) : Nat → Int32 := fun j => if e = 1 ∧ 117 ≤ j ∧ j < 117 + 2 * sv s 4 ∧ (j - 117) % 2 = 0 ∧ s j = nI p then mI else s j
theorem rv_c {M : fw_M} {p nq : Nat} (hn : nq ≤ 6) : ∀ (r n q : Nat) (M : fw_M), q + r = nq → r < n → M 22 0 = nI nq → ∃ M1, F_X2_revealAllOf_2 22 (nI p) n (nI q) M = some M1 ∧ (∀ c, c ≠ 23 → M1 c = M c) ∧ ∀ i, i < 6 → M1 23 i = if q ≤ i ∧ i < nq ∧ M 23 i = nI p then mI else M 23 i := by
  intro r
  induction r with
  | zero =>
    intro n q M h1 h2 h3
    obtain ⟨n, rfl⟩ : ∃ x, n = x + 1 := ⟨n - 1, by omega⟩
    rw [F_X2_revealAllOf_2, h3, if_pos (nI_le (by omega) (by omega))]
    exact ⟨M, rfl, fun _ _ => rfl, fun i hi => by rw [if_neg (by omega)]⟩
  | succ r ih =>
    intro n q M h1 h2 h3
    obtain ⟨n, rfl⟩ : ∃ x, n = x + 1 := ⟨n - 1, by omega⟩
    have e1 : fw_ri M (22 + 1) (nI q) = M 23 q := by rw [fw_ri, nI_clamp (by omega)]
    rw [F_X2_revealAllOf_2, h3, if_neg (nI_ge (by omega) (by omega)), if_pos (nI_in (by omega) (by omega)), e1, nI_1]
    by_cases h4 : M 23 q = nI p
    · rw [if_neg (show ¬ ¬ M 23 q = nI p from fun x => x h4), lx_s, fw_wi, nI_clamp (by omega)]
      obtain ⟨M1, q1, q2, q3⟩ := ih n (q + 1) (fw_up M (22 + 1) q (-1)) (by omega) (by omega) (by rw [up_n1 (by omega)]; exact h3)
      refine ⟨M1, q1, fun c hc => by rw [q2 c hc, up_n1 (by omega)], fun i hi => ?_⟩
      rw [q3 i hi]
      by_cases ei : i = q
      · subst ei
        rw [up_e rfl rfl, if_neg (by omega), if_pos ⟨by omega, by omega, h4⟩]
        rfl
      · rw [up_n2 ei]
        by_cases h5 : q ≤ i ∧ i < nq ∧ M 23 i = nI p
        · rw [if_pos h5, if_pos ⟨by omega, h5.2⟩]
        · rw [if_neg h5, if_neg (fun x => h5 ⟨by omega, x.2⟩)]
    · rw [if_pos (show ¬ M 23 q = nI p from h4)]
      obtain ⟨M1, q1, q2, q3⟩ := ih n (q + 1) M (by omega) (by omega) h3
      refine ⟨M1, q1, q2, fun i hi => ?_⟩
      rw [q3 i hi]
      by_cases h5 : q ≤ i ∧ i < nq ∧ M 23 i = nI p
      · by_cases ei : i = q
        · rw [ei] at h5
          exact absurd h5.2.2 h4
        · rw [if_pos h5, if_pos ⟨by omega, h5.2⟩]
      · rw [if_neg h5, if_neg (fun x => h5 ⟨by omega, x.2⟩)]
theorem rv_m {x : Int32} {p nq e : Nat} {s : Nat → Int32} (hn : nq ≤ 6) (he : e = 0 ∨ e = 1) (hE : ∀ M : fw_M, (∀ j, j < 51 → M 379 j = s j) → F_X9_isEnd M x = some (nI e)) : ∀ (r n q : Nat) (M : fw_M), q + r = nq → r < n → (∀ j, j < 51 → M 379 j = s j) → s 4 = nI nq → ∃ M1, F_X9_doAlight_78 (nI p) n x (nI q) M = some (x, M1) ∧ (∀ c, c ≠ 379 → M1 c = M c) ∧ ∀ j, j < 129 → M1 379 j = if e = 1 ∧ 117 + 2 * q ≤ j ∧ j < 117 + 2 * nq ∧ (j - 117) % 2 = 0 ∧ M 379 j = nI p then mI else M 379 j := by
  intro r
  induction r with
  | zero =>
    intro n q M h1 h2 h3 h4
    obtain ⟨n, rfl⟩ : ∃ x, n = x + 1 := ⟨n - 1, by omega⟩
    have g4 : fw_ri M 379 4 = nI nq := (h3 4 (by omega)).trans h4
    rw [F_X9_doAlight_78, if_pos (show ix_i 4 129 by decide), g4, if_pos (nI_le (by omega) (by omega))]
    exact ⟨M, rfl, fun _ _ => rfl, fun j hj => by rw [if_neg (by omega)]⟩
  | succ r ih =>
    intro n q M h1 h2 h3 h4
    obtain ⟨n, rfl⟩ : ∃ x, n = x + 1 := ⟨n - 1, by omega⟩
    have g4 : fw_ri M 379 4 = nI nq := (h3 4 (by omega)).trans h4
    have g5 : (117 + (2 * nI q) : Int32) = nI (117 + 2 * q) := by
      rw [show (117 : Int32) = nI 117 from rfl, show (2 : Int32) = nI 2 from rfl, pk_mul, nI_add]
    have g6 : fw_ri M 379 (nI (117 + 2 * q)) = M 379 (117 + 2 * q) := by rw [fw_ri, nI_clamp (by omega)]
    rw [F_X9_doAlight_78, if_pos (show ix_i 4 129 by decide), g4, if_neg (nI_ge (by omega) (by omega)), g5, if_pos (nI_in (by omega) (by omega)), g6, nI_1]
    have key : ∀ y : Int32, (y = if e = 1 ∧ M 379 (117 + 2 * q) = nI p then mI else M 379 (117 + 2 * q)) → ∃ M1, F_X9_doAlight_78 (nI p) n x (nI (q + 1)) (fw_wi M 379 (nI (117 + 2 * q)) y) = some (x, M1) ∧ (∀ c, c ≠ 379 → M1 c = M c) ∧ ∀ j, j < 129 → M1 379 j = if e = 1 ∧ 117 + 2 * q ≤ j ∧ j < 117 + 2 * nq ∧ (j - 117) % 2 = 0 ∧ M 379 j = nI p then mI else M 379 j := by
      intro y hy
      rw [fw_wi, nI_clamp (by omega)]
      obtain ⟨M1, q1, q2, q3⟩ := ih n (q + 1) (fw_up M 379 (117 + 2 * q) y) (by omega) (by omega) (fun j hj => by rw [up_n2 (by omega)]; exact h3 j hj) h4
      refine ⟨M1, q1, fun c hc => by rw [q2 c hc, up_n1 hc], fun j hj => ?_⟩
      rw [q3 j hj]
      by_cases ej : j = 117 + 2 * q
      · subst ej
        rw [up_e rfl rfl, if_neg (by omega), hy]
        by_cases h5 : e = 1 ∧ M 379 (117 + 2 * q) = nI p
        · rw [if_pos h5, if_pos ⟨h5.1, by omega, by omega, by omega, h5.2⟩]
        · rw [if_neg h5, if_neg (fun x => h5 ⟨x.1, x.2.2.2.2⟩)]
      · rw [up_n2 ej]
        by_cases h5 : e = 1 ∧ 117 + 2 * q ≤ j ∧ j < 117 + 2 * nq ∧ (j - 117) % 2 = 0 ∧ M 379 j = nI p
        · rw [if_pos h5, if_pos ⟨h5.1, by omega, h5.2.2⟩]
        · rw [if_neg h5, if_neg (fun x => h5 ⟨x.1, by omega, x.2.2⟩)]
    by_cases h5 : M 379 (117 + 2 * q) = nI p
    · rw [if_neg (show ¬ ¬ M 379 (117 + 2 * q) = nI p from fun x => x h5), hE M h3, bx_s]
      rcases he with he | he
      · rw [he, if_pos (show nI 0 = 0 from rfl), lx_s]
        rw [he] at key
        exact key _ (by rw [if_neg (by omega)])
      · rw [he, if_neg (show ¬ nI 1 = 0 by decide), lx_s]
        rw [he] at key
        exact key _ (by rw [if_pos ⟨rfl, h5⟩]; rfl)
    · rw [if_pos (show ¬ M 379 (117 + 2 * q) = nI p from h5), lx_s]
      exact key _ (by rw [if_neg (fun x => h5 x.2)])
theorem c_alig {s : Nat → Int32} (hk : ok s) (a : Int32) : CmdE [0, 2] s (fun M => F_X7_faultOfAlighting M 0 a) (fun M => F_X7_letAlight M 0 a) (fun M => F_X9_doAlight M a) := by
  have hk0 := hk
  obtain ⟨⟨⟨c0, b0⟩, ⟨c1, b1⟩, ⟨c2, b2⟩, ⟨c3, b3⟩, c4, b4⟩, oz, ol, os, od, ot, op, oq⟩ := hk
  rcases px_o a (n := sv s 3) (by omega) with ⟨p, hp, rfl⟩ | ho
  · have hc : ∀ M, R M 0 s → F_X6_hasPassenger M 15 (nI p) = some (nI 1) := fun M hR => by
      obtain ⟨⟨r0, r1, r2, r3, r4, r5⟩, rz, rl, rs, rt, ru, rp, rq⟩ := R0 hR
      exact ht_Passenger hp (by omega) (r3.trans c3)
    have hm : ∀ M, Sm M s → F_X9_isPassenger M (nI p) = some (nI 1) := fun M hS => it_Passenger hp (by omega) ((hS 3 (by omega)).trans c3)
    obtain ⟨p1, ⟨p2, p2b⟩, ⟨p3, p3b⟩, p4⟩ := op p hp
    rcases p1 with ⟨p1, x1, x2⟩ | ⟨p1, p1b⟩
    · refine CmdE.bad 3 2 (by omega) (by omega) (by decide) (fun M hR => ?_) (fun M hS h6 => ?_)
      · have hc := hc M hR
        obtain ⟨⟨r0, r1, r2, r3, r4, r5⟩, rz, rl, rs, rt, ru, rp, rq⟩ := R0 hR
        simp (disch := omega) only [F_X7_faultOfAlighting, hc, ix_i, ↓pn_m, pn_l0, pn_l1, pn_l2, pn_l3, pn_l4, pn_l5, pn_l6, pn_l7, pn_l8, pn_l9, pn_l10, pn_l11, pn_l12, pn_l16, pn_l18, pn_l20, pn_l31, pn_l32, pn_l40, pn_l45, pn_l48, pn_l51, pn_l57, pn_l59, pn_l60, pn_l62, pn_l64, pn_l69, pn_l97, pn_l98, pn_l99, pn_l100, pn_l101, pn_l105, pn_l107, pn_l108, pn_l114, pn_l115, pn_l116, pn_l117, pn_l119, pn_l126, pn_l129, pn_l240, pn_l903, pn_l1032, nI_add, pk_mul, pk_sub, nI_clamp, nI_leI, nI_ltI, nI_eq, pm_1, pm_2, pm_3, pm_4, pm_5, pm_6, pm_7, pm_8, pn_lt, pn_nlt, pn_le, pn_nle, pn_ne, pn_eq, not_true_eq_false, not_false_eq_true, true_and, and_true, false_and, and_false, true_or, or_true, false_or, or_false, or_self, and_self, ne_eq, reduceIte, if_true, if_false, Nat.add_zero, Nat.zero_add, Nat.mul_zero, Nat.reduceAdd, Nat.reduceMul, fw_wi, fw_ri, up_e, up_n1, up_n2, cp_n, bx_s, bp_s, bt_l, bt_r, lx_s, rp, p1]
      · have hm := hm M hS
        have hS : ∀ j, j < 129 → M 379 j = s j := hS
        simp (disch := omega) only [F_X9_doAlight, F_X9_ofPassenger, F_X9_fails, hm, ix_i, ↓pn_m, pn_l0, pn_l1, pn_l2, pn_l3, pn_l4, pn_l5, pn_l6, pn_l7, pn_l8, pn_l9, pn_l10, pn_l11, pn_l12, pn_l16, pn_l18, pn_l20, pn_l31, pn_l32, pn_l40, pn_l45, pn_l48, pn_l51, pn_l57, pn_l59, pn_l60, pn_l62, pn_l64, pn_l69, pn_l97, pn_l98, pn_l99, pn_l100, pn_l101, pn_l105, pn_l107, pn_l108, pn_l114, pn_l115, pn_l116, pn_l117, pn_l119, pn_l126, pn_l129, pn_l240, pn_l903, pn_l1032, nI_add, pk_mul, pk_sub, nI_clamp, nI_leI, nI_ltI, nI_eq, pm_1, pm_2, pm_3, pm_4, pm_5, pm_6, pm_7, pm_8, pn_lt, pn_nlt, pn_le, pn_nle, pn_ne, pn_eq, not_true_eq_false, not_false_eq_true, true_and, and_true, false_and, and_false, true_or, or_true, false_or, or_false, or_self, and_self, ne_eq, reduceIte, if_true, if_false, Nat.add_zero, Nat.zero_add, Nat.mul_zero, Nat.reduceAdd, Nat.reduceMul, fw_wi, fw_ri, up_e, up_n1, up_n2, cp_n, bx_s, bp_s, bt_l, bt_r, lx_s, hS, p1]
        exact ⟨_, rfl, up_e rfl rfl, md_6 md_0⟩
    · obtain ⟨t, ht⟩ : ∃ t, t = sv s (69 + 6 * p + 1) := ⟨_, rfl⟩
      rw [← ht] at p1 p1b
      obtain ⟨t1, t2, t3, t4, -⟩ := ot t p1b
      obtain ⟨y1, y2⟩ := tst_ok hk0 p1b
      obtain ⟨s0, hs0⟩ : ∃ s0, s0 = upd (upd (upd (upd s (69 + 6 * p) (nI (sv s (tst s t)))) (69 + 6 * p + 1) mI) (69 + 6 * p + 4) (nI (sv s (51 + 3 * t)))) (69 + 6 * p + 5) (s 5) := ⟨_, rfl⟩
      have e0 : ∀ x, ¬ (69 + 6 * p ≤ x ∧ x < 69 + 6 * p + 2) ∧ ¬ (69 + 6 * p + 4 ≤ x ∧ x < 69 + 6 * p + 6) → s0 x = s x := fun x h => by rw [hs0, pk_un (by omega), pk_un (by omega), pk_un (by omega), pk_un (by omega)]
      have d0 : s0 (69 + 6 * p) = nI (sv s (tst s t)) := by rw [hs0, pk_un (by omega), pk_un (by omega), pk_un (by omega), pk_us]
      have d1 : s0 (69 + 6 * p + 1) = mI := by rw [hs0, pk_un (by omega), pk_un (by omega), pk_us]
      have d4 : s0 (69 + 6 * p + 4) = nI (sv s (51 + 3 * t)) := by rw [hs0, pk_un (by omega), pk_us]
      have d5 : s0 (69 + 6 * p + 5) = s 5 := by rw [hs0, pk_us]
      obtain ⟨e, he1, he2⟩ : ∃ e : Nat, (e = 0 ∨ e = 1) ∧ (e = 1 ↔ ise s (nI (sv s (tst s t)))) := by
        by_cases h : ise s (nI (sv s (tst s t)))
        · exact ⟨1, Or.inr rfl, fun _ => h, fun _ => rfl⟩
        · exact ⟨0, Or.inl rfl, fun q => by omega, fun q => absurd q h⟩
      have v40 : sv s0 4 = sv s 4 := sv_cong (e0 4 (by omega))
      obtain ⟨s1, hs1⟩ : ∃ s1, s1 = rvl s0 p e := ⟨_, rfl⟩
      have en : ∀ x, ¬ (69 + 6 * p ≤ x ∧ x < 69 + 6 * p + 2) ∧ ¬ (69 + 6 * p + 4 ≤ x ∧ x < 69 + 6 * p + 6) ∧ ¬ (117 ≤ x ∧ x < 129) → s1 x = s x := fun x h => by rw [hs1, rvl, if_neg (by omega), e0 x (by omega)]
      have en0 : ∀ x, x < 117 → s1 x = s0 x := fun x h => by rw [hs1, rvl, if_neg (by omega)]
      have enq : ∀ q, q < 6 → s1 (117 + 2 * q + 1) = s (117 + 2 * q + 1) ∧ s1 (117 + 2 * q) = if e = 1 ∧ q < sv s 4 ∧ s (117 + 2 * q) = nI p then mI else s (117 + 2 * q) := fun q hq => by
        refine ⟨by rw [hs1, rvl, if_neg (by omega), e0 _ (by omega)], ?_⟩
        rw [hs1, rvl, v40, e0 _ (by omega)]
        by_cases h : e = 1 ∧ q < sv s 4 ∧ s (117 + 2 * q) = nI p
        · rw [if_pos h, if_pos ⟨h.1, by omega, by omega, by omega, h.2.2⟩]
        · rw [if_neg h, if_neg (fun x => h ⟨x.1, by omega, x.2.2.2.2⟩)]
      refine CmdE.good (nI (sv s (tst s t))) s1 ?_ (fun M hR => ?_) (fun M hR => ?_) (fun M hS h6 => ?_)
      · have v0 : sv s1 0 = sv s 0 := sv_cong (en 0 (by omega))
        have v1 : sv s1 1 = sv s 1 := sv_cong (en 1 (by omega))
        have v2 : sv s1 2 = sv s 2 := sv_cong (en 2 (by omega))
        have v3 : sv s1 3 = sv s 3 := sv_cong (en 3 (by omega))
        have v4 : sv s1 4 = sv s 4 := sv_cong (en 4 (by omega))
        refine ⟨?_, ?_, ?_, ?_, ?_, ?_, ?_, ?_⟩
        · exact (show okc s from ⟨⟨c0, b0⟩, ⟨c1, b1⟩, ⟨c2, b2⟩, ⟨c3, b3⟩, c4, b4⟩).c (fun x hx => en _ (by omega))
        · exact oz.c (fun x h1 h2 => en _ (by omega))
        · exact ol.c (en _ (by omega)) (fun l hl => en _ (by omega))
        · exact os.c ol (by omega) (fun x h1 h2 => en _ (by omega))
        · exact od.c ol (fun x h1 h2 => en _ (by omega))
        · exact ot.c b1 b2 (en _ (by omega)) (by omega) (fun l hl => by rw [sv_cong (en (16 + 7 * l) (by omega))]; exact Nat.le_refl _) (fun x h1 h2 => en _ (by omega))
        · intro q hq
          rw [v3] at hq
          by_cases eq : q = p
          · subst eq
            rw [en0 (69 + 6 * q) (by omega), en0 (69 + 6 * q + 1) (by omega), en0 (69 + 6 * q + 4) (by omega), d0, d1, d4, sv_of ((en0 (69 + 6 * q) (by omega)).trans d0) (by omega), sv_of ((en0 (69 + 6 * q + 4) (by omega)).trans d4) (by omega), sv_cong (en (69 + 6 * q + 2) (by omega)), sv_cong (en (69 + 6 * q + 3) (by omega)), en (69 + 6 * q + 2) (by omega), en (69 + 6 * q + 3) (by omega), v0]
            exact ⟨Or.inl ⟨rfl, rfl, y2⟩, ⟨p2, p2b⟩, ⟨p3, p3b⟩, Or.inr ⟨rfl, by omega⟩⟩
          · have h1 := op q hq
            rw [sv_cong (en (69 + 6 * q) (by omega)), sv_cong (en (69 + 6 * q + 1) (by omega)), sv_cong (en (69 + 6 * q + 2) (by omega)), sv_cong (en (69 + 6 * q + 3) (by omega)), sv_cong (en (69 + 6 * q + 4) (by omega)), en (69 + 6 * q) (by omega), en (69 + 6 * q + 1) (by omega), en (69 + 6 * q + 2) (by omega), en (69 + 6 * q + 3) (by omega), en (69 + 6 * q + 4) (by omega), v0, v2]
            exact h1
        · intro q hq
          rw [v4] at hq
          obtain ⟨a1, a2⟩ := enq q (by omega)
          obtain ⟨h1, h2⟩ := oq q hq
          rw [sv_cong a1, a1, v3]
          refine ⟨h1, ?_⟩
          by_cases h3 : e = 1 ∧ q < sv s 4 ∧ s (117 + 2 * q) = nI p
          · rw [if_pos h3] at a2
            exact Or.inl a2
          · rw [if_neg h3] at a2
            rw [sv_cong a2, a2]
            exact h2
      · have hc := hc M hR
        obtain ⟨⟨r0, r1, r2, r3, r4, r5⟩, rz, rl, rs, rt, ru, rp, rq⟩ := R0 hR
        simp (disch := omega) only [F_X7_faultOfAlighting, hc, ix_i, ↓pn_m, pn_l0, pn_l1, pn_l2, pn_l3, pn_l4, pn_l5, pn_l6, pn_l7, pn_l8, pn_l9, pn_l10, pn_l11, pn_l12, pn_l16, pn_l18, pn_l20, pn_l31, pn_l32, pn_l40, pn_l45, pn_l48, pn_l51, pn_l57, pn_l59, pn_l60, pn_l62, pn_l64, pn_l69, pn_l97, pn_l98, pn_l99, pn_l100, pn_l101, pn_l105, pn_l107, pn_l108, pn_l114, pn_l115, pn_l116, pn_l117, pn_l119, pn_l126, pn_l129, pn_l240, pn_l903, pn_l1032, nI_add, pk_mul, pk_sub, nI_clamp, nI_leI, nI_ltI, nI_eq, pm_1, pm_2, pm_3, pm_4, pm_5, pm_6, pm_7, pm_8, pn_lt, pn_nlt, pn_le, pn_nle, pn_ne, pn_eq, not_true_eq_false, not_false_eq_true, true_and, and_true, false_and, and_false, true_or, or_true, false_or, or_false, or_self, and_self, ne_eq, reduceIte, if_true, if_false, Nat.add_zero, Nat.zero_add, Nat.mul_zero, Nat.reduceAdd, Nat.reduceMul, fw_wi, fw_ri, up_e, up_n1, up_n2, cp_n, bx_s, bp_s, bt_l, bt_r, lx_s, rp, p1]
      · have hR0 := hR
        have w1 := su_c hk0 hR p1b
        obtain ⟨⟨r0, r1, r2, r3, r4, r5⟩, rz, rl, rs, rt, ru, rp, rq⟩ := R0 hR
        obtain ⟨Q0, Q1, Q2, Q3, Q4, Q5, Q6, Q7⟩ := hR
        have hie : ∀ M1 : fw_M, (∀ k, k < 11 → M1 k = M k) → F_X3_isEnd M1 1 (nI (sv s (tst s t))) = some (nI e) := by
          intro M1 h
          have hs2 : ∀ (n : Nat) (x : Int32), F_X3_isEnd_2 M1 1 (nI (sv s (tst s t))) n x = F_X3_isEnd_2 M 1 (nI (sv s (tst s t))) n x := by
            intro n
            induction n with
            | zero => intro x; rfl
            | succ n ih =>
              intro x
              rw [F_X3_isEnd_2, F_X3_isEnd_2, ih, h 1 (by omega)]
              by_cases hx : ix_i x 5
              · have e1 : ∀ y, fw_ri M1 (1 + 4 + x.toNatClampNeg) y = fw_ri M (1 + 4 + x.toNatClampNeg) y := fun y => by
                  unfold fw_ri
                  rw [h _ (by omega)]
                have e2 : fw_ri M1 (1 + 2) x = fw_ri M (1 + 2) x := by
                  unfold fw_ri
                  rw [h _ (by omega)]
                rw [e1, e2, e1]
              · rw [if_neg hx, if_neg hx]
          obtain ⟨e1, q1, q2, q3⟩ := ie_c hk0 hR0 (a := nI (sv s (tst s t)))
          rw [bool_eq he1 he2 q2 q3]
          unfold F_X3_isEnd at q1 ⊢
          rw [hs2]
          exact q1
        have t1' := t1
        have g17 : fw_ri M (0 + 15 + 2) (nI p) = nI t := by
          rw [fw_ri, nI_clamp (by omega)]
          exact (rp p (by omega)).2.1.trans p1
        unfold F_X7_letAlight
        rw [if_pos (nI_in (by omega) (by omega)), g17, w1, bx_s]
        simp (disch := omega) only [ix_i, ↓pn_m, pn_l0, pn_l1, pn_l2, pn_l3, pn_l4, pn_l5, pn_l6, pn_l7, pn_l8, pn_l9, pn_l10, pn_l11, pn_l12, pn_l16, pn_l18, pn_l20, pn_l31, pn_l32, pn_l40, pn_l45, pn_l48, pn_l51, pn_l57, pn_l59, pn_l60, pn_l62, pn_l64, pn_l69, pn_l97, pn_l98, pn_l99, pn_l100, pn_l101, pn_l105, pn_l107, pn_l108, pn_l114, pn_l115, pn_l116, pn_l117, pn_l119, pn_l126, pn_l129, pn_l240, pn_l903, pn_l1032, nI_add, pk_mul, pk_sub, nI_clamp, nI_leI, nI_ltI, nI_eq, pm_1, pm_2, pm_3, pm_4, pm_5, pm_6, pm_7, pm_8, pn_lt, pn_nlt, pn_le, pn_nle, pn_ne, pn_eq, not_true_eq_false, not_false_eq_true, true_and, and_true, false_and, and_false, true_or, or_true, false_or, or_false, or_self, and_self, ne_eq, reduceIte, if_true, if_false, Nat.add_zero, Nat.zero_add, Nat.mul_zero, Nat.reduceAdd, Nat.reduceMul, lx_s, fw_wi, fw_ri, up_e, up_n1, up_n2, cp_n, rt, t1, r5]
        obtain ⟨M9, hM9⟩ : ∃ M9, M9 = fw_up (fw_up (fw_up (fw_up M 17 p mI) 16 p (nI (sv s (tst s t)))) 20 p (nI (sv s (51 + 3 * t)))) 21 p (s 5) := ⟨_, rfl⟩
        rw [← hM9]
        have f9 : ∀ c, c ≠ 16 → c ≠ 17 → c ≠ 20 → c ≠ 21 → M9 c = M c := fun c h1 h2 h3 h4 => by rw [hM9, up_n1 h4, up_n1 h3, up_n1 h1, up_n1 h2]
        rw [hie M9 (fun k hk => f9 k (by omega) (by omega) (by omega) (by omega)), bx_s]
        have fin : ∀ M1 : fw_M, (∀ c, c ≠ 23 → M1 c = M9 c) → (∀ i, i < 6 → M1 23 i = if e = 1 ∧ i < sv s 4 ∧ M9 23 i = nI p then mI else M9 23 i) → R M1 0 s1 ∧ ∀ k, 32 ≤ k → M1 k = M k := by
          intro M1 h1 h2
          have f1 : ∀ c, c ≠ 16 → c ≠ 17 → c ≠ 20 → c ≠ 21 → c ≠ 23 → M1 c = M c := fun c a1 a2 a3 a4 a5 => (h1 c a5).trans (f9 c a1 a2 a3 a4)
          refine ⟨⟨?_, ?_, ?_, ?_, ?_, ?_, ?_, ?_⟩, fun k hk => f1 k (by omega) (by omega) (by omega) (by omega) (by omega)⟩
          · exact Q0.c ⟨by rw [f1 1 (by omega) (by omega) (by omega) (by omega) (by omega)], by rw [f1 1 (by omega) (by omega) (by omega) (by omega) (by omega)], by rw [f1 11 (by omega) (by omega) (by omega) (by omega) (by omega)], by rw [f1 15 (by omega) (by omega) (by omega) (by omega) (by omega)], by rw [f1 22 (by omega) (by omega) (by omega) (by omega) (by omega)], by rw [f1 0 (by omega) (by omega) (by omega) (by omega) (by omega)]⟩ (fun j hj => en _ (by omega))
          · exact Q1.c (f1 _ (by omega) (by omega) (by omega) (by omega) (by omega)) (fun x h1 h2 => en _ (by omega))
          · exact Q2.c ol (f1 _ (by omega) (by omega) (by omega) (by omega) (by omega)) (f1 _ (by omega) (by omega) (by omega) (by omega) (by omega)) (fun x h1 h2 => en _ (by omega))
          · exact Q3.c (fun l hl => f1 _ (by omega) (by omega) (by omega) (by omega) (by omega)) (fun x h1 h2 => en _ (by omega))
          · exact Q4.c (f1 _ (by omega) (by omega) (by omega) (by omega) (by omega)) (f1 _ (by omega) (by omega) (by omega) (by omega) (by omega)) (fun x h1 h2 => en _ (by omega))
          · exact Q5.c b2 (f1 _ (by omega) (by omega) (by omega) (by omega) (by omega)) (en _ (by omega)) (fun x h1 h2 => en _ (by omega))
          · intro q hq
            simp only [Nat.zero_add]
            rw [h1 16 (by omega), h1 17 (by omega), h1 18 (by omega), h1 19 (by omega), h1 20 (by omega), h1 21 (by omega), hM9]
            by_cases eq : q = p
            · subst eq
              rw [en0 (69 + 6 * q) (by omega), en0 (69 + 6 * q + 1) (by omega), en0 (69 + 6 * q + 4) (by omega), en0 (69 + 6 * q + 5) (by omega), d0, d1, d4, d5, en (69 + 6 * q + 2) (by omega), en (69 + 6 * q + 3) (by omega)]
              simp (disch := omega) only [fw_wi, fw_ri, up_e, up_n1, up_n2, cp_n, rp, and_self]
            · rw [en (69 + 6 * q) (by omega), en (69 + 6 * q + 1) (by omega), en (69 + 6 * q + 2) (by omega), en (69 + 6 * q + 3) (by omega), en (69 + 6 * q + 4) (by omega), en (69 + 6 * q + 5) (by omega)]
              simp (disch := omega) only [fw_wi, fw_ri, up_e, up_n1, up_n2, cp_n]
              exact rp q hq
          · intro q hq
            obtain ⟨a1, a2⟩ := enq q hq
            obtain ⟨z1, z2⟩ := rq q hq
            simp only [Nat.zero_add]
            rw [h2 q hq, f1 24 (by omega) (by omega) (by omega) (by omega) (by omega), f9 23 (by omega) (by omega) (by omega) (by omega), a1, a2, z1, z2]
            exact ⟨rfl, rfl⟩
        rcases he1 with he | he
        · rw [he] at fin ⊢
          rw [if_pos rfl]
          obtain ⟨a1, a2⟩ := fin M9 (fun _ _ => rfl) (fun i hi => by rw [if_neg (by omega)])
          exact ⟨M9, rfl, a1, a2⟩
        · rw [he] at fin ⊢
          obtain ⟨M1, q1, q2, q3⟩ := rv_c (M := M9) (p := p) b4 (sv s 4) 64 0 M9 (by omega) (by omega) (by rw [f9 22 (by omega) (by omega) (by omega) (by omega), r4, c4])
          have q1' : F_X2_revealAllOf M9 (0 + 22) (nI p) = some M1 := q1
          rw [if_neg (show ¬ nI 1 = nI 0 by decide)]
          simp only [Nat.zero_add] at q1' ⊢
          rw [q1', bx_s]
          obtain ⟨a1, a2⟩ := fin M1 q2 (fun i hi => by
            rw [q3 i hi]
            by_cases h : 0 ≤ i ∧ i < sv s 4 ∧ M9 23 i = nI p
            · rw [if_pos h, if_pos ⟨rfl, h.2⟩]
            · rw [if_neg h, if_neg (fun x => h ⟨by omega, x.2⟩)])
          exact ⟨M1, rfl, a1, a2⟩
      · have hm := hm M hS
        have w1 := su_m hk0 hS p1b
        have hS0 := hS
        have hS : ∀ j, j < 129 → M 379 j = s j := hS
        have hie : ∀ M1 : fw_M, (∀ j, j < 51 → M1 379 j = s j) → F_X9_isEnd M1 (nI (sv s (tst s t))) = some (nI e) := fun M1 h => by
          obtain ⟨e1, q1, q2, q3⟩ := ie_m hk0 h (a := nI (sv s (tst s t)))
          rw [bool_eq he1 he2 q2 q3]
          exact q1
        simp (disch := omega) only [F_X9_doAlight, F_X9_ofPassenger, F_X9_ofTram, F_X9_sets, F_X9_fails, hm, w1, ix_i, ↓pn_m, pn_l0, pn_l1, pn_l2, pn_l3, pn_l4, pn_l5, pn_l6, pn_l7, pn_l8, pn_l9, pn_l10, pn_l11, pn_l12, pn_l16, pn_l18, pn_l20, pn_l31, pn_l32, pn_l40, pn_l45, pn_l48, pn_l51, pn_l57, pn_l59, pn_l60, pn_l62, pn_l64, pn_l69, pn_l97, pn_l98, pn_l99, pn_l100, pn_l101, pn_l105, pn_l107, pn_l108, pn_l114, pn_l115, pn_l116, pn_l117, pn_l119, pn_l126, pn_l129, pn_l240, pn_l903, pn_l1032, nI_add, pk_mul, pk_sub, nI_clamp, nI_leI, nI_ltI, nI_eq, pm_1, pm_2, pm_3, pm_4, pm_5, pm_6, pm_7, pm_8, pn_lt, pn_nlt, pn_le, pn_nle, pn_ne, pn_eq, not_true_eq_false, not_false_eq_true, true_and, and_true, false_and, and_false, true_or, or_true, false_or, or_false, or_self, and_self, ne_eq, reduceIte, if_true, if_false, Nat.add_zero, Nat.zero_add, Nat.mul_zero, Nat.reduceAdd, Nat.reduceMul, fw_wi, fw_ri, up_e, up_n1, up_n2, cp_n, bx_s, bp_s, bt_l, bt_r, lx_s, hS, p1, t1]
        obtain ⟨M9, hM9⟩ : ∃ M9, M9 = fw_up (fw_up (fw_up (fw_up M 379 (69 + 6 * p) (nI (sv s (tst s t)))) 379 (69 + 6 * p + 1) mI) 379 (69 + 6 * p + 4) (nI (sv s (51 + 3 * t)))) 379 (69 + 6 * p + 5) (s 5) := ⟨_, rfl⟩
        have hS9 : Sm M9 s0 := by
          rw [hM9, hs0]
          exact Sm_u (Sm_u (Sm_u (Sm_u hS0)))
        have hd9 : md M M9 := by
          rw [hM9]
          exact md_9 (md_9 (md_9 (md_9 md_0)))
        have h69 : M9 378 6 = nI 0 := by rw [hM9, up_n1 (by omega), up_n1 (by omega), up_n1 (by omega), up_n1 (by omega), h6]
        rw [← hM9]
        obtain ⟨M1, q1, q2, q3⟩ := rv_m (x := nI (sv s (tst s t))) (p := p) (s := s) b4 he1 hie (sv s 4) 64 0 M9 (by omega) (by omega) (fun j hj => by rw [hS9 j (by omega), e0 j (by omega)]) c4
        have q1' : F_X9_doAlight_78 (nI p) 64 (nI (sv s (tst s t))) (nI 0) M9 = some (nI (sv s (tst s t)), M1) := q1
        rw [q1']
        refine ⟨M1, rfl, fun j hj => ?_, by rw [q2 378 (by omega), h69], md_t hd9 ⟨fun c h1 h2 => q2 c h1, fun j hj => by rw [q2 378 (by omega)]⟩⟩
        rw [q3 j hj, hs1, rvl, v40, hS9 j hj]
  · refine CmdE.bad 1 1 (by omega) (by omega) (by decide) (fun M hR => ?_) (fun M hS h6 => ?_)
    · obtain ⟨⟨r0, r1, r2, r3, r4, r5⟩, rz, rl, rs, rt, ru, rp, rq⟩ := R0 hR
      have e1 : F_X6_hasPassenger M 15 a = some (nI 0) := hs_Passenger ho (r3.trans c3)
      simp (disch := omega) only [F_X7_faultOfAlighting, e1, ix_i, ↓pn_m, pn_l0, pn_l1, pn_l2, pn_l3, pn_l4, pn_l5, pn_l6, pn_l7, pn_l8, pn_l9, pn_l10, pn_l11, pn_l12, pn_l16, pn_l18, pn_l20, pn_l31, pn_l32, pn_l40, pn_l45, pn_l48, pn_l51, pn_l57, pn_l59, pn_l60, pn_l62, pn_l64, pn_l69, pn_l97, pn_l98, pn_l99, pn_l100, pn_l101, pn_l105, pn_l107, pn_l108, pn_l114, pn_l115, pn_l116, pn_l117, pn_l119, pn_l126, pn_l129, pn_l240, pn_l903, pn_l1032, nI_add, pk_mul, pk_sub, nI_clamp, nI_leI, nI_ltI, nI_eq, pm_1, pm_2, pm_3, pm_4, pm_5, pm_6, pm_7, pm_8, pn_lt, pn_nlt, pn_le, pn_nle, pn_ne, pn_eq, not_true_eq_false, not_false_eq_true, true_and, and_true, false_and, and_false, true_or, or_true, false_or, or_false, or_self, and_self, ne_eq, reduceIte, if_true, if_false, Nat.add_zero, Nat.zero_add, Nat.mul_zero, Nat.reduceAdd, Nat.reduceMul, fw_wi, fw_ri, up_e, up_n1, up_n2, cp_n, bx_s, bp_s, bt_l, bt_r, lx_s]
    · have e1 : F_X9_isPassenger M a = some (nI 0) := is_Passenger ho (by omega) ((hS 3 (by omega)).trans c3)
      simp (disch := omega) only [F_X9_doAlight, e1, F_X9_fails, ix_i, ↓pn_m, pn_l0, pn_l1, pn_l2, pn_l3, pn_l4, pn_l5, pn_l6, pn_l7, pn_l8, pn_l9, pn_l10, pn_l11, pn_l12, pn_l16, pn_l18, pn_l20, pn_l31, pn_l32, pn_l40, pn_l45, pn_l48, pn_l51, pn_l57, pn_l59, pn_l60, pn_l62, pn_l64, pn_l69, pn_l97, pn_l98, pn_l99, pn_l100, pn_l101, pn_l105, pn_l107, pn_l108, pn_l114, pn_l115, pn_l116, pn_l117, pn_l119, pn_l126, pn_l129, pn_l240, pn_l903, pn_l1032, nI_add, pk_mul, pk_sub, nI_clamp, nI_leI, nI_ltI, nI_eq, pm_1, pm_2, pm_3, pm_4, pm_5, pm_6, pm_7, pm_8, pn_lt, pn_nlt, pn_le, pn_nle, pn_ne, pn_eq, not_true_eq_false, not_false_eq_true, true_and, and_true, false_and, and_false, true_or, or_true, false_or, or_false, or_self, and_self, ne_eq, reduceIte, if_true, if_false, Nat.add_zero, Nat.zero_add, Nat.mul_zero, Nat.reduceAdd, Nat.reduceMul, fw_wi, fw_ri, up_e, up_n1, up_n2, cp_n, bx_s, bp_s, bt_l, bt_r, lx_s]
      exact ⟨_, rfl, up_e rfl rfl, md_6 md_0⟩
