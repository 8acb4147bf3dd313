/-! what boarding rests on -/
def tst (s : Nat → Int32) (t : Nat) : Nat := 16 + 7 * sv s (51 + 3 * t) + 1 + sv s (51 + 3 * t + 1)
theorem tst_ok {s : Nat → Int32} (hk : ok s) {t : Nat} (ht : t < sv s 2) : s (tst s t) = nI (sv s (tst s t)) ∧ sv s (tst s t) < sv s 0 := by
  have h := hk.2.2.2.2.2.1 t ht
  have b1 := hk.1.2.1.2
  exact hk.2.2.2.1 _ _ (by omega) h.2.2.2.1
theorem su_c {M : fw_M} {s : Nat → Int32} (hk : ok s) (hR : R M 0 s) {t : Nat} (ht : t < sv s 2) : F_X7_stopUnder M 0 (nI t) = some (nI (sv s (tst s t))) := by
  have h := hk.2.2.2.2.2.1 t ht
  have b1 := hk.1.2.1.2
  have b2 := hk.1.2.2.1.2
  have l6 := (hk.2.2.1 _ (show sv s (51 + 3 * t) < 5 by omega)).2.1
  obtain ⟨h1, h2, h3, h4, -⟩ := h
  obtain ⟨-, -, -, rs, rt, -⟩ := R0 hR
  have e := (tst_ok hk ht).1
  unfold tst at e ⊢
  simp (disch := omega) only [F_X7_stopUnder, ix_i, ↓pn_m, pn_l0, pn_l1, pn_l2, pn_l3, pn_l4, pn_l5, pn_l6, pn_l7, pn_l8, pn_l9, pn_l10, pn_l11, pn_l12, pn_l16, pn_l18, pn_l20, pn_l31, pn_l32, pn_l40, pn_l45, pn_l48, pn_l51, pn_l57, pn_l59, pn_l60, pn_l62, pn_l64, pn_l69, pn_l97, pn_l98, pn_l99, pn_l100, pn_l101, pn_l105, pn_l107, pn_l108, pn_l114, pn_l115, pn_l116, pn_l117, pn_l119, pn_l126, pn_l129, pn_l240, pn_l903, pn_l1032, nI_add, pk_mul, pk_sub, nI_clamp, nI_leI, nI_ltI, nI_eq, pm_1, pm_2, pm_3, pm_4, pm_5, pm_6, pm_7, pm_8, pn_lt, pn_nlt, pn_le, pn_nle, pn_ne, pn_eq, not_true_eq_false, not_false_eq_true, true_and, and_true, false_and, and_false, true_or, or_true, false_or, or_false, or_self, and_self, ne_eq, reduceIte, if_true, if_false, Nat.add_zero, Nat.zero_add, Nat.mul_zero, Nat.reduceAdd, Nat.reduceMul, fw_wi, fw_ri, up_e, up_n1, up_n2, cp_n, bx_s, bp_s, bt_l, bt_r, lx_s, rt, rs, h1, h3]
  rw [← e]
theorem su_m {M : fw_M} {s : Nat → Int32} (hk : ok s) (hS : Sm M s) {t : Nat} (ht : t < sv s 2) : F_X9_tramStop M (nI t) = some (nI (sv s (tst s t))) := by
  have h := hk.2.2.2.2.2.1 t ht
  have b1 := hk.1.2.1.2
  have b2 := hk.1.2.2.1.2
  have l6 := (hk.2.2.1 _ (show sv s (51 + 3 * t) < 5 by omega)).2.1
  obtain ⟨h1, h2, h3, h4, -⟩ := h
  have e := (tst_ok hk ht).1
  have hS : ∀ j, j < 129 → M 379 j = s j := hS
  unfold tst at e ⊢
  simp (disch := omega) only [F_X9_tramStop, F_X9_ofTram, F_X9_stopOf, ix_i, ↓pn_m, pn_l0, pn_l1, pn_l2, pn_l3, pn_l4, pn_l5, pn_l6, pn_l7, pn_l8, pn_l9, pn_l10, pn_l11, pn_l12, pn_l16, pn_l18, pn_l20, pn_l31, pn_l32, pn_l40, pn_l45, pn_l48, pn_l51, pn_l57, pn_l59, pn_l60, pn_l62, pn_l64, pn_l69, pn_l97, pn_l98, pn_l99, pn_l100, pn_l101, pn_l105, pn_l107, pn_l108, pn_l114, pn_l115, pn_l116, pn_l117, pn_l119, pn_l126, pn_l129, pn_l240, pn_l903, pn_l1032, nI_add, pk_mul, pk_sub, nI_clamp, nI_leI, nI_ltI, nI_eq, pm_1, pm_2, pm_3, pm_4, pm_5, pm_6, pm_7, pm_8, pn_lt, pn_nlt, pn_le, pn_nle, pn_ne, pn_eq, not_true_eq_false, not_false_eq_true, true_and, and_true, false_and, and_false, true_or, or_true, false_or, or_false, or_self, and_self, ne_eq, reduceIte, if_true, if_false, Nat.add_zero, Nat.zero_add, Nat.mul_zero, Nat.reduceAdd, Nat.reduceMul, fw_wi, fw_ri, up_e, up_n1, up_n2, cp_n, bx_s, bp_s, bt_l, bt_r, lx_s, hS, h1, h3]
  rw [← e]
def tf (s : Nat → Int32) (p : Nat) (a : Int32) : Nat := if s (69 + 6 * p + 1) ≠ mI then 0 else if s (69 + 6 * p + 4) = mI then 0 else if s (69 + 6 * p + 4) = a then 0 else if nI 1 < s 5 - s (69 + 6 * p + 5) then 0 else 1
theorem tf_01 (s : Nat → Int32) (p : Nat) (a : Int32) : tf s p a = 0 ∨ tf s p a = 1 := by
  unfold tf
  split
  · exact Or.inl rfl
  · split
    · exact Or.inl rfl
    · split
      · exact Or.inl rfl
      · split
        · exact Or.inl rfl
        · exact Or.inr rfl
theorem tf_c {M : fw_M} {s : Nat → Int32} (hk : ok s) (hR : R M 0 s) {p : Nat} (hp : p < sv s 3) (a : Int32) : F_X7_wouldTransfer M 0 (nI p) a = some (nI (tf s p a)) := by
  have b3 := hk.1.2.2.2.1.2
  obtain ⟨⟨-, -, -, -, -, r5⟩, -, -, -, -, -, rp, -⟩ := R0 hR
  obtain ⟨q1, q2, -, -, q5, q6⟩ := rp p (by omega)
  have g1 : fw_ri M (0 + 15 + 2) (nI p) = s (69 + 6 * p + 1) := by rw [fw_ri, nI_clamp (by omega)]; exact q2
  have g5 : fw_ri M (0 + 15 + 5) (nI p) = s (69 + 6 * p + 4) := by rw [fw_ri, nI_clamp (by omega)]; exact q5
  have g6 : fw_ri M (0 + 15 + 6) (nI p) = s (69 + 6 * p + 5) := by rw [fw_ri, nI_clamp (by omega)]; exact q6
  unfold F_X7_wouldTransfer tf
  rw [if_pos (nI_in (by omega) (by omega)), g1, g5, g6, r5, show (-1 : Int32) = mI from rfl]
  by_cases h1 : s (69 + 6 * p + 1) = mI
  · rw [if_neg (show ¬ ¬ s (69 + 6 * p + 1) = mI from fun q => q h1), if_neg (show ¬ (s (69 + 6 * p + 1) ≠ mI) from fun q => q h1)]
    by_cases h2 : s (69 + 6 * p + 4) = mI
    · rw [if_neg (show ¬ ¬ s (69 + 6 * p + 4) = mI from fun q => q h2), if_pos (show s (69 + 6 * p + 4) = mI from h2)]; rfl
    · rw [if_pos h2, if_neg h2]
      by_cases h3 : s (69 + 6 * p + 4) = a
      · rw [if_pos h3, if_pos h3]; rfl
      · rw [if_neg h3, if_neg h3]
        by_cases h4 : nI 1 < s 5 - s (69 + 6 * p + 5)
        · rw [if_pos h4, if_pos (show (1 : Int32) < s 5 - s (69 + 6 * p + 5) from h4)]; rfl
        · rw [if_neg h4, if_neg (show ¬ (1 : Int32) < s 5 - s (69 + 6 * p + 5) from h4)]; rfl
  · rw [if_pos (show ¬ s (69 + 6 * p + 1) = mI from h1), if_pos (show s (69 + 6 * p + 1) ≠ mI from h1)]; rfl
theorem tf_m {M : fw_M} {s : Nat → Int32} (hk : ok s) (hS : Sm M s) {p : Nat} (hp : p < sv s 3) (a : Int32) : F_X9_isFree M (nI p) a = some (nI (tf s p a)) := by
  have b3 := hk.1.2.2.2.1.2
  have b2 := hk.1.2.2.1.2
  obtain ⟨p1, -, -, p4⟩ := hk.2.2.2.2.2.2.1 p hp
  have hS : ∀ j, j < 129 → M 379 j = s j := hS
  have g : ∀ c, c < 6 → F_X9_ofPassenger M (nI p) (nI c) = some (s (69 + 6 * p + c)) := fun c hc => by
    unfold F_X9_ofPassenger
    simp (disch := omega) only [ix_i, ↓pn_m, pn_l0, pn_l1, pn_l2, pn_l3, pn_l4, pn_l5, pn_l6, pn_l7, pn_l8, pn_l9, pn_l10, pn_l11, pn_l12, pn_l16, pn_l18, pn_l20, pn_l31, pn_l32, pn_l40, pn_l45, pn_l48, pn_l51, pn_l57, pn_l59, pn_l60, pn_l62, pn_l64, pn_l69, pn_l97, pn_l98, pn_l99, pn_l100, pn_l101, pn_l105, pn_l107, pn_l108, pn_l114, pn_l115, pn_l116, pn_l117, pn_l119, pn_l126, pn_l129, pn_l240, pn_l903, pn_l1032, nI_add, pk_mul, pk_sub, nI_clamp, nI_leI, nI_ltI, nI_eq, pm_1, pm_2, pm_3, pm_4, pm_5, pm_6, pm_7, pm_8, pn_lt, pn_nlt, pn_le, pn_nle, pn_ne, pn_eq, not_true_eq_false, not_false_eq_true, true_and, and_true, false_and, and_false, true_or, or_true, false_or, or_false, or_self, and_self, ne_eq, reduceIte, if_true, if_false, Nat.add_zero, Nat.zero_add, Nat.mul_zero, Nat.reduceAdd, Nat.reduceMul, fw_wi, fw_ri, up_e, up_n1, up_n2, cp_n, bx_s, bp_s, bt_l, bt_r, lx_s, hS]
  have g5 : fw_ri M 379 5 = s 5 := hS 5 (by omega)
  unfold F_X9_isFree tf
  rw [show (4 : Int32) = nI 4 from rfl, show (1 : Int32) = nI 1 from rfl, g 4 (by omega), bx_s, g 1 (by omega), bx_s]
  by_cases h1 : s (69 + 6 * p + 1) = mI
  · rw [if_neg (show ¬ (s (69 + 6 * p + 1) ≠ mI) from fun q => q h1), if_neg (show ¬ (0 : Int32) ≤ s (69 + 6 * p + 1) by rw [h1]; decide)]
    rcases p4 with p4 | ⟨p4, p5⟩
    · rw [p4, if_pos (show mI < 0 by decide), if_pos rfl]; rfl
    · have h2 : ¬ s (69 + 6 * p + 4) = mI := fun q => by rw [p4, pm_1 (by omega)] at q; exact q
      rw [if_neg (show ¬ s (69 + 6 * p + 4) < 0 by rw [p4]; exact nI_pos (by omega)), if_neg h2]
      by_cases h3 : s (69 + 6 * p + 4) = a
      · rw [if_pos h3, if_pos h3]; rfl
      · rw [if_neg h3, if_neg h3, if_pos (show ix_i 5 129 by decide), show (5 : Int32) = nI 5 from rfl, g 5 (by omega), bx_s, show fw_ri M 379 (nI 5) = s 5 from g5]
        by_cases h4 : nI 1 < s 5 - s (69 + 6 * p + 5)
        · rw [if_pos h4, if_pos h4]; rfl
        · rw [if_neg h4, if_neg h4]
  · rw [if_pos (show s (69 + 6 * p + 1) ≠ mI from h1)]
    rcases p1 with ⟨p1, -⟩ | ⟨p1, p2⟩
    · exact absurd p1 h1
    · rw [p1, if_pos (show (0 : Int32) ≤ nI (sv s (69 + 6 * p + 1)) from nI_pos' (by omega))]; rfl
/-! 7: board -/
theorem c_bord {s : Nat → Int32} (hk : ok s) (a b : Int32) : CmdE [0, 2, 3, 4] s (fun M => F_X7_faultOfBoarding M 0 a b) (fun M => F_X7_letBoard M 0 a b) (fun M => F_X9_doBoard M a b) := by
  have hk0 := hk
  obtain ⟨⟨⟨c0, b0⟩, ⟨c1, b1⟩, ⟨c2, b2⟩, ⟨c3, b3⟩, c4, b4⟩, oz, ol, os, od, ot, op, oq⟩ := hk
  rcases px_o a (n := sv s 3) (by omega) with ⟨p, hp, rfl⟩ | ho
  · have hc : ∀ M, R M 0 s → F_X6_hasPassenger M 15 (nI p) = some (nI 1) := fun M hR => by
      obtain ⟨⟨r0, r1, r2, r3, r4, r5⟩, rz, rl, rs, rt, ru, rp, rq⟩ := R0 hR
      exact ht_Passenger hp (by omega) (r3.trans c3)
    have hm : ∀ M, Sm M s → F_X9_isPassenger M (nI p) = some (nI 1) := fun M hS => it_Passenger hp (by omega) ((hS 3 (by omega)).trans c3)
    rcases px_o b (n := sv s 2) (by omega) with ⟨t, ht, rfl⟩ | ho
    · have hc2 : ∀ M, R M 0 s → F_X1_hasTram M 11 (nI t) = some (nI 1) := fun M hR => by
        obtain ⟨⟨r0, r1, r2, r3, r4, r5⟩, rz, rl, rs, rt, ru, rp, rq⟩ := R0 hR
        exact ht_Tram ht (by omega) (r2.trans c2)
      have hm2 : ∀ M, Sm M s → F_X9_isTram M (nI t) = some (nI 1) := fun M hS => it_Tram ht (by omega) ((hS 2 (by omega)).trans c2)
      obtain ⟨p1, ⟨p2, p2b⟩, ⟨p3, p3b⟩, p4⟩ := op p hp
      obtain ⟨t1, t2, t3, t4, -⟩ := ot t ht
      obtain ⟨y1, y2⟩ := tst_ok hk0 ht
      rcases p1 with ⟨p1, x1, x2⟩ | ⟨p1, p1b⟩
      · by_cases hxy : sv s (69 + 6 * p) = sv s (tst s t)
        · obtain ⟨z1, z2⟩ := oz (sv s (69 + 6 * p)) (by omega)
          by_cases hg : tf s p (nI (sv s (51 + 3 * t))) = 1 ∨ (1 ≤ sv s (69 + 6 * p + 3) ∧ (sv s (69 + 6 * p + 2)).testBit (sv s (6 + sv s (69 + 6 * p))) = true)
          · have hcf : ∀ M, R M 0 s → F_X7_faultOfBoarding M 0 (nI p) (nI t) = some (nI 0) := fun M hR => by
              have hc := hc M hR
              have hc2 := hc2 M hR
              have w1 := su_c hk0 hR ht
              have w2 := tf_c hk0 hR hp (nI (sv s (51 + 3 * t)))
              obtain ⟨⟨r0, r1, r2, r3, r4, r5⟩, rz, rl, rs, rt, ru, rp, rq⟩ := R0 hR
              rcases tf_01 s p (nI (sv s (51 + 3 * t))) with h0 | h1
              · obtain ⟨g1, g2⟩ := hg.resolve_left (by omega)
                rw [h0] at w2
                simp (disch := omega) only [F_X7_faultOfBoarding, hc, hc2, w1, F_X6_hasZone, ix_i, ↓pn_m, pn_l0, pn_l1, pn_l2, pn_l3, pn_l4, pn_l5, pn_l6, pn_l7, pn_l8, pn_l9, pn_l10, pn_l11, pn_l12, pn_l16, pn_l18, pn_l20, pn_l31, pn_l32, pn_l40, pn_l45, pn_l48, pn_l51, pn_l57, pn_l59, pn_l60, pn_l62, pn_l64, pn_l69, pn_l97, pn_l98, pn_l99, pn_l100, pn_l101, pn_l105, pn_l107, pn_l108, pn_l114, pn_l115, pn_l116, pn_l117, pn_l119, pn_l126, pn_l129, pn_l240, pn_l903, pn_l1032, nI_add, pk_mul, pk_sub, nI_clamp, nI_leI, nI_ltI, nI_eq, pm_1, pm_2, pm_3, pm_4, pm_5, pm_6, pm_7, pm_8, pn_lt, pn_nlt, pn_le, pn_nle, pn_ne, pn_eq, not_true_eq_false, not_false_eq_true, true_and, and_true, false_and, and_false, true_or, or_true, false_or, or_false, or_self, and_self, ne_eq, reduceIte, if_true, if_false, Nat.add_zero, Nat.zero_add, Nat.mul_zero, Nat.reduceAdd, Nat.reduceMul, fw_wi, fw_ri, up_e, up_n1, up_n2, cp_n, bx_s, bp_s, bt_l, bt_r, lx_s, rp, rt, rz, t1, p1, x1, w2, p2, p3, z1, sh_and, g2]
                simp only [Bool.true_eq_false, if_false, bx_s, nI_eq, ix_i, ↓pn_m, pn_l0, pn_l1, pn_l2, pn_l3, pn_l4, pn_l5, pn_l6, pn_l7, pn_l8, pn_l9, pn_l10, pn_l11, pn_l12, pn_l16, pn_l18, pn_l20, pn_l31, pn_l32, pn_l40, pn_l45, pn_l48, pn_l51, pn_l57, pn_l59, pn_l60, pn_l62, pn_l64, pn_l69, pn_l97, pn_l98, pn_l99, pn_l100, pn_l101, pn_l105, pn_l107, pn_l108, pn_l114, pn_l115, pn_l116, pn_l117, pn_l119, pn_l126, pn_l129, pn_l240, pn_l903, pn_l1032, nI_add, pk_mul, pk_sub, nI_clamp, nI_leI, nI_ltI, nI_eq, pm_1, pm_2, pm_3, pm_4, pm_5, pm_6, pm_7, pm_8, pn_lt, pn_nlt, pn_le, pn_nle, pn_ne, pn_eq, not_true_eq_false, not_false_eq_true, true_and, and_true, false_and, and_false, true_or, or_true, false_or, or_false, or_self, and_self, ne_eq, reduceIte, if_true, if_false, Nat.add_zero, Nat.zero_add, Nat.mul_zero, Nat.reduceAdd, Nat.reduceMul]
                rfl
              · rw [h1] at w2
                simp (disch := omega) only [F_X7_faultOfBoarding, hc, hc2, w1, ix_i, ↓pn_m, pn_l0, pn_l1, pn_l2, pn_l3, pn_l4, pn_l5, pn_l6, pn_l7, pn_l8, pn_l9, pn_l10, pn_l11, pn_l12, pn_l16, pn_l18, pn_l20, pn_l31, pn_l32, pn_l40, pn_l45, pn_l48, pn_l51, pn_l57, pn_l59, pn_l60, pn_l62, pn_l64, pn_l69, pn_l97, pn_l98, pn_l99, pn_l100, pn_l101, pn_l105, pn_l107, pn_l108, pn_l114, pn_l115, pn_l116, pn_l117, pn_l119, pn_l126, pn_l129, pn_l240, pn_l903, pn_l1032, nI_add, pk_mul, pk_sub, nI_clamp, nI_leI, nI_ltI, nI_eq, pm_1, pm_2, pm_3, pm_4, pm_5, pm_6, pm_7, pm_8, pn_lt, pn_nlt, pn_le, pn_nle, pn_ne, pn_eq, not_true_eq_false, not_false_eq_true, true_and, and_true, false_and, and_false, true_or, or_true, false_or, or_false, or_self, and_self, ne_eq, reduceIte, if_true, if_false, Nat.add_zero, Nat.zero_add, Nat.mul_zero, Nat.reduceAdd, Nat.reduceMul, fw_wi, fw_ri, up_e, up_n1, up_n2, cp_n, bx_s, bp_s, bt_l, bt_r, lx_s, rp, rt, t1, p1, x1, w2]
            have hcm : ∀ M, Sm M s → F_X9_hinders M (nI p) (nI t) = some (nI 0) := fun M hS => by
              have w1 := su_m hk0 hS ht
              have w2 := tf_m hk0 hS hp (nI (sv s (51 + 3 * t)))
              have hS : ∀ j, j < 129 → M 379 j = s j := hS
              rcases tf_01 s p (nI (sv s (51 + 3 * t))) with h0 | h1
              · obtain ⟨g1, g2⟩ := hg.resolve_left (by omega)
                rw [h0] at w2
                have g3 : (nI (sv s (69 + 6 * p + 2)) >>> (nI (sv s (6 + sv s (69 + 6 * p))) &&& nI 31)) &&& nI 1 = nI 1 := by rw [sh_r (by omega) (by omega), g2]; rfl
                simp (disch := omega) only [F_X9_hinders, F_X9_hinders_64, F_X9_ofPassenger, F_X9_ofTram, w1, ix_i, ↓pn_m, pn_l0, pn_l1, pn_l2, pn_l3, pn_l4, pn_l5, pn_l6, pn_l7, pn_l8, pn_l9, pn_l10, pn_l11, pn_l12, pn_l16, pn_l18, pn_l20, pn_l31, pn_l32, pn_l40, pn_l45, pn_l48, pn_l51, pn_l57, pn_l59, pn_l60, pn_l62, pn_l64, pn_l69, pn_l97, pn_l98, pn_l99, pn_l100, pn_l101, pn_l105, pn_l107, pn_l108, pn_l114, pn_l115, pn_l116, pn_l117, pn_l119, pn_l126, pn_l129, pn_l240, pn_l903, pn_l1032, nI_add, pk_mul, pk_sub, nI_clamp, nI_leI, nI_ltI, nI_eq, pm_1, pm_2, pm_3, pm_4, pm_5, pm_6, pm_7, pm_8, pn_lt, pn_nlt, pn_le, pn_nle, pn_ne, pn_eq, not_true_eq_false, not_false_eq_true, true_and, and_true, false_and, and_false, true_or, or_true, false_or, or_false, or_self, and_self, ne_eq, reduceIte, if_true, if_false, Nat.add_zero, Nat.zero_add, Nat.mul_zero, Nat.reduceAdd, Nat.reduceMul, fw_wi, fw_ri, up_e, up_n1, up_n2, cp_n, bx_s, bp_s, bt_l, bt_r, lx_s, hS, t1, p1, x1, w2, p2, p3, z1, g3]
              · rw [h1] at w2
                by_cases g3 : (nI (sv s (69 + 6 * p + 2)) >>> (nI (sv s (6 + sv s (69 + 6 * p))) &&& nI 31)) &&& nI 1 = nI 1
                · by_cases g4 : sv s (69 + 6 * p + 3) ≤ 0
                  · simp (disch := omega) only [F_X9_hinders, F_X9_hinders_64, F_X9_ofPassenger, F_X9_ofTram, w1, ix_i, ↓pn_m, pn_l0, pn_l1, pn_l2, pn_l3, pn_l4, pn_l5, pn_l6, pn_l7, pn_l8, pn_l9, pn_l10, pn_l11, pn_l12, pn_l16, pn_l18, pn_l20, pn_l31, pn_l32, pn_l40, pn_l45, pn_l48, pn_l51, pn_l57, pn_l59, pn_l60, pn_l62, pn_l64, pn_l69, pn_l97, pn_l98, pn_l99, pn_l100, pn_l101, pn_l105, pn_l107, pn_l108, pn_l114, pn_l115, pn_l116, pn_l117, pn_l119, pn_l126, pn_l129, pn_l240, pn_l903, pn_l1032, nI_add, pk_mul, pk_sub, nI_clamp, nI_leI, nI_ltI, nI_eq, pm_1, pm_2, pm_3, pm_4, pm_5, pm_6, pm_7, pm_8, pn_lt, pn_nlt, pn_le, pn_nle, pn_ne, pn_eq, not_true_eq_false, not_false_eq_true, true_and, and_true, false_and, and_false, true_or, or_true, false_or, or_false, or_self, and_self, ne_eq, reduceIte, if_true, if_false, Nat.add_zero, Nat.zero_add, Nat.mul_zero, Nat.reduceAdd, Nat.reduceMul, fw_wi, fw_ri, up_e, up_n1, up_n2, cp_n, bx_s, bp_s, bt_l, bt_r, lx_s, hS, t1, p1, x1, w2, p2, p3, z1, g3]
                  · simp (disch := omega) only [F_X9_hinders, F_X9_hinders_64, F_X9_ofPassenger, F_X9_ofTram, w1, ix_i, ↓pn_m, pn_l0, pn_l1, pn_l2, pn_l3, pn_l4, pn_l5, pn_l6, pn_l7, pn_l8, pn_l9, pn_l10, pn_l11, pn_l12, pn_l16, pn_l18, pn_l20, pn_l31, pn_l32, pn_l40, pn_l45, pn_l48, pn_l51, pn_l57, pn_l59, pn_l60, pn_l62, pn_l64, pn_l69, pn_l97, pn_l98, pn_l99, pn_l100, pn_l101, pn_l105, pn_l107, pn_l108, pn_l114, pn_l115, pn_l116, pn_l117, pn_l119, pn_l126, pn_l129, pn_l240, pn_l903, pn_l1032, nI_add, pk_mul, pk_sub, nI_clamp, nI_leI, nI_ltI, nI_eq, pm_1, pm_2, pm_3, pm_4, pm_5, pm_6, pm_7, pm_8, pn_lt, pn_nlt, pn_le, pn_nle, pn_ne, pn_eq, not_true_eq_false, not_false_eq_true, true_and, and_true, false_and, and_false, true_or, or_true, false_or, or_false, or_self, and_self, ne_eq, reduceIte, if_true, if_false, Nat.add_zero, Nat.zero_add, Nat.mul_zero, Nat.reduceAdd, Nat.reduceMul, fw_wi, fw_ri, up_e, up_n1, up_n2, cp_n, bx_s, bp_s, bt_l, bt_r, lx_s, hS, t1, p1, x1, w2, p2, p3, z1, g3]
                · simp (disch := omega) only [F_X9_hinders, F_X9_hinders_64, F_X9_ofPassenger, F_X9_ofTram, w1, ix_i, ↓pn_m, pn_l0, pn_l1, pn_l2, pn_l3, pn_l4, pn_l5, pn_l6, pn_l7, pn_l8, pn_l9, pn_l10, pn_l11, pn_l12, pn_l16, pn_l18, pn_l20, pn_l31, pn_l32, pn_l40, pn_l45, pn_l48, pn_l51, pn_l57, pn_l59, pn_l60, pn_l62, pn_l64, pn_l69, pn_l97, pn_l98, pn_l99, pn_l100, pn_l101, pn_l105, pn_l107, pn_l108, pn_l114, pn_l115, pn_l116, pn_l117, pn_l119, pn_l126, pn_l129, pn_l240, pn_l903, pn_l1032, nI_add, pk_mul, pk_sub, nI_clamp, nI_leI, nI_ltI, nI_eq, pm_1, pm_2, pm_3, pm_4, pm_5, pm_6, pm_7, pm_8, pn_lt, pn_nlt, pn_le, pn_nle, pn_ne, pn_eq, not_true_eq_false, not_false_eq_true, true_and, and_true, false_and, and_false, true_or, or_true, false_or, or_false, or_self, and_self, ne_eq, reduceIte, if_true, if_false, Nat.add_zero, Nat.zero_add, Nat.mul_zero, Nat.reduceAdd, Nat.reduceMul, fw_wi, fw_ri, up_e, up_n1, up_n2, cp_n, bx_s, bp_s, bt_l, bt_r, lx_s, hS, t1, p1, x1, w2, p2, p3, z1, g3]
            obtain ⟨s1, hs1⟩ : ∃ s1, s1 = upd (upd (upd s (69 + 6 * p + 3) (nI (sv s (69 + 6 * p + 3) - (1 - tf s p (nI (sv s (51 + 3 * t))))))) (69 + 6 * p) mI) (69 + 6 * p + 1) (nI t) := ⟨_, rfl⟩
            have en : ∀ x, x ≠ 69 + 6 * p ∧ x ≠ 69 + 6 * p + 1 ∧ x ≠ 69 + 6 * p + 3 → s1 x = s x := fun x h => by rw [hs1, pk_un (by omega), pk_un (by omega), pk_un (by omega)]
            have ed3 : s1 (69 + 6 * p + 3) = nI (sv s (69 + 6 * p + 3) - (1 - tf s p (nI (sv s (51 + 3 * t))))) := by rw [hs1, pk_un (by omega), pk_un (by omega), pk_us]
            have ed0 : s1 (69 + 6 * p) = mI := by rw [hs1, pk_un (by omega), pk_us]
            have ed1 : s1 (69 + 6 * p + 1) = nI t := by rw [hs1, pk_us]
            refine CmdE.good (nI (1 - tf s p (nI (sv s (51 + 3 * t))))) s1 ?_ hcf (fun M hR => ?_) (fun M hS h6 => ?_)
            · have v0 : sv s1 0 = sv s 0 := sv_cong (en 0 (by omega))
              have v1 : sv s1 1 = sv s 1 := sv_cong (en 1 (by omega))
              have v2 : sv s1 2 = sv s 2 := sv_cong (en 2 (by omega))
              have v3 : sv s1 3 = sv s 3 := sv_cong (en 3 (by omega))
              refine ⟨?_, ?_, ?_, ?_, ?_, ?_, ?_, ?_⟩
              · exact (show okc s from ⟨⟨c0, b0⟩, ⟨c1, b1⟩, ⟨c2, b2⟩, ⟨c3, b3⟩, c4, b4⟩).c (fun x hx => en _ (by omega))
              · exact oz.c (fun x h1 h2 => en _ (by omega))
              · exact ol.c (en _ (by omega)) (fun l hl => en _ (by omega))
              · exact os.c ol (by omega) (fun x h1 h2 => en _ (by omega))
              · exact od.c ol (fun x h1 h2 => en _ (by omega))
              · exact ot.c b1 b2 (en _ (by omega)) (by omega) (fun l hl => by rw [sv_cong (en (16 + 7 * l) (by omega))]; exact Nat.le_refl _) (fun x h1 h2 => en _ (by omega))
              · intro q hq
                rw [v3] at hq
                by_cases e : q = p
                · subst e
                  rw [sv_of ed1 (by omega), ed1, sv_of ed3 (by omega), ed3, sv_cong (en (69 + 6 * q + 2) (by omega)), sv_cong (en (69 + 6 * q + 4) (by omega)), en (69 + 6 * q + 2) (by omega), en (69 + 6 * q + 4) (by omega), v2]
                  exact ⟨Or.inr ⟨rfl, ht⟩, ⟨p2, p2b⟩, ⟨rfl, by omega⟩, p4⟩
                · have h1 := op q hq
                  rw [sv_cong (en (69 + 6 * q) (by omega)), sv_cong (en (69 + 6 * q + 1) (by omega)), sv_cong (en (69 + 6 * q + 2) (by omega)), sv_cong (en (69 + 6 * q + 3) (by omega)), sv_cong (en (69 + 6 * q + 4) (by omega)), en (69 + 6 * q) (by omega), en (69 + 6 * q + 1) (by omega), en (69 + 6 * q + 2) (by omega), en (69 + 6 * q + 3) (by omega), en (69 + 6 * q + 4) (by omega), v0, v2]
                  exact h1
              · exact oq.c b4 (en _ (by omega)) (by omega) (fun x h1 h2 => en _ (by omega))
            · have w2 := tf_c hk0 hR hp (nI (sv s (51 + 3 * t)))
              obtain ⟨⟨r0, r1, r2, r3, r4, r5⟩, rz, rl, rs, rt, ru, rp, rq⟩ := R0 hR
              obtain ⟨Q0, Q1, Q2, Q3, Q4, Q5, Q6, Q7⟩ := hR
              clear hs1
              rcases tf_01 s p (nI (sv s (51 + 3 * t))) with h0 | h1
              · obtain ⟨g1, g2⟩ := hg.resolve_left (by omega)
                rw [h0] at w2 ed3 ⊢
                simp (disch := omega) only [F_X7_letBoard, F_X7_letBoard_32, ix_i, ↓pn_m, pn_l0, pn_l1, pn_l2, pn_l3, pn_l4, pn_l5, pn_l6, pn_l7, pn_l8, pn_l9, pn_l10, pn_l11, pn_l12, pn_l16, pn_l18, pn_l20, pn_l31, pn_l32, pn_l40, pn_l45, pn_l48, pn_l51, pn_l57, pn_l59, pn_l60, pn_l62, pn_l64, pn_l69, pn_l97, pn_l98, pn_l99, pn_l100, pn_l101, pn_l105, pn_l107, pn_l108, pn_l114, pn_l115, pn_l116, pn_l117, pn_l119, pn_l126, pn_l129, pn_l240, pn_l903, pn_l1032, nI_add, pk_mul, pk_sub, nI_clamp, nI_leI, nI_ltI, nI_eq, pm_1, pm_2, pm_3, pm_4, pm_5, pm_6, pm_7, pm_8, pn_lt, pn_nlt, pn_le, pn_nle, pn_ne, pn_eq, not_true_eq_false, not_false_eq_true, true_and, and_true, false_and, and_false, true_or, or_true, false_or, or_false, or_self, and_self, ne_eq, reduceIte, if_true, if_false, Nat.add_zero, Nat.zero_add, Nat.mul_zero, Nat.reduceAdd, Nat.reduceMul, fw_wi, fw_ri, up_e, up_n1, up_n2, cp_n, bx_s, bp_s, bt_l, bt_r, lx_s, rp, rt, t1, w2, p3]
                refine ⟨_, rfl, ⟨?_, ?_, ?_, ?_, ?_, ?_, ?_, ?_⟩, fun k hk => by simp (disch := omega) only [up_n1]⟩
                · unfold Rn
                  simp (disch := omega) only [fw_wi, fw_ri, up_e, up_n1, up_n2, cp_n, Nat.zero_add, en, r0, r1, r2, r3, r4, r5, and_true]
                · exact Q1.c (by simp (disch := omega) only [up_n1]) (fun x h1 h2 => en _ (by omega))
                · exact Q2.c ol (by simp (disch := omega) only [up_n1]) (by simp (disch := omega) only [up_n1]) (fun x h1 h2 => en _ (by omega))
                · exact Q3.c (fun l hl => by simp (disch := omega) only [up_n1]) (fun x h1 h2 => en _ (by omega))
                · exact Q4.c (by simp (disch := omega) only [up_n1]) (by simp (disch := omega) only [up_n1]) (fun x h1 h2 => en _ (by omega))
                · exact Q5.c b2 (by simp (disch := omega) only [up_n1]) (en _ (by omega)) (fun x h1 h2 => en _ (by omega))
                · intro q hq
                  by_cases e : q = p
                  · subst e
                    rw [ed0, ed1, ed3, en (69 + 6 * q + 2) (by omega), en (69 + 6 * q + 4) (by omega), en (69 + 6 * q + 5) (by omega)]
                    simp (disch := omega) only [fw_wi, fw_ri, up_e, up_n1, up_n2, cp_n, Nat.zero_add, rp, and_self]
                  · rw [en (69 + 6 * q) (by omega), en (69 + 6 * q + 1) (by omega), en (69 + 6 * q + 2) (by omega), en (69 + 6 * q + 3) (by omega), en (69 + 6 * q + 4) (by omega), en (69 + 6 * q + 5) (by omega)]
                    simp (disch := omega) only [fw_wi, fw_ri, up_e, up_n1, up_n2, cp_n, Nat.zero_add]
                    exact rp q hq
                · exact Q7.c (by simp (disch := omega) only [up_n1]) (by simp (disch := omega) only [up_n1]) (fun x h1 h2 => en _ (by omega))
              · rw [h1] at w2 ed3 ⊢
                simp (disch := omega) only [F_X7_letBoard, F_X7_letBoard_32, ix_i, ↓pn_m, pn_l0, pn_l1, pn_l2, pn_l3, pn_l4, pn_l5, pn_l6, pn_l7, pn_l8, pn_l9, pn_l10, pn_l11, pn_l12, pn_l16, pn_l18, pn_l20, pn_l31, pn_l32, pn_l40, pn_l45, pn_l48, pn_l51, pn_l57, pn_l59, pn_l60, pn_l62, pn_l64, pn_l69, pn_l97, pn_l98, pn_l99, pn_l100, pn_l101, pn_l105, pn_l107, pn_l108, pn_l114, pn_l115, pn_l116, pn_l117, pn_l119, pn_l126, pn_l129, pn_l240, pn_l903, pn_l1032, nI_add, pk_mul, pk_sub, nI_clamp, nI_leI, nI_ltI, nI_eq, pm_1, pm_2, pm_3, pm_4, pm_5, pm_6, pm_7, pm_8, pn_lt, pn_nlt, pn_le, pn_nle, pn_ne, pn_eq, not_true_eq_false, not_false_eq_true, true_and, and_true, false_and, and_false, true_or, or_true, false_or, or_false, or_self, and_self, ne_eq, reduceIte, if_true, if_false, Nat.add_zero, Nat.zero_add, Nat.mul_zero, Nat.reduceAdd, Nat.reduceMul, fw_wi, fw_ri, up_e, up_n1, up_n2, cp_n, bx_s, bp_s, bt_l, bt_r, lx_s, rp, rt, t1, w2, p3]
                refine ⟨_, rfl, ⟨?_, ?_, ?_, ?_, ?_, ?_, ?_, ?_⟩, fun k hk => by simp (disch := omega) only [up_n1]⟩
                · unfold Rn
                  simp (disch := omega) only [fw_wi, fw_ri, up_e, up_n1, up_n2, cp_n, Nat.zero_add, en, r0, r1, r2, r3, r4, r5, and_true]
                · exact Q1.c (by simp (disch := omega) only [up_n1]) (fun x h1 h2 => en _ (by omega))
                · exact Q2.c ol (by simp (disch := omega) only [up_n1]) (by simp (disch := omega) only [up_n1]) (fun x h1 h2 => en _ (by omega))
                · exact Q3.c (fun l hl => by simp (disch := omega) only [up_n1]) (fun x h1 h2 => en _ (by omega))
                · exact Q4.c (by simp (disch := omega) only [up_n1]) (by simp (disch := omega) only [up_n1]) (fun x h1 h2 => en _ (by omega))
                · exact Q5.c b2 (by simp (disch := omega) only [up_n1]) (en _ (by omega)) (fun x h1 h2 => en _ (by omega))
                · intro q hq
                  by_cases e : q = p
                  · subst e
                    rw [ed0, ed1, ed3, en (69 + 6 * q + 2) (by omega), en (69 + 6 * q + 4) (by omega), en (69 + 6 * q + 5) (by omega)]
                    simp (disch := omega) only [fw_wi, fw_ri, up_e, up_n1, up_n2, cp_n, Nat.zero_add, rp, p3, and_self, Nat.sub_self, Nat.sub_zero]
                  · rw [en (69 + 6 * q) (by omega), en (69 + 6 * q + 1) (by omega), en (69 + 6 * q + 2) (by omega), en (69 + 6 * q + 3) (by omega), en (69 + 6 * q + 4) (by omega), en (69 + 6 * q + 5) (by omega)]
                    simp (disch := omega) only [fw_wi, fw_ri, up_e, up_n1, up_n2, cp_n, Nat.zero_add]
                    exact rp q hq
                · exact Q7.c (by simp (disch := omega) only [up_n1]) (by simp (disch := omega) only [up_n1]) (fun x h1 h2 => en _ (by omega))
            · have hm := hm M hS
              have hm2 := hm2 M hS
              have w1 := hcm M hS
              have hS0 := hS
              have w2 := tf_m (M := fw_up M 378 6 (nI 0)) hk0 (fun j hj => by rw [up_n1 (by omega)]; exact hS j hj) hp (nI (sv s (51 + 3 * t)))
              have hS : ∀ j, j < 129 → M 379 j = s j := hS
              rcases tf_01 s p (nI (sv s (51 + 3 * t))) with h0 | h1
              · obtain ⟨g1, g2⟩ := hg.resolve_left (by omega)
                rw [h0] at w2 hs1 ⊢
                simp (disch := omega) only [F_X9_doBoard, F_X9_doBoard_30, F_X9_doBoard_73, F_X9_ofPassenger, F_X9_ofTram, F_X9_sets, hm, hm2, w1, ix_i, ↓pn_m, pn_l0, pn_l1, pn_l2, pn_l3, pn_l4, pn_l5, pn_l6, pn_l7, pn_l8, pn_l9, pn_l10, pn_l11, pn_l12, pn_l16, pn_l18, pn_l20, pn_l31, pn_l32, pn_l40, pn_l45, pn_l48, pn_l51, pn_l57, pn_l59, pn_l60, pn_l62, pn_l64, pn_l69, pn_l97, pn_l98, pn_l99, pn_l100, pn_l101, pn_l105, pn_l107, pn_l108, pn_l114, pn_l115, pn_l116, pn_l117, pn_l119, pn_l126, pn_l129, pn_l240, pn_l903, pn_l1032, nI_add, pk_mul, pk_sub, nI_clamp, nI_leI, nI_ltI, nI_eq, pm_1, pm_2, pm_3, pm_4, pm_5, pm_6, pm_7, pm_8, pn_lt, pn_nlt, pn_le, pn_nle, pn_ne, pn_eq, not_true_eq_false, not_false_eq_true, true_and, and_true, false_and, and_false, true_or, or_true, false_or, or_false, or_self, and_self, ne_eq, reduceIte, if_true, if_false, Nat.add_zero, Nat.zero_add, Nat.mul_zero, Nat.reduceAdd, Nat.reduceMul, fw_wi, fw_ri, up_e, up_n1, up_n2, cp_n, bx_s, bp_s, bt_l, bt_r, lx_s, hS, t1, w2, p3]
                refine ⟨_, rfl, ?_, by simp (disch := omega) only [up_n1, up_e], by repeat first | exact md_0 | refine md_9 ?_ | refine md_6 ?_⟩
                rw [hs1]
                exact Sm_u (Sm_u (Sm_u (fun j hj => by rw [up_n1 (by omega)]; exact hS j hj)))
              · rw [h1] at w2 hs1 ⊢
                simp (disch := omega) only [F_X9_doBoard, F_X9_doBoard_30, F_X9_doBoard_73, F_X9_ofPassenger, F_X9_ofTram, F_X9_sets, hm, hm2, w1, ix_i, ↓pn_m, pn_l0, pn_l1, pn_l2, pn_l3, pn_l4, pn_l5, pn_l6, pn_l7, pn_l8, pn_l9, pn_l10, pn_l11, pn_l12, pn_l16, pn_l18, pn_l20, pn_l31, pn_l32, pn_l40, pn_l45, pn_l48, pn_l51, pn_l57, pn_l59, pn_l60, pn_l62, pn_l64, pn_l69, pn_l97, pn_l98, pn_l99, pn_l100, pn_l101, pn_l105, pn_l107, pn_l108, pn_l114, pn_l115, pn_l116, pn_l117, pn_l119, pn_l126, pn_l129, pn_l240, pn_l903, pn_l1032, nI_add, pk_mul, pk_sub, nI_clamp, nI_leI, nI_ltI, nI_eq, pm_1, pm_2, pm_3, pm_4, pm_5, pm_6, pm_7, pm_8, pn_lt, pn_nlt, pn_le, pn_nle, pn_ne, pn_eq, not_true_eq_false, not_false_eq_true, true_and, and_true, false_and, and_false, true_or, or_true, false_or, or_false, or_self, and_self, ne_eq, reduceIte, if_true, if_false, Nat.add_zero, Nat.zero_add, Nat.mul_zero, Nat.reduceAdd, Nat.reduceMul, fw_wi, fw_ri, up_e, up_n1, up_n2, cp_n, bx_s, bp_s, bt_l, bt_r, lx_s, hS, t1, w2, p3]
                refine ⟨_, rfl, ?_, by simp (disch := omega) only [up_n1, up_e], by repeat first | exact md_0 | refine md_9 ?_ | refine md_6 ?_⟩
                rw [hs1]
                exact Sm_u (Sm_u (Sm_u (fun j hj => by rw [up_n1 (by omega)]; exact hS j hj)))
          · have h0 : tf s p (nI (sv s (51 + 3 * t))) = 0 := (tf_01 s p _).resolve_right (fun q => hg (Or.inl q))
            refine CmdE.bad 5 4 (by omega) (by omega) (by decide) (fun M hR => ?_) (fun M hS h6 => ?_)
            · have hc := hc M hR
              have hc2 := hc2 M hR
              have w1 := su_c hk0 hR ht
              have w2 := tf_c hk0 hR hp (nI (sv s (51 + 3 * t)))
              rw [h0] at w2
              obtain ⟨⟨r0, r1, r2, r3, r4, r5⟩, rz, rl, rs, rt, ru, rp, rq⟩ := R0 hR
              by_cases g1 : 1 ≤ sv s (69 + 6 * p + 3)
              · have g2 : (sv s (69 + 6 * p + 2)).testBit (sv s (6 + sv s (69 + 6 * p))) = false := Bool.eq_false_iff.mpr (fun q => hg (Or.inr ⟨g1, q⟩))
                simp (disch := omega) only [F_X7_faultOfBoarding, hc, hc2, w1, F_X6_hasZone, ix_i, ↓pn_m, pn_l0, pn_l1, pn_l2, pn_l3, pn_l4, pn_l5, pn_l6, pn_l7, pn_l8, pn_l9, pn_l10, pn_l11, pn_l12, pn_l16, pn_l18, pn_l20, pn_l31, pn_l32, pn_l40, pn_l45, pn_l48, pn_l51, pn_l57, pn_l59, pn_l60, pn_l62, pn_l64, pn_l69, pn_l97, pn_l98, pn_l99, pn_l100, pn_l101, pn_l105, pn_l107, pn_l108, pn_l114, pn_l115, pn_l116, pn_l117, pn_l119, pn_l126, pn_l129, pn_l240, pn_l903, pn_l1032, nI_add, pk_mul, pk_sub, nI_clamp, nI_leI, nI_ltI, nI_eq, pm_1, pm_2, pm_3, pm_4, pm_5, pm_6, pm_7, pm_8, pn_lt, pn_nlt, pn_le, pn_nle, pn_ne, pn_eq, not_true_eq_false, not_false_eq_true, true_and, and_true, false_and, and_false, true_or, or_true, false_or, or_false, or_self, and_self, ne_eq, reduceIte, if_true, if_false, Nat.add_zero, Nat.zero_add, Nat.mul_zero, Nat.reduceAdd, Nat.reduceMul, fw_wi, fw_ri, up_e, up_n1, up_n2, cp_n, bx_s, bp_s, bt_l, bt_r, lx_s, rp, rt, rz, t1, p1, x1, w2, p2, p3, z1, sh_and, g2]
              · simp (disch := omega) only [F_X7_faultOfBoarding, hc, hc2, w1, F_X6_hasZone, ix_i, ↓pn_m, pn_l0, pn_l1, pn_l2, pn_l3, pn_l4, pn_l5, pn_l6, pn_l7, pn_l8, pn_l9, pn_l10, pn_l11, pn_l12, pn_l16, pn_l18, pn_l20, pn_l31, pn_l32, pn_l40, pn_l45, pn_l48, pn_l51, pn_l57, pn_l59, pn_l60, pn_l62, pn_l64, pn_l69, pn_l97, pn_l98, pn_l99, pn_l100, pn_l101, pn_l105, pn_l107, pn_l108, pn_l114, pn_l115, pn_l116, pn_l117, pn_l119, pn_l126, pn_l129, pn_l240, pn_l903, pn_l1032, nI_add, pk_mul, pk_sub, nI_clamp, nI_leI, nI_ltI, nI_eq, pm_1, pm_2, pm_3, pm_4, pm_5, pm_6, pm_7, pm_8, pn_lt, pn_nlt, pn_le, pn_nle, pn_ne, pn_eq, not_true_eq_false, not_false_eq_true, true_and, and_true, false_and, and_false, true_or, or_true, false_or, or_false, or_self, and_self, ne_eq, reduceIte, if_true, if_false, Nat.add_zero, Nat.zero_add, Nat.mul_zero, Nat.reduceAdd, Nat.reduceMul, fw_wi, fw_ri, up_e, up_n1, up_n2, cp_n, bx_s, bp_s, bt_l, bt_r, lx_s, rp, rt, rz, t1, p1, x1, w2, p2, p3, z1]
            · have hm := hm M hS
              have hm2 := hm2 M hS
              have w1 := su_m hk0 hS ht
              have w2 := tf_m hk0 hS hp (nI (sv s (51 + 3 * t)))
              rw [h0] at w2
              have hS : ∀ j, j < 129 → M 379 j = s j := hS
              by_cases g1 : 1 ≤ sv s (69 + 6 * p + 3)
              · have g2 : (sv s (69 + 6 * p + 2)).testBit (sv s (6 + sv s (69 + 6 * p))) = false := Bool.eq_false_iff.mpr (fun q => hg (Or.inr ⟨g1, q⟩))
                have g3 : (nI (sv s (69 + 6 * p + 2)) >>> (nI (sv s (6 + sv s (69 + 6 * p))) &&& nI 31)) &&& nI 1 = nI 0 := by rw [sh_r (by omega) (by omega), g2]; rfl
                simp (disch := omega) only [F_X9_doBoard, F_X9_doBoard_30, F_X9_hinders, F_X9_hinders_64, F_X9_ofPassenger, F_X9_ofTram, hm, hm2, w1, ix_i, ↓pn_m, pn_l0, pn_l1, pn_l2, pn_l3, pn_l4, pn_l5, pn_l6, pn_l7, pn_l8, pn_l9, pn_l10, pn_l11, pn_l12, pn_l16, pn_l18, pn_l20, pn_l31, pn_l32, pn_l40, pn_l45, pn_l48, pn_l51, pn_l57, pn_l59, pn_l60, pn_l62, pn_l64, pn_l69, pn_l97, pn_l98, pn_l99, pn_l100, pn_l101, pn_l105, pn_l107, pn_l108, pn_l114, pn_l115, pn_l116, pn_l117, pn_l119, pn_l126, pn_l129, pn_l240, pn_l903, pn_l1032, nI_add, pk_mul, pk_sub, nI_clamp, nI_leI, nI_ltI, nI_eq, pm_1, pm_2, pm_3, pm_4, pm_5, pm_6, pm_7, pm_8, pn_lt, pn_nlt, pn_le, pn_nle, pn_ne, pn_eq, not_true_eq_false, not_false_eq_true, true_and, and_true, false_and, and_false, true_or, or_true, false_or, or_false, or_self, and_self, ne_eq, reduceIte, if_true, if_false, Nat.add_zero, Nat.zero_add, Nat.mul_zero, Nat.reduceAdd, Nat.reduceMul, fw_wi, fw_ri, up_e, up_n1, up_n2, cp_n, bx_s, bp_s, bt_l, bt_r, lx_s, hS, t1, p1, x1, w2, p2, p3, z1, g3]
                exact ⟨_, rfl, up_e rfl rfl, md_6 md_0⟩
              · by_cases g3 : (nI (sv s (69 + 6 * p + 2)) >>> (nI (sv s (6 + sv s (69 + 6 * p))) &&& nI 31)) &&& nI 1 = nI 1
                · simp (disch := omega) only [F_X9_doBoard, F_X9_doBoard_30, F_X9_hinders, F_X9_hinders_64, F_X9_ofPassenger, F_X9_ofTram, hm, hm2, w1, ix_i, ↓pn_m, pn_l0, pn_l1, pn_l2, pn_l3, pn_l4, pn_l5, pn_l6, pn_l7, pn_l8, pn_l9, pn_l10, pn_l11, pn_l12, pn_l16, pn_l18, pn_l20, pn_l31, pn_l32, pn_l40, pn_l45, pn_l48, pn_l51, pn_l57, pn_l59, pn_l60, pn_l62, pn_l64, pn_l69, pn_l97, pn_l98, pn_l99, pn_l100, pn_l101, pn_l105, pn_l107, pn_l108, pn_l114, pn_l115, pn_l116, pn_l117, pn_l119, pn_l126, pn_l129, pn_l240, pn_l903, pn_l1032, nI_add, pk_mul, pk_sub, nI_clamp, nI_leI, nI_ltI, nI_eq, pm_1, pm_2, pm_3, pm_4, pm_5, pm_6, pm_7, pm_8, pn_lt, pn_nlt, pn_le, pn_nle, pn_ne, pn_eq, not_true_eq_false, not_false_eq_true, true_and, and_true, false_and, and_false, true_or, or_true, false_or, or_false, or_self, and_self, ne_eq, reduceIte, if_true, if_false, Nat.add_zero, Nat.zero_add, Nat.mul_zero, Nat.reduceAdd, Nat.reduceMul, fw_wi, fw_ri, up_e, up_n1, up_n2, cp_n, bx_s, bp_s, bt_l, bt_r, lx_s, hS, t1, p1, x1, w2, p2, p3, z1, g3]
                  exact ⟨_, rfl, up_e rfl rfl, md_6 md_0⟩
                · simp (disch := omega) only [F_X9_doBoard, F_X9_doBoard_30, F_X9_hinders, F_X9_hinders_64, F_X9_ofPassenger, F_X9_ofTram, hm, hm2, w1, ix_i, ↓pn_m, pn_l0, pn_l1, pn_l2, pn_l3, pn_l4, pn_l5, pn_l6, pn_l7, pn_l8, pn_l9, pn_l10, pn_l11, pn_l12, pn_l16, pn_l18, pn_l20, pn_l31, pn_l32, pn_l40, pn_l45, pn_l48, pn_l51, pn_l57, pn_l59, pn_l60, pn_l62, pn_l64, pn_l69, pn_l97, pn_l98, pn_l99, pn_l100, pn_l101, pn_l105, pn_l107, pn_l108, pn_l114, pn_l115, pn_l116, pn_l117, pn_l119, pn_l126, pn_l129, pn_l240, pn_l903, pn_l1032, nI_add, pk_mul, pk_sub, nI_clamp, nI_leI, nI_ltI, nI_eq, pm_1, pm_2, pm_3, pm_4, pm_5, pm_6, pm_7, pm_8, pn_lt, pn_nlt, pn_le, pn_nle, pn_ne, pn_eq, not_true_eq_false, not_false_eq_true, true_and, and_true, false_and, and_false, true_or, or_true, false_or, or_false, or_self, and_self, ne_eq, reduceIte, if_true, if_false, Nat.add_zero, Nat.zero_add, Nat.mul_zero, Nat.reduceAdd, Nat.reduceMul, fw_wi, fw_ri, up_e, up_n1, up_n2, cp_n, bx_s, bp_s, bt_l, bt_r, lx_s, hS, t1, p1, x1, w2, p2, p3, z1, g3]
                  exact ⟨_, rfl, up_e rfl rfl, md_6 md_0⟩
        · refine CmdE.bad 4 3 (by omega) (by omega) (by decide) (fun M hR => ?_) (fun M hS h6 => ?_)
          · have hc := hc M hR
            have hc2 := hc2 M hR
            have w1 := su_c hk0 hR ht
            obtain ⟨⟨r0, r1, r2, r3, r4, r5⟩, rz, rl, rs, rt, ru, rp, rq⟩ := R0 hR
            simp (disch := omega) only [F_X7_faultOfBoarding, hc, hc2, w1, ix_i, ↓pn_m, pn_l0, pn_l1, pn_l2, pn_l3, pn_l4, pn_l5, pn_l6, pn_l7, pn_l8, pn_l9, pn_l10, pn_l11, pn_l12, pn_l16, pn_l18, pn_l20, pn_l31, pn_l32, pn_l40, pn_l45, pn_l48, pn_l51, pn_l57, pn_l59, pn_l60, pn_l62, pn_l64, pn_l69, pn_l97, pn_l98, pn_l99, pn_l100, pn_l101, pn_l105, pn_l107, pn_l108, pn_l114, pn_l115, pn_l116, pn_l117, pn_l119, pn_l126, pn_l129, pn_l240, pn_l903, pn_l1032, nI_add, pk_mul, pk_sub, nI_clamp, nI_leI, nI_ltI, nI_eq, pm_1, pm_2, pm_3, pm_4, pm_5, pm_6, pm_7, pm_8, pn_lt, pn_nlt, pn_le, pn_nle, pn_ne, pn_eq, not_true_eq_false, not_false_eq_true, true_and, and_true, false_and, and_false, true_or, or_true, false_or, or_false, or_self, and_self, ne_eq, reduceIte, if_true, if_false, Nat.add_zero, Nat.zero_add, Nat.mul_zero, Nat.reduceAdd, Nat.reduceMul, fw_wi, fw_ri, up_e, up_n1, up_n2, cp_n, bx_s, bp_s, bt_l, bt_r, lx_s, rp, p1, x1]
          · have hm := hm M hS
            have hm2 := hm2 M hS
            have w1 := su_m hk0 hS ht
            have hS : ∀ j, j < 129 → M 379 j = s j := hS
            simp (disch := omega) only [F_X9_doBoard, F_X9_doBoard_30, F_X9_hinders, F_X9_ofPassenger, hm, hm2, w1, ix_i, ↓pn_m, pn_l0, pn_l1, pn_l2, pn_l3, pn_l4, pn_l5, pn_l6, pn_l7, pn_l8, pn_l9, pn_l10, pn_l11, pn_l12, pn_l16, pn_l18, pn_l20, pn_l31, pn_l32, pn_l40, pn_l45, pn_l48, pn_l51, pn_l57, pn_l59, pn_l60, pn_l62, pn_l64, pn_l69, pn_l97, pn_l98, pn_l99, pn_l100, pn_l101, pn_l105, pn_l107, pn_l108, pn_l114, pn_l115, pn_l116, pn_l117, pn_l119, pn_l126, pn_l129, pn_l240, pn_l903, pn_l1032, nI_add, pk_mul, pk_sub, nI_clamp, nI_leI, nI_ltI, nI_eq, pm_1, pm_2, pm_3, pm_4, pm_5, pm_6, pm_7, pm_8, pn_lt, pn_nlt, pn_le, pn_nle, pn_ne, pn_eq, not_true_eq_false, not_false_eq_true, true_and, and_true, false_and, and_false, true_or, or_true, false_or, or_false, or_self, and_self, ne_eq, reduceIte, if_true, if_false, Nat.add_zero, Nat.zero_add, Nat.mul_zero, Nat.reduceAdd, Nat.reduceMul, fw_wi, fw_ri, up_e, up_n1, up_n2, cp_n, bx_s, bp_s, bt_l, bt_r, lx_s, hS, p1, x1]
            exact ⟨_, rfl, up_e rfl rfl, md_6 md_0⟩
      · refine CmdE.bad 3 2 (by omega) (by omega) (by decide) (fun M hR => ?_) (fun M hS h6 => ?_)
        · have hc := hc M hR
          have hc2 := hc2 M hR
          obtain ⟨⟨r0, r1, r2, r3, r4, r5⟩, rz, rl, rs, rt, ru, rp, rq⟩ := R0 hR
          simp (disch := omega) only [F_X7_faultOfBoarding, hc, hc2, ix_i, ↓pn_m, pn_l0, pn_l1, pn_l2, pn_l3, pn_l4, pn_l5, pn_l6, pn_l7, pn_l8, pn_l9, pn_l10, pn_l11, pn_l12, pn_l16, pn_l18, pn_l20, pn_l31, pn_l32, pn_l40, pn_l45, pn_l48, pn_l51, pn_l57, pn_l59, pn_l60, pn_l62, pn_l64, pn_l69, pn_l97, pn_l98, pn_l99, pn_l100, pn_l101, pn_l105, pn_l107, pn_l108, pn_l114, pn_l115, pn_l116, pn_l117, pn_l119, pn_l126, pn_l129, pn_l240, pn_l903, pn_l1032, nI_add, pk_mul, pk_sub, nI_clamp, nI_leI, nI_ltI, nI_eq, pm_1, pm_2, pm_3, pm_4, pm_5, pm_6, pm_7, pm_8, pn_lt, pn_nlt, pn_le, pn_nle, pn_ne, pn_eq, not_true_eq_false, not_false_eq_true, true_and, and_true, false_and, and_false, true_or, or_true, false_or, or_false, or_self, and_self, ne_eq, reduceIte, if_true, if_false, Nat.add_zero, Nat.zero_add, Nat.mul_zero, Nat.reduceAdd, Nat.reduceMul, fw_wi, fw_ri, up_e, up_n1, up_n2, cp_n, bx_s, bp_s, bt_l, bt_r, lx_s, rp, p1]
        · have hm := hm M hS
          have hm2 := hm2 M hS
          have hS : ∀ j, j < 129 → M 379 j = s j := hS
          simp (disch := omega) only [F_X9_doBoard, F_X9_doBoard_30, F_X9_hinders, F_X9_ofPassenger, hm, hm2, ix_i, ↓pn_m, pn_l0, pn_l1, pn_l2, pn_l3, pn_l4, pn_l5, pn_l6, pn_l7, pn_l8, pn_l9, pn_l10, pn_l11, pn_l12, pn_l16, pn_l18, pn_l20, pn_l31, pn_l32, pn_l40, pn_l45, pn_l48, pn_l51, pn_l57, pn_l59, pn_l60, pn_l62, pn_l64, pn_l69, pn_l97, pn_l98, pn_l99, pn_l100, pn_l101, pn_l105, pn_l107, pn_l108, pn_l114, pn_l115, pn_l116, pn_l117, pn_l119, pn_l126, pn_l129, pn_l240, pn_l903, pn_l1032, nI_add, pk_mul, pk_sub, nI_clamp, nI_leI, nI_ltI, nI_eq, pm_1, pm_2, pm_3, pm_4, pm_5, pm_6, pm_7, pm_8, pn_lt, pn_nlt, pn_le, pn_nle, pn_ne, pn_eq, not_true_eq_false, not_false_eq_true, true_and, and_true, false_and, and_false, true_or, or_true, false_or, or_false, or_self, and_self, ne_eq, reduceIte, if_true, if_false, Nat.add_zero, Nat.zero_add, Nat.mul_zero, Nat.reduceAdd, Nat.reduceMul, fw_wi, fw_ri, up_e, up_n1, up_n2, cp_n, bx_s, bp_s, bt_l, bt_r, lx_s, hS, p1]
          exact ⟨_, rfl, up_e rfl rfl, md_6 md_0⟩
    · refine CmdE.bad 1 1 (by omega) (by omega) (by decide) (fun M hR => ?_) (fun M hS h6 => ?_)
      · have hc := hc M hR
        obtain ⟨⟨r0, r1, r2, r3, r4, r5⟩, rz, rl, rs, rt, ru, rp, rq⟩ := R0 hR
        have e1 : F_X1_hasTram M 11 b = some (nI 0) := hs_Tram ho (r2.trans c2)
        simp (disch := omega) only [F_X7_faultOfBoarding, hc, e1, ix_i, ↓pn_m, pn_l0, pn_l1, pn_l2, pn_l3, pn_l4, pn_l5, pn_l6, pn_l7, pn_l8, pn_l9, pn_l10, pn_l11, pn_l12, pn_l16, pn_l18, pn_l20, pn_l31, pn_l32, pn_l40, pn_l45, pn_l48, pn_l51, pn_l57, pn_l59, pn_l60, pn_l62, pn_l64, pn_l69, pn_l97, pn_l98, pn_l99, pn_l100, pn_l101, pn_l105, pn_l107, pn_l108, pn_l114, pn_l115, pn_l116, pn_l117, pn_l119, pn_l126, pn_l129, pn_l240, pn_l903, pn_l1032, nI_add, pk_mul, pk_sub, nI_clamp, nI_leI, nI_ltI, nI_eq, pm_1, pm_2, pm_3, pm_4, pm_5, pm_6, pm_7, pm_8, pn_lt, pn_nlt, pn_le, pn_nle, pn_ne, pn_eq, not_true_eq_false, not_false_eq_true, true_and, and_true, false_and, and_false, true_or, or_true, false_or, or_false, or_self, and_self, ne_eq, reduceIte, if_true, if_false, Nat.add_zero, Nat.zero_add, Nat.mul_zero, Nat.reduceAdd, Nat.reduceMul, fw_wi, fw_ri, up_e, up_n1, up_n2, cp_n, bx_s, bp_s, bt_l, bt_r, lx_s]
      · have hm := hm M hS
        have e1 : F_X9_isTram M b = some (nI 0) := is_Tram ho (by omega) ((hS 2 (by omega)).trans c2)
        simp (disch := omega) only [F_X9_doBoard, F_X9_doBoard_30, hm, e1, ix_i, ↓pn_m, pn_l0, pn_l1, pn_l2, pn_l3, pn_l4, pn_l5, pn_l6, pn_l7, pn_l8, pn_l9, pn_l10, pn_l11, pn_l12, pn_l16, pn_l18, pn_l20, pn_l31, pn_l32, pn_l40, pn_l45, pn_l48, pn_l51, pn_l57, pn_l59, pn_l60, pn_l62, pn_l64, pn_l69, pn_l97, pn_l98, pn_l99, pn_l100, pn_l101, pn_l105, pn_l107, pn_l108, pn_l114, pn_l115, pn_l116, pn_l117, pn_l119, pn_l126, pn_l129, pn_l240, pn_l903, pn_l1032, nI_add, pk_mul, pk_sub, nI_clamp, nI_leI, nI_ltI, nI_eq, pm_1, pm_2, pm_3, pm_4, pm_5, pm_6, pm_7, pm_8, pn_lt, pn_nlt, pn_le, pn_nle, pn_ne, pn_eq, not_true_eq_false, not_false_eq_true, true_and, and_true, false_and, and_false, true_or, or_true, false_or, or_false, or_self, and_self, ne_eq, reduceIte, if_true, if_false, Nat.add_zero, Nat.zero_add, Nat.mul_zero, Nat.reduceAdd, Nat.reduceMul, fw_wi, fw_ri, up_e, up_n1, up_n2, cp_n, bx_s, bp_s, bt_l, bt_r, lx_s]
        exact ⟨_, rfl, up_e rfl rfl, md_6 md_0⟩
  · refine CmdE.bad 1 1 (by omega) (by omega) (by decide) (fun M hR => ?_) (fun M hS h6 => ?_)
    · obtain ⟨⟨r0, r1, r2, r3, r4, r5⟩, rz, rl, rs, rt, ru, rp, rq⟩ := R0 hR
      have e1 : F_X6_hasPassenger M 15 a = some (nI 0) := hs_Passenger ho (r3.trans c3)
      simp (disch := omega) only [F_X7_faultOfBoarding, e1, ix_i, ↓pn_m, pn_l0, pn_l1, pn_l2, pn_l3, pn_l4, pn_l5, pn_l6, pn_l7, pn_l8, pn_l9, pn_l10, pn_l11, pn_l12, pn_l16, pn_l18, pn_l20, pn_l31, pn_l32, pn_l40, pn_l45, pn_l48, pn_l51, pn_l57, pn_l59, pn_l60, pn_l62, pn_l64, pn_l69, pn_l97, pn_l98, pn_l99, pn_l100, pn_l101, pn_l105, pn_l107, pn_l108, pn_l114, pn_l115, pn_l116, pn_l117, pn_l119, pn_l126, pn_l129, pn_l240, pn_l903, pn_l1032, nI_add, pk_mul, pk_sub, nI_clamp, nI_leI, nI_ltI, nI_eq, pm_1, pm_2, pm_3, pm_4, pm_5, pm_6, pm_7, pm_8, pn_lt, pn_nlt, pn_le, pn_nle, pn_ne, pn_eq, not_true_eq_false, not_false_eq_true, true_and, and_true, false_and, and_false, true_or, or_true, false_or, or_false, or_self, and_self, ne_eq, reduceIte, if_true, if_false, Nat.add_zero, Nat.zero_add, Nat.mul_zero, Nat.reduceAdd, Nat.reduceMul, fw_wi, fw_ri, up_e, up_n1, up_n2, cp_n, bx_s, bp_s, bt_l, bt_r, lx_s]
    · have e1 : F_X9_isPassenger M a = some (nI 0) := is_Passenger ho (by omega) ((hS 3 (by omega)).trans c3)
      simp (disch := omega) only [F_X9_doBoard, F_X9_doBoard_30, e1, ix_i, ↓pn_m, pn_l0, pn_l1, pn_l2, pn_l3, pn_l4, pn_l5, pn_l6, pn_l7, pn_l8, pn_l9, pn_l10, pn_l11, pn_l12, pn_l16, pn_l18, pn_l20, pn_l31, pn_l32, pn_l40, pn_l45, pn_l48, pn_l51, pn_l57, pn_l59, pn_l60, pn_l62, pn_l64, pn_l69, pn_l97, pn_l98, pn_l99, pn_l100, pn_l101, pn_l105, pn_l107, pn_l108, pn_l114, pn_l115, pn_l116, pn_l117, pn_l119, pn_l126, pn_l129, pn_l240, pn_l903, pn_l1032, nI_add, pk_mul, pk_sub, nI_clamp, nI_leI, nI_ltI, nI_eq, pm_1, pm_2, pm_3, pm_4, pm_5, pm_6, pm_7, pm_8, pn_lt, pn_nlt, pn_le, pn_nle, pn_ne, pn_eq, not_true_eq_false, not_false_eq_true, true_and, and_true, false_and, and_false, true_or, or_true, false_or, or_false, or_self, and_self, ne_eq, reduceIte, if_true, if_false, Nat.add_zero, Nat.zero_add, Nat.mul_zero, Nat.reduceAdd, Nat.reduceMul, fw_wi, fw_ri, up_e, up_n1, up_n2, cp_n, bx_s, bp_s, bt_l, bt_r, lx_s]
      exact ⟨_, rfl, up_e rfl rfl, md_6 md_0⟩
