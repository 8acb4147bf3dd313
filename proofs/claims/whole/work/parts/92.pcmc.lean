/-! 4: tram -/
theorem c_tram {s : Nat → Int32} (hk : ok s) (a : Int32) : CmdE [0, 2] s (fun M => F_X7_faultOfTram M 0 a) (fun M => F_X1_putTram M 11 a) (fun M => F_X9_doAddTram M a) := by
  have hk0 := hk
  obtain ⟨⟨⟨c0, b0⟩, ⟨c1, b1⟩, ⟨c2, b2⟩, ⟨c3, b3⟩, c4, b4⟩, oz, ol, os, od, ot, op, oq⟩ := hk
  rcases px_o a (n := sv s 1) (by omega) with ⟨l, hl, rfl⟩ | ho
  · obtain ⟨l1, l6, l2, -⟩ := ol l (by omega)
    have l2 := l2 hl
    have hc : ∀ M, R M 0 s → F_X3_hasLine M 1 (nI l) = some (nI 1) := fun M hR => by
      obtain ⟨⟨r0, r1, -⟩, -⟩ := R0 hR
      exact ht_Line hl (by omega) (r1.trans c1)
    have hm : ∀ M, Sm M s → F_X9_isLine M (nI l) = some (nI 1) := fun M hS => it_Line hl (by omega) ((hS 1 (by omega)).trans c1)
    by_cases hn : sv s 2 = 6
    · refine CmdE.bad 3 2 (by omega) (by omega) (by decide) (fun M hR => ?_) (fun M hS h6 => ?_)
      · have hc := hc M hR
        obtain ⟨⟨r0, r1, r2, r3, r4, r5⟩, rz, rl, rs, rt, ru, rp, rq⟩ := R0 hR
        simp (disch := omega) only [F_X7_faultOfTram, hc, ix_i, ↓pn_m, pn_l0, pn_l1, pn_l2, pn_l3, pn_l4, pn_l5, pn_l6, pn_l7, pn_l8, pn_l9, pn_l10, pn_l11, pn_l12, pn_l16, pn_l18, pn_l20, pn_l31, pn_l32, pn_l40, pn_l45, pn_l48, pn_l51, pn_l57, pn_l59, pn_l60, pn_l62, pn_l64, pn_l69, pn_l97, pn_l98, pn_l99, pn_l100, pn_l101, pn_l105, pn_l107, pn_l108, pn_l114, pn_l115, pn_l116, pn_l117, pn_l119, pn_l126, pn_l129, pn_l240, pn_l903, pn_l1032, nI_add, pk_mul, pk_sub, nI_clamp, nI_leI, nI_ltI, nI_eq, pm_1, pm_2, pm_3, pm_4, pm_5, pm_6, pm_7, pm_8, pn_lt, pn_nlt, pn_le, pn_nle, pn_ne, pn_eq, not_true_eq_false, not_false_eq_true, true_and, and_true, false_and, and_false, true_or, or_true, false_or, or_false, or_self, and_self, ne_eq, reduceIte, if_true, if_false, Nat.add_zero, Nat.zero_add, Nat.mul_zero, Nat.reduceAdd, Nat.reduceMul, fw_wi, fw_ri, up_e, up_n1, up_n2, cp_n, bx_s, bp_s, bt_l, bt_r, lx_s, r2, c2]
      · have hm := hm M hS
        have hS : ∀ j, j < 129 → M 379 j = s j := hS
        simp (disch := omega) only [F_X9_doAddTram, hm, F_X9_fails, ix_i, ↓pn_m, pn_l0, pn_l1, pn_l2, pn_l3, pn_l4, pn_l5, pn_l6, pn_l7, pn_l8, pn_l9, pn_l10, pn_l11, pn_l12, pn_l16, pn_l18, pn_l20, pn_l31, pn_l32, pn_l40, pn_l45, pn_l48, pn_l51, pn_l57, pn_l59, pn_l60, pn_l62, pn_l64, pn_l69, pn_l97, pn_l98, pn_l99, pn_l100, pn_l101, pn_l105, pn_l107, pn_l108, pn_l114, pn_l115, pn_l116, pn_l117, pn_l119, pn_l126, pn_l129, pn_l240, pn_l903, pn_l1032, nI_add, pk_mul, pk_sub, nI_clamp, nI_leI, nI_ltI, nI_eq, pm_1, pm_2, pm_3, pm_4, pm_5, pm_6, pm_7, pm_8, pn_lt, pn_nlt, pn_le, pn_nle, pn_ne, pn_eq, not_true_eq_false, not_false_eq_true, true_and, and_true, false_and, and_false, true_or, or_true, false_or, or_false, or_self, and_self, ne_eq, reduceIte, if_true, if_false, Nat.add_zero, Nat.zero_add, Nat.mul_zero, Nat.reduceAdd, Nat.reduceMul, fw_wi, fw_ri, up_e, up_n1, up_n2, cp_n, bx_s, bp_s, bt_l, bt_r, lx_s, hS, c2]
        exact ⟨_, rfl, up_e rfl rfl, md_6 md_0⟩
    · have en : ∀ x, ¬ (51 + 3 * sv s 2 ≤ x ∧ x < 51 + 3 * sv s 2 + 3) ∧ x ≠ 2 → upd (upd (upd (upd s (51 + 3 * sv s 2) (nI l)) (51 + 3 * sv s 2 + 1) (nI 0)) (51 + 3 * sv s 2 + 2) (nI 0)) 2 (nI (sv s 2 + 1)) x = s x := fun x h => by rw [pk_un (by omega), pk_un (by omega), pk_un (by omega), pk_un (by omega)]
      have e2 : upd (upd (upd (upd s (51 + 3 * sv s 2) (nI l)) (51 + 3 * sv s 2 + 1) (nI 0)) (51 + 3 * sv s 2 + 2) (nI 0)) 2 (nI (sv s 2 + 1)) 2 = nI (sv s 2 + 1) := pk_us
      have ea : upd (upd (upd (upd s (51 + 3 * sv s 2) (nI l)) (51 + 3 * sv s 2 + 1) (nI 0)) (51 + 3 * sv s 2 + 2) (nI 0)) 2 (nI (sv s 2 + 1)) (51 + 3 * sv s 2) = nI l := by rw [pk_un (by omega), pk_un (by omega), pk_un (by omega), pk_us]
      have eb : upd (upd (upd (upd s (51 + 3 * sv s 2) (nI l)) (51 + 3 * sv s 2 + 1) (nI 0)) (51 + 3 * sv s 2 + 2) (nI 0)) 2 (nI (sv s 2 + 1)) (51 + 3 * sv s 2 + 1) = nI 0 := by rw [pk_un (by omega), pk_un (by omega), pk_us]
      have ec : upd (upd (upd (upd s (51 + 3 * sv s 2) (nI l)) (51 + 3 * sv s 2 + 1) (nI 0)) (51 + 3 * sv s 2 + 2) (nI 0)) 2 (nI (sv s 2 + 1)) (51 + 3 * sv s 2 + 2) = nI 0 := by rw [pk_un (by omega), pk_us]
      refine CmdE.good (nI (sv s 2)) (upd (upd (upd (upd s (51 + 3 * sv s 2) (nI l)) (51 + 3 * sv s 2 + 1) (nI 0)) (51 + 3 * sv s 2 + 2) (nI 0)) 2 (nI (sv s 2 + 1))) ?_ (fun M hR => ?_) (fun M hR => ?_) (fun M hS h6 => ?_)
      · generalize upd (upd (upd (upd s (51 + 3 * sv s 2) (nI l)) (51 + 3 * sv s 2 + 1) (nI 0)) (51 + 3 * sv s 2 + 2) (nI 0)) 2 (nI (sv s 2 + 1)) = s1 at en e2 ea eb ec ⊢
        have v2 : sv s1 2 = sv s 2 + 1 := sv_of e2 (by omega)
        have va : sv s1 (51 + 3 * sv s 2) = l := sv_of ea (by omega)
        have vb : sv s1 (51 + 3 * sv s 2 + 1) = 0 := sv_of eb (by omega)
        have v0 : sv s1 0 = sv s 0 := sv_cong (en 0 (by omega))
        have v1 : sv s1 1 = sv s 1 := sv_cong (en 1 (by omega))
        have v3 : sv s1 3 = sv s 3 := sv_cong (en 3 (by omega))
        have v4 : sv s1 4 = sv s 4 := sv_cong (en 4 (by omega))
        have vl : ∀ q, q < 5 → sv s1 (16 + 7 * q) = sv s (16 + 7 * q) := fun q hq => sv_cong (en _ (by omega))
        refine ⟨?_, ?_, ?_, ?_, ?_, ?_, ?_, ?_⟩
        · unfold okc
          rw [v0, v1, v2, v3, v4, en 0 (by omega), en 1 (by omega), en 3 (by omega), en 4 (by omega)]
          exact ⟨⟨c0, b0⟩, ⟨c1, b1⟩, ⟨e2, by omega⟩, ⟨c3, b3⟩, c4, b4⟩
        · exact oz.c (fun x h1 h2 => en _ (by omega))
        · exact ol.c (en _ (by omega)) (fun l hl => en _ (by omega))
        · exact os.c ol (by omega) (fun x h1 h2 => en _ (by omega))
        · exact od.c ol (fun x h1 h2 => en _ (by omega))
        · intro t ht
          rw [v2] at ht
          by_cases e : t = sv s 2
          · subst e
            rw [va, vb, v1, vl l (by omega)]
            exact ⟨ea, hl, eb, by omega, Or.inl ⟨ec, by omega⟩⟩
          · have h1 := ot t (by omega)
            have hlt := h1.2.1
            rw [sv_cong (en (51 + 3 * t) (by omega)), sv_cong (en (51 + 3 * t + 1) (by omega)), en (51 + 3 * t) (by omega), en (51 + 3 * t + 1) (by omega), en (51 + 3 * t + 2) (by omega), v1, vl _ (by omega)]
            exact h1
        · exact op.c b3 (en _ (by omega)) (by omega) (by omega) (fun x h1 h2 => en _ (by omega))
        · exact oq.c b4 (en _ (by omega)) (by omega) (fun x h1 h2 => en _ (by omega))
      · have hc := hc M hR
        obtain ⟨⟨r0, r1, r2, r3, r4, r5⟩, rz, rl, rs, rt, ru, rp, rq⟩ := R0 hR
        simp (disch := omega) only [F_X7_faultOfTram, hc, ix_i, ↓pn_m, pn_l0, pn_l1, pn_l2, pn_l3, pn_l4, pn_l5, pn_l6, pn_l7, pn_l8, pn_l9, pn_l10, pn_l11, pn_l12, pn_l16, pn_l18, pn_l20, pn_l31, pn_l32, pn_l40, pn_l45, pn_l48, pn_l51, pn_l57, pn_l59, pn_l60, pn_l62, pn_l64, pn_l69, pn_l97, pn_l98, pn_l99, pn_l100, pn_l101, pn_l105, pn_l107, pn_l108, pn_l114, pn_l115, pn_l116, pn_l117, pn_l119, pn_l126, pn_l129, pn_l240, pn_l903, pn_l1032, nI_add, pk_mul, pk_sub, nI_clamp, nI_leI, nI_ltI, nI_eq, pm_1, pm_2, pm_3, pm_4, pm_5, pm_6, pm_7, pm_8, pn_lt, pn_nlt, pn_le, pn_nle, pn_ne, pn_eq, not_true_eq_false, not_false_eq_true, true_and, and_true, false_and, and_false, true_or, or_true, false_or, or_false, or_self, and_self, ne_eq, reduceIte, if_true, if_false, Nat.add_zero, Nat.zero_add, Nat.mul_zero, Nat.reduceAdd, Nat.reduceMul, fw_wi, fw_ri, up_e, up_n1, up_n2, cp_n, bx_s, bp_s, bt_l, bt_r, lx_s, r2, c2]
      · obtain ⟨⟨r0, r1, r2, r3, r4, r5⟩, rz, rl, rs, rt, ru, rp, rq⟩ := R0 hR
        obtain ⟨Q0, Q1, Q2, Q3, Q4, Q5, Q6, Q7⟩ := hR
        simp (disch := omega) only [F_X1_putTram, ix_i, ↓pn_m, pn_l0, pn_l1, pn_l2, pn_l3, pn_l4, pn_l5, pn_l6, pn_l7, pn_l8, pn_l9, pn_l10, pn_l11, pn_l12, pn_l16, pn_l18, pn_l20, pn_l31, pn_l32, pn_l40, pn_l45, pn_l48, pn_l51, pn_l57, pn_l59, pn_l60, pn_l62, pn_l64, pn_l69, pn_l97, pn_l98, pn_l99, pn_l100, pn_l101, pn_l105, pn_l107, pn_l108, pn_l114, pn_l115, pn_l116, pn_l117, pn_l119, pn_l126, pn_l129, pn_l240, pn_l903, pn_l1032, nI_add, pk_mul, pk_sub, nI_clamp, nI_leI, nI_ltI, nI_eq, pm_1, pm_2, pm_3, pm_4, pm_5, pm_6, pm_7, pm_8, pn_lt, pn_nlt, pn_le, pn_nle, pn_ne, pn_eq, not_true_eq_false, not_false_eq_true, true_and, and_true, false_and, and_false, true_or, or_true, false_or, or_false, or_self, and_self, ne_eq, reduceIte, if_true, if_false, Nat.add_zero, Nat.zero_add, Nat.mul_zero, Nat.reduceAdd, Nat.reduceMul, fw_wi, fw_ri, up_e, up_n1, up_n2, cp_n, bx_s, bp_s, bt_l, bt_r, lx_s, r2, c2, Nat.add_sub_cancel]
        generalize upd (upd (upd (upd s (51 + 3 * sv s 2) (nI l)) (51 + 3 * sv s 2 + 1) (nI 0)) (51 + 3 * sv s 2 + 2) (nI 0)) 2 (nI (sv s 2 + 1)) = s1 at en e2 ea eb ec ⊢
        have v2 : sv s1 2 = sv s 2 + 1 := sv_of e2 (by omega)
        refine ⟨_, rfl, ⟨?_, ?_, ?_, ?_, ?_, ?_, ?_, ?_⟩, fun k hk => by simp (disch := omega) only [up_n1]⟩
        · unfold Rn
          simp (disch := omega) only [fw_wi, fw_ri, up_e, up_n1, up_n2, cp_n, Nat.zero_add, e2, en, r0, r1, r3, r4, r5, and_true]
        · exact Q1.c (by simp (disch := omega) only [up_n1]) (fun x h1 h2 => en _ (by omega))
        · exact Q2.c ol (by simp (disch := omega) only [up_n1]) (by simp (disch := omega) only [up_n1]) (fun x h1 h2 => en _ (by omega))
        · exact Q3.c (fun l hl => by simp (disch := omega) only [up_n1]) (fun x h1 h2 => en _ (by omega))
        · intro t ht
          by_cases e : t = sv s 2
          · subst e
            rw [ea, eb]
            simp (disch := omega) only [fw_wi, fw_ri, up_e, up_n1, up_n2, cp_n, Nat.zero_add, and_self]
          · rw [en _ (by omega), en _ (by omega)]
            simp (disch := omega) only [fw_wi, fw_ri, up_e, up_n1, up_n2, cp_n, Nat.zero_add]
            exact rt t ht
        · intro t ht
          rw [v2] at ht
          by_cases e : t = sv s 2
          · subst e
            rw [ec, if_neg (by decide)]
            simp (disch := omega) only [fw_wi, fw_ri, up_e, up_n1, up_n2, cp_n, Nat.zero_add]
          · rw [en _ (by omega)]
            simp (disch := omega) only [fw_wi, fw_ri, up_e, up_n1, up_n2, cp_n, Nat.zero_add]
            exact ru t (by omega)
        · exact Q6.c (fun k h1 h2 => by simp (disch := omega) only [up_n1]) (fun x h1 h2 => en _ (by omega))
        · exact Q7.c (by simp (disch := omega) only [up_n1]) (by simp (disch := omega) only [up_n1]) (fun x h1 h2 => en _ (by omega))
      · have hm := hm M hS
        have hS0 := hS
        have hS : ∀ j, j < 129 → M 379 j = s j := hS
        simp (disch := omega) only [F_X9_doAddTram, hm, F_X9_fails, ix_i, ↓pn_m, pn_l0, pn_l1, pn_l2, pn_l3, pn_l4, pn_l5, pn_l6, pn_l7, pn_l8, pn_l9, pn_l10, pn_l11, pn_l12, pn_l16, pn_l18, pn_l20, pn_l31, pn_l32, pn_l40, pn_l45, pn_l48, pn_l51, pn_l57, pn_l59, pn_l60, pn_l62, pn_l64, pn_l69, pn_l97, pn_l98, pn_l99, pn_l100, pn_l101, pn_l105, pn_l107, pn_l108, pn_l114, pn_l115, pn_l116, pn_l117, pn_l119, pn_l126, pn_l129, pn_l240, pn_l903, pn_l1032, nI_add, pk_mul, pk_sub, nI_clamp, nI_leI, nI_ltI, nI_eq, pm_1, pm_2, pm_3, pm_4, pm_5, pm_6, pm_7, pm_8, pn_lt, pn_nlt, pn_le, pn_nle, pn_ne, pn_eq, not_true_eq_false, not_false_eq_true, true_and, and_true, false_and, and_false, true_or, or_true, false_or, or_false, or_self, and_self, ne_eq, reduceIte, if_true, if_false, Nat.add_zero, Nat.zero_add, Nat.mul_zero, Nat.reduceAdd, Nat.reduceMul, fw_wi, fw_ri, up_e, up_n1, up_n2, cp_n, bx_s, bp_s, bt_l, bt_r, lx_s, hS, c2]
        exact ⟨_, rfl, Sm_u (Sm_u (Sm_u (Sm_u hS0))), by rw [up_n1 (by omega), up_n1 (by omega), up_n1 (by omega), up_n1 (by omega), h6], md_9 (md_9 (md_9 (md_9 md_0)))⟩
  · refine CmdE.bad 1 1 (by omega) (by omega) (by decide) (fun M hR => ?_) (fun M hS h6 => ?_)
    · obtain ⟨⟨r0, r1, -⟩, -⟩ := R0 hR
      have e1 : F_X3_hasLine M 1 a = some (nI 0) := hs_Line ho (r1.trans c1)
      simp (disch := omega) only [F_X7_faultOfTram, e1, ix_i, ↓pn_m, pn_l0, pn_l1, pn_l2, pn_l3, pn_l4, pn_l5, pn_l6, pn_l7, pn_l8, pn_l9, pn_l10, pn_l11, pn_l12, pn_l16, pn_l18, pn_l20, pn_l31, pn_l32, pn_l40, pn_l45, pn_l48, pn_l51, pn_l57, pn_l59, pn_l60, pn_l62, pn_l64, pn_l69, pn_l97, pn_l98, pn_l99, pn_l100, pn_l101, pn_l105, pn_l107, pn_l108, pn_l114, pn_l115, pn_l116, pn_l117, pn_l119, pn_l126, pn_l129, pn_l240, pn_l903, pn_l1032, nI_add, pk_mul, pk_sub, nI_clamp, nI_leI, nI_ltI, nI_eq, pm_1, pm_2, pm_3, pm_4, pm_5, pm_6, pm_7, pm_8, pn_lt, pn_nlt, pn_le, pn_nle, pn_ne, pn_eq, not_true_eq_false, not_false_eq_true, true_and, and_true, false_and, and_false, true_or, or_true, false_or, or_false, or_self, and_self, ne_eq, reduceIte, if_true, if_false, Nat.add_zero, Nat.zero_add, Nat.mul_zero, Nat.reduceAdd, Nat.reduceMul, fw_wi, fw_ri, up_e, up_n1, up_n2, cp_n, bx_s, bp_s, bt_l, bt_r, lx_s]
    · have e1 : F_X9_isLine M a = some (nI 0) := is_Line ho (by omega) ((hS 1 (by omega)).trans c1)
      simp (disch := omega) only [F_X9_doAddTram, e1, F_X9_fails, ix_i, ↓pn_m, pn_l0, pn_l1, pn_l2, pn_l3, pn_l4, pn_l5, pn_l6, pn_l7, pn_l8, pn_l9, pn_l10, pn_l11, pn_l12, pn_l16, pn_l18, pn_l20, pn_l31, pn_l32, pn_l40, pn_l45, pn_l48, pn_l51, pn_l57, pn_l59, pn_l60, pn_l62, pn_l64, pn_l69, pn_l97, pn_l98, pn_l99, pn_l100, pn_l101, pn_l105, pn_l107, pn_l108, pn_l114, pn_l115, pn_l116, pn_l117, pn_l119, pn_l126, pn_l129, pn_l240, pn_l903, pn_l1032, nI_add, pk_mul, pk_sub, nI_clamp, nI_leI, nI_ltI, nI_eq, pm_1, pm_2, pm_3, pm_4, pm_5, pm_6, pm_7, pm_8, pn_lt, pn_nlt, pn_le, pn_nle, pn_ne, pn_eq, not_true_eq_false, not_false_eq_true, true_and, and_true, false_and, and_false, true_or, or_true, false_or, or_false, or_self, and_self, ne_eq, reduceIte, if_true, if_false, Nat.add_zero, Nat.zero_add, Nat.mul_zero, Nat.reduceAdd, Nat.reduceMul, fw_wi, fw_ri, up_e, up_n1, up_n2, cp_n, bx_s, bp_s, bt_l, bt_r, lx_s]
      exact ⟨_, rfl, up_e rfl rfl, md_6 md_0⟩
/-! 5: rider -/
theorem c_ride {s : Nat → Int32} (hk : ok s) (a : Int32) : CmdE [0, 2] s (fun M => F_X7_faultOfPassenger M 0 a) (fun M => F_X6_putPassenger M 15 a) (fun M => F_X9_doAddPassenger M a) := by
  have hk0 := hk
  obtain ⟨⟨⟨c0, b0⟩, ⟨c1, b1⟩, ⟨c2, b2⟩, ⟨c3, b3⟩, c4, b4⟩, oz, ol, os, od, ot, op, oq⟩ := hk
  rcases px_o a (n := sv s 0) (by omega) with ⟨l, hl, rfl⟩ | ho
  · have hc : ∀ M, R M 0 s → F_X3_hasStop M 1 (nI l) = some (nI 1) := fun M hR => by
      obtain ⟨⟨r0, r1, -⟩, -⟩ := R0 hR
      exact ht_Stop hl (by omega) (r0.trans c0)
    have hm : ∀ M, Sm M s → F_X9_isStop M (nI l) = some (nI 1) := fun M hS => it_Stop hl (by omega) ((hS 0 (by omega)).trans c0)
    by_cases hn : sv s 3 = 8
    · refine CmdE.bad 3 2 (by omega) (by omega) (by decide) (fun M hR => ?_) (fun M hS h6 => ?_)
      · have hc := hc M hR
        obtain ⟨⟨r0, r1, r2, r3, r4, r5⟩, rz, rl, rs, rt, ru, rp, rq⟩ := R0 hR
        simp (disch := omega) only [F_X7_faultOfPassenger, hc, ix_i, ↓pn_m, pn_l0, pn_l1, pn_l2, pn_l3, pn_l4, pn_l5, pn_l6, pn_l7, pn_l8, pn_l9, pn_l10, pn_l11, pn_l12, pn_l16, pn_l18, pn_l20, pn_l31, pn_l32, pn_l40, pn_l45, pn_l48, pn_l51, pn_l57, pn_l59, pn_l60, pn_l62, pn_l64, pn_l69, pn_l97, pn_l98, pn_l99, pn_l100, pn_l101, pn_l105, pn_l107, pn_l108, pn_l114, pn_l115, pn_l116, pn_l117, pn_l119, pn_l126, pn_l129, pn_l240, pn_l903, pn_l1032, nI_add, pk_mul, pk_sub, nI_clamp, nI_leI, nI_ltI, nI_eq, pm_1, pm_2, pm_3, pm_4, pm_5, pm_6, pm_7, pm_8, pn_lt, pn_nlt, pn_le, pn_nle, pn_ne, pn_eq, not_true_eq_false, not_false_eq_true, true_and, and_true, false_and, and_false, true_or, or_true, false_or, or_false, or_self, and_self, ne_eq, reduceIte, if_true, if_false, Nat.add_zero, Nat.zero_add, Nat.mul_zero, Nat.reduceAdd, Nat.reduceMul, fw_wi, fw_ri, up_e, up_n1, up_n2, cp_n, bx_s, bp_s, bt_l, bt_r, lx_s, r3, c3]
      · have hm := hm M hS
        have hS : ∀ j, j < 129 → M 379 j = s j := hS
        simp (disch := omega) only [F_X9_doAddPassenger, hm, F_X9_fails, ix_i, ↓pn_m, pn_l0, pn_l1, pn_l2, pn_l3, pn_l4, pn_l5, pn_l6, pn_l7, pn_l8, pn_l9, pn_l10, pn_l11, pn_l12, pn_l16, pn_l18, pn_l20, pn_l31, pn_l32, pn_l40, pn_l45, pn_l48, pn_l51, pn_l57, pn_l59, pn_l60, pn_l62, pn_l64, pn_l69, pn_l97, pn_l98, pn_l99, pn_l100, pn_l101, pn_l105, pn_l107, pn_l108, pn_l114, pn_l115, pn_l116, pn_l117, pn_l119, pn_l126, pn_l129, pn_l240, pn_l903, pn_l1032, nI_add, pk_mul, pk_sub, nI_clamp, nI_leI, nI_ltI, nI_eq, pm_1, pm_2, pm_3, pm_4, pm_5, pm_6, pm_7, pm_8, pn_lt, pn_nlt, pn_le, pn_nle, pn_ne, pn_eq, not_true_eq_false, not_false_eq_true, true_and, and_true, false_and, and_false, true_or, or_true, false_or, or_false, or_self, and_self, ne_eq, reduceIte, if_true, if_false, Nat.add_zero, Nat.zero_add, Nat.mul_zero, Nat.reduceAdd, Nat.reduceMul, fw_wi, fw_ri, up_e, up_n1, up_n2, cp_n, bx_s, bp_s, bt_l, bt_r, lx_s, hS, c3]
        exact ⟨_, rfl, up_e rfl rfl, md_6 md_0⟩
    · obtain ⟨s1, hs1⟩ : ∃ s1, s1 = upd (upd (upd (upd (upd (upd (upd s (69 + 6 * sv s 3) (nI l)) (69 + 6 * sv s 3 + 1) mI) (69 + 6 * sv s 3 + 2) (nI 0)) (69 + 6 * sv s 3 + 3) (nI 0)) (69 + 6 * sv s 3 + 4) mI) (69 + 6 * sv s 3 + 5) (nI 0)) 3 (nI (sv s 3 + 1)) := ⟨_, rfl⟩
      have en : ∀ x, ¬ (69 + 6 * sv s 3 ≤ x ∧ x < 69 + 6 * sv s 3 + 6) ∧ x ≠ 3 → s1 x = s x := fun x h => by rw [hs1, pk_un (by omega), pk_un (by omega), pk_un (by omega), pk_un (by omega), pk_un (by omega), pk_un (by omega), pk_un (by omega)]
      have e3 : s1 3 = nI (sv s 3 + 1) := by rw [hs1, pk_us]
      have e5 : s1 (69 + 6 * sv s 3 + 5) = nI 0 := by rw [hs1, pk_un (by omega), pk_us]
      have e4 : s1 (69 + 6 * sv s 3 + 4) = mI := by rw [hs1, pk_un (by omega), pk_un (by omega), pk_us]
      have ed3 : s1 (69 + 6 * sv s 3 + 3) = nI 0 := by rw [hs1, pk_un (by omega), pk_un (by omega), pk_un (by omega), pk_us]
      have ed2 : s1 (69 + 6 * sv s 3 + 2) = nI 0 := by rw [hs1, pk_un (by omega), pk_un (by omega), pk_un (by omega), pk_un (by omega), pk_us]
      have ed1 : s1 (69 + 6 * sv s 3 + 1) = mI := by rw [hs1, pk_un (by omega), pk_un (by omega), pk_un (by omega), pk_un (by omega), pk_un (by omega), pk_us]
      have ed0 : s1 (69 + 6 * sv s 3) = nI l := by rw [hs1, pk_un (by omega), pk_un (by omega), pk_un (by omega), pk_un (by omega), pk_un (by omega), pk_un (by omega), pk_us]
      refine CmdE.good (nI (sv s 3)) s1 ?_ (fun M hR => ?_) (fun M hR => ?_) (fun M hS h6 => ?_)
      · have v3 : sv s1 3 = sv s 3 + 1 := sv_of e3 (by omega)
        have v0 : sv s1 0 = sv s 0 := sv_cong (en 0 (by omega))
        have v1 : sv s1 1 = sv s 1 := sv_cong (en 1 (by omega))
        have v2 : sv s1 2 = sv s 2 := sv_cong (en 2 (by omega))
        have v4 : sv s1 4 = sv s 4 := sv_cong (en 4 (by omega))
        refine ⟨?_, ?_, ?_, ?_, ?_, ?_, ?_, ?_⟩
        · unfold okc
          rw [v0, v1, v2, v3, v4, en 0 (by omega), en 1 (by omega), en 2 (by omega), en 4 (by omega)]
          exact ⟨⟨c0, b0⟩, ⟨c1, b1⟩, ⟨c2, b2⟩, ⟨e3, by omega⟩, c4, b4⟩
        · exact oz.c (fun x h1 h2 => en _ (by omega))
        · exact ol.c (en _ (by omega)) (fun l hl => en _ (by omega))
        · exact os.c ol (by omega) (fun x h1 h2 => en _ (by omega))
        · exact od.c ol (fun x h1 h2 => en _ (by omega))
        · exact ot.c b1 b2 (en _ (by omega)) (by omega) (fun l hl => by rw [sv_cong (en (16 + 7 * l) (by omega))]; exact Nat.le_refl _) (fun x h1 h2 => en _ (by omega))
        · intro p hp
          rw [v3] at hp
          by_cases e : p = sv s 3
          · subst e
            rw [ed1, sv_of ed0 (by omega), ed0, sv_of ed2 (by omega), ed2, sv_of ed3 (by omega), ed3, e4, v0]
            exact ⟨Or.inl ⟨rfl, rfl, hl⟩, ⟨rfl, by omega⟩, ⟨rfl, by omega⟩, Or.inl rfl⟩
          · have h1 := op p (by omega)
            rw [sv_cong (en (69 + 6 * p) (by omega)), sv_cong (en (69 + 6 * p + 1) (by omega)), sv_cong (en (69 + 6 * p + 2) (by omega)), sv_cong (en (69 + 6 * p + 3) (by omega)), sv_cong (en (69 + 6 * p + 4) (by omega)), en (69 + 6 * p) (by omega), en (69 + 6 * p + 1) (by omega), en (69 + 6 * p + 2) (by omega), en (69 + 6 * p + 3) (by omega), en (69 + 6 * p + 4) (by omega), v0, v2]
            exact h1
        · exact oq.c b4 (en _ (by omega)) (by omega) (fun x h1 h2 => en _ (by omega))
      · have hc := hc M hR
        obtain ⟨⟨r0, r1, r2, r3, r4, r5⟩, rz, rl, rs, rt, ru, rp, rq⟩ := R0 hR
        simp (disch := omega) only [F_X7_faultOfPassenger, hc, ix_i, ↓pn_m, pn_l0, pn_l1, pn_l2, pn_l3, pn_l4, pn_l5, pn_l6, pn_l7, pn_l8, pn_l9, pn_l10, pn_l11, pn_l12, pn_l16, pn_l18, pn_l20, pn_l31, pn_l32, pn_l40, pn_l45, pn_l48, pn_l51, pn_l57, pn_l59, pn_l60, pn_l62, pn_l64, pn_l69, pn_l97, pn_l98, pn_l99, pn_l100, pn_l101, pn_l105, pn_l107, pn_l108, pn_l114, pn_l115, pn_l116, pn_l117, pn_l119, pn_l126, pn_l129, pn_l240, pn_l903, pn_l1032, nI_add, pk_mul, pk_sub, nI_clamp, nI_leI, nI_ltI, nI_eq, pm_1, pm_2, pm_3, pm_4, pm_5, pm_6, pm_7, pm_8, pn_lt, pn_nlt, pn_le, pn_nle, pn_ne, pn_eq, not_true_eq_false, not_false_eq_true, true_and, and_true, false_and, and_false, true_or, or_true, false_or, or_false, or_self, and_self, ne_eq, reduceIte, if_true, if_false, Nat.add_zero, Nat.zero_add, Nat.mul_zero, Nat.reduceAdd, Nat.reduceMul, fw_wi, fw_ri, up_e, up_n1, up_n2, cp_n, bx_s, bp_s, bt_l, bt_r, lx_s, r3, c3]
      · obtain ⟨⟨r0, r1, r2, r3, r4, r5⟩, rz, rl, rs, rt, ru, rp, rq⟩ := R0 hR
        obtain ⟨Q0, Q1, Q2, Q3, Q4, Q5, Q6, Q7⟩ := hR
        simp (disch := omega) only [F_X6_putPassenger, ix_i, ↓pn_m, pn_l0, pn_l1, pn_l2, pn_l3, pn_l4, pn_l5, pn_l6, pn_l7, pn_l8, pn_l9, pn_l10, pn_l11, pn_l12, pn_l16, pn_l18, pn_l20, pn_l31, pn_l32, pn_l40, pn_l45, pn_l48, pn_l51, pn_l57, pn_l59, pn_l60, pn_l62, pn_l64, pn_l69, pn_l97, pn_l98, pn_l99, pn_l100, pn_l101, pn_l105, pn_l107, pn_l108, pn_l114, pn_l115, pn_l116, pn_l117, pn_l119, pn_l126, pn_l129, pn_l240, pn_l903, pn_l1032, nI_add, pk_mul, pk_sub, nI_clamp, nI_leI, nI_ltI, nI_eq, pm_1, pm_2, pm_3, pm_4, pm_5, pm_6, pm_7, pm_8, pn_lt, pn_nlt, pn_le, pn_nle, pn_ne, pn_eq, not_true_eq_false, not_false_eq_true, true_and, and_true, false_and, and_false, true_or, or_true, false_or, or_false, or_self, and_self, ne_eq, reduceIte, if_true, if_false, Nat.add_zero, Nat.zero_add, Nat.mul_zero, Nat.reduceAdd, Nat.reduceMul, fw_wi, fw_ri, up_e, up_n1, up_n2, cp_n, bx_s, bp_s, bt_l, bt_r, lx_s, r3, c3]
        clear hs1
        refine ⟨_, rfl, ⟨?_, ?_, ?_, ?_, ?_, ?_, ?_, ?_⟩, fun k hk => by simp (disch := omega) only [up_n1]⟩
        · unfold Rn
          simp (disch := omega) only [fw_wi, fw_ri, up_e, up_n1, up_n2, cp_n, Nat.zero_add, e3, en, r0, r1, r2, r4, r5, and_true]
        · exact Q1.c (by simp (disch := omega) only [up_n1]) (fun x h1 h2 => en _ (by omega))
        · exact Q2.c ol (by simp (disch := omega) only [up_n1]) (by simp (disch := omega) only [up_n1]) (fun x h1 h2 => en _ (by omega))
        · exact Q3.c (fun l hl => by simp (disch := omega) only [up_n1]) (fun x h1 h2 => en _ (by omega))
        · exact Q4.c (by simp (disch := omega) only [up_n1]) (by simp (disch := omega) only [up_n1]) (fun x h1 h2 => en _ (by omega))
        · exact Q5.c b2 (by simp (disch := omega) only [up_n1]) (en _ (by omega)) (fun x h1 h2 => en _ (by omega))
        · intro p hp
          by_cases e : p = sv s 3
          · subst e
            rw [ed0, ed1, ed2, ed3, e4, e5]
            simp (disch := omega) only [fw_wi, fw_ri, up_e, up_n1, up_n2, cp_n, Nat.zero_add, and_self]
          · rw [en (69 + 6 * p) (by omega), en (69 + 6 * p + 1) (by omega), en (69 + 6 * p + 2) (by omega), en (69 + 6 * p + 3) (by omega), en (69 + 6 * p + 4) (by omega), en (69 + 6 * p + 5) (by omega)]
            simp (disch := omega) only [fw_wi, fw_ri, up_e, up_n1, up_n2, cp_n, Nat.zero_add]
            exact rp p hp
        · exact Q7.c (by simp (disch := omega) only [up_n1]) (by simp (disch := omega) only [up_n1]) (fun x h1 h2 => en _ (by omega))
      · have hm := hm M hS
        have hS0 := hS
        have hS : ∀ j, j < 129 → M 379 j = s j := hS
        simp (disch := omega) only [F_X9_doAddPassenger, F_X9_sets, hm, F_X9_fails, ix_i, ↓pn_m, pn_l0, pn_l1, pn_l2, pn_l3, pn_l4, pn_l5, pn_l6, pn_l7, pn_l8, pn_l9, pn_l10, pn_l11, pn_l12, pn_l16, pn_l18, pn_l20, pn_l31, pn_l32, pn_l40, pn_l45, pn_l48, pn_l51, pn_l57, pn_l59, pn_l60, pn_l62, pn_l64, pn_l69, pn_l97, pn_l98, pn_l99, pn_l100, pn_l101, pn_l105, pn_l107, pn_l108, pn_l114, pn_l115, pn_l116, pn_l117, pn_l119, pn_l126, pn_l129, pn_l240, pn_l903, pn_l1032, nI_add, pk_mul, pk_sub, nI_clamp, nI_leI, nI_ltI, nI_eq, pm_1, pm_2, pm_3, pm_4, pm_5, pm_6, pm_7, pm_8, pn_lt, pn_nlt, pn_le, pn_nle, pn_ne, pn_eq, not_true_eq_false, not_false_eq_true, true_and, and_true, false_and, and_false, true_or, or_true, false_or, or_false, or_self, and_self, ne_eq, reduceIte, if_true, if_false, Nat.add_zero, Nat.zero_add, Nat.mul_zero, Nat.reduceAdd, Nat.reduceMul, fw_wi, fw_ri, up_e, up_n1, up_n2, cp_n, bx_s, bp_s, bt_l, bt_r, lx_s, hS, c3]
        refine ⟨_, rfl, ?_, by simp (disch := omega) only [up_n1, h6], by repeat first | exact md_0 | refine md_9 ?_⟩
        rw [hs1]
        exact Sm_u (Sm_u (Sm_u (Sm_u (Sm_u (Sm_u (Sm_u hS0))))))
  · refine CmdE.bad 1 1 (by omega) (by omega) (by decide) (fun M hR => ?_) (fun M hS h6 => ?_)
    · obtain ⟨⟨r0, r1, -⟩, -⟩ := R0 hR
      have e1 : F_X3_hasStop M 1 a = some (nI 0) := hs_Stop ho (r0.trans c0)
      simp (disch := omega) only [F_X7_faultOfPassenger, e1, ix_i, ↓pn_m, pn_l0, pn_l1, pn_l2, pn_l3, pn_l4, pn_l5, pn_l6, pn_l7, pn_l8, pn_l9, pn_l10, pn_l11, pn_l12, pn_l16, pn_l18, pn_l20, pn_l31, pn_l32, pn_l40, pn_l45, pn_l48, pn_l51, pn_l57, pn_l59, pn_l60, pn_l62, pn_l64, pn_l69, pn_l97, pn_l98, pn_l99, pn_l100, pn_l101, pn_l105, pn_l107, pn_l108, pn_l114, pn_l115, pn_l116, pn_l117, pn_l119, pn_l126, pn_l129, pn_l240, pn_l903, pn_l1032, nI_add, pk_mul, pk_sub, nI_clamp, nI_leI, nI_ltI, nI_eq, pm_1, pm_2, pm_3, pm_4, pm_5, pm_6, pm_7, pm_8, pn_lt, pn_nlt, pn_le, pn_nle, pn_ne, pn_eq, not_true_eq_false, not_false_eq_true, true_and, and_true, false_and, and_false, true_or, or_true, false_or, or_false, or_self, and_self, ne_eq, reduceIte, if_true, if_false, Nat.add_zero, Nat.zero_add, Nat.mul_zero, Nat.reduceAdd, Nat.reduceMul, fw_wi, fw_ri, up_e, up_n1, up_n2, cp_n, bx_s, bp_s, bt_l, bt_r, lx_s]
    · have e1 : F_X9_isStop M a = some (nI 0) := is_Stop ho (by omega) ((hS 0 (by omega)).trans c0)
      simp (disch := omega) only [F_X9_doAddPassenger, e1, F_X9_fails, ix_i, ↓pn_m, pn_l0, pn_l1, pn_l2, pn_l3, pn_l4, pn_l5, pn_l6, pn_l7, pn_l8, pn_l9, pn_l10, pn_l11, pn_l12, pn_l16, pn_l18, pn_l20, pn_l31, pn_l32, pn_l40, pn_l45, pn_l48, pn_l51, pn_l57, pn_l59, pn_l60, pn_l62, pn_l64, pn_l69, pn_l97, pn_l98, pn_l99, pn_l100, pn_l101, pn_l105, pn_l107, pn_l108, pn_l114, pn_l115, pn_l116, pn_l117, pn_l119, pn_l126, pn_l129, pn_l240, pn_l903, pn_l1032, nI_add, pk_mul, pk_sub, nI_clamp, nI_leI, nI_ltI, nI_eq, pm_1, pm_2, pm_3, pm_4, pm_5, pm_6, pm_7, pm_8, pn_lt, pn_nlt, pn_le, pn_nle, pn_ne, pn_eq, not_true_eq_false, not_false_eq_true, true_and, and_true, false_and, and_false, true_or, or_true, false_or, or_false, or_self, and_self, ne_eq, reduceIte, if_true, if_false, Nat.add_zero, Nat.zero_add, Nat.mul_zero, Nat.reduceAdd, Nat.reduceMul, fw_wi, fw_ri, up_e, up_n1, up_n2, cp_n, bx_s, bp_s, bt_l, bt_r, lx_s]
      exact ⟨_, rfl, up_e rfl rfl, md_6 md_0⟩
/-! 8: secret -/
theorem c_secr {s : Nat → Int32} (hk : ok s) (a : Int32) : CmdE [0, 2] s (fun M => F_X7_faultOfSecret M 0 a) (fun M => F_X2_putSecret M 22 a) (fun M => F_X9_doAddSecret M a) := by
  have hk0 := hk
  obtain ⟨⟨⟨c0, b0⟩, ⟨c1, b1⟩, ⟨c2, b2⟩, ⟨c3, b3⟩, c4, b4⟩, oz, ol, os, od, ot, op, oq⟩ := hk
  rcases px_o a (n := sv s 3) (by omega) with ⟨l, hl, rfl⟩ | ho
  · have hc : ∀ M, R M 0 s → F_X6_hasPassenger M 15 (nI l) = some (nI 1) := fun M hR => by
      obtain ⟨⟨r0, r1, r2, r3, r4, r5⟩, rz, rl, rs, rt, ru, rp, rq⟩ := R0 hR
      exact ht_Passenger hl (by omega) (r3.trans c3)
    have hm : ∀ M, Sm M s → F_X9_isPassenger M (nI l) = some (nI 1) := fun M hS => it_Passenger hl (by omega) ((hS 3 (by omega)).trans c3)
    have f1 : nI 1 <<< (nI l &&& nI 31) = nI (2 ^ l) := sh_1 l (by omega)
    have p256 : 2 ^ l < 256 := show 2 ^ l < 2 ^ 8 from Nat.pow_lt_pow_right (by decide) (by omega)
    by_cases hn : sv s 4 = 6
    · refine CmdE.bad 3 2 (by omega) (by omega) (by decide) (fun M hR => ?_) (fun M hS h6 => ?_)
      · have hc := hc M hR
        obtain ⟨⟨r0, r1, r2, r3, r4, r5⟩, rz, rl, rs, rt, ru, rp, rq⟩ := R0 hR
        simp (disch := omega) only [F_X7_faultOfSecret, hc, ix_i, ↓pn_m, pn_l0, pn_l1, pn_l2, pn_l3, pn_l4, pn_l5, pn_l6, pn_l7, pn_l8, pn_l9, pn_l10, pn_l11, pn_l12, pn_l16, pn_l18, pn_l20, pn_l31, pn_l32, pn_l40, pn_l45, pn_l48, pn_l51, pn_l57, pn_l59, pn_l60, pn_l62, pn_l64, pn_l69, pn_l97, pn_l98, pn_l99, pn_l100, pn_l101, pn_l105, pn_l107, pn_l108, pn_l114, pn_l115, pn_l116, pn_l117, pn_l119, pn_l126, pn_l129, pn_l240, pn_l903, pn_l1032, nI_add, pk_mul, pk_sub, nI_clamp, nI_leI, nI_ltI, nI_eq, pm_1, pm_2, pm_3, pm_4, pm_5, pm_6, pm_7, pm_8, pn_lt, pn_nlt, pn_le, pn_nle, pn_ne, pn_eq, not_true_eq_false, not_false_eq_true, true_and, and_true, false_and, and_false, true_or, or_true, false_or, or_false, or_self, and_self, ne_eq, reduceIte, if_true, if_false, Nat.add_zero, Nat.zero_add, Nat.mul_zero, Nat.reduceAdd, Nat.reduceMul, fw_wi, fw_ri, up_e, up_n1, up_n2, cp_n, bx_s, bp_s, bt_l, bt_r, lx_s, r4, c4]
      · have hm := hm M hS
        have hS : ∀ j, j < 129 → M 379 j = s j := hS
        simp (disch := omega) only [F_X9_doAddSecret, hm, F_X9_fails, ix_i, ↓pn_m, pn_l0, pn_l1, pn_l2, pn_l3, pn_l4, pn_l5, pn_l6, pn_l7, pn_l8, pn_l9, pn_l10, pn_l11, pn_l12, pn_l16, pn_l18, pn_l20, pn_l31, pn_l32, pn_l40, pn_l45, pn_l48, pn_l51, pn_l57, pn_l59, pn_l60, pn_l62, pn_l64, pn_l69, pn_l97, pn_l98, pn_l99, pn_l100, pn_l101, pn_l105, pn_l107, pn_l108, pn_l114, pn_l115, pn_l116, pn_l117, pn_l119, pn_l126, pn_l129, pn_l240, pn_l903, pn_l1032, nI_add, pk_mul, pk_sub, nI_clamp, nI_leI, nI_ltI, nI_eq, pm_1, pm_2, pm_3, pm_4, pm_5, pm_6, pm_7, pm_8, pn_lt, pn_nlt, pn_le, pn_nle, pn_ne, pn_eq, not_true_eq_false, not_false_eq_true, true_and, and_true, false_and, and_false, true_or, or_true, false_or, or_false, or_self, and_self, ne_eq, reduceIte, if_true, if_false, Nat.add_zero, Nat.zero_add, Nat.mul_zero, Nat.reduceAdd, Nat.reduceMul, fw_wi, fw_ri, up_e, up_n1, up_n2, cp_n, bx_s, bp_s, bt_l, bt_r, lx_s, hS, c4]
        exact ⟨_, rfl, up_e rfl rfl, md_6 md_0⟩
    · obtain ⟨s1, hs1⟩ : ∃ s1, s1 = upd (upd (upd s (117 + 2 * sv s 4) (nI l)) (117 + 2 * sv s 4 + 1) (nI (2 ^ l))) 4 (nI (sv s 4 + 1)) := ⟨_, rfl⟩
      have en : ∀ x, ¬ (117 + 2 * sv s 4 ≤ x ∧ x < 117 + 2 * sv s 4 + 2) ∧ x ≠ 4 → s1 x = s x := fun x h => by rw [hs1, pk_un (by omega), pk_un (by omega), pk_un (by omega)]
      have e4 : s1 4 = nI (sv s 4 + 1) := by rw [hs1, pk_us]
      have ed1 : s1 (117 + 2 * sv s 4 + 1) = nI (2 ^ l) := by rw [hs1, pk_un (by omega), pk_us]
      have ed0 : s1 (117 + 2 * sv s 4) = nI l := by rw [hs1, pk_un (by omega), pk_un (by omega), pk_us]
      refine CmdE.good (nI (sv s 4)) s1 ?_ (fun M hR => ?_) (fun M hR => ?_) (fun M hS h6 => ?_)
      · have v4 : sv s1 4 = sv s 4 + 1 := sv_of e4 (by omega)
        have v0 : sv s1 0 = sv s 0 := sv_cong (en 0 (by omega))
        have v1 : sv s1 1 = sv s 1 := sv_cong (en 1 (by omega))
        have v2 : sv s1 2 = sv s 2 := sv_cong (en 2 (by omega))
        have v3 : sv s1 3 = sv s 3 := sv_cong (en 3 (by omega))
        refine ⟨?_, ?_, ?_, ?_, ?_, ?_, ?_, ?_⟩
        · unfold okc
          rw [v0, v1, v2, v3, v4, en 0 (by omega), en 1 (by omega), en 2 (by omega), en 3 (by omega)]
          exact ⟨⟨c0, b0⟩, ⟨c1, b1⟩, ⟨c2, b2⟩, ⟨c3, b3⟩, e4, by omega⟩
        · exact oz.c (fun x h1 h2 => en _ (by omega))
        · exact ol.c (en _ (by omega)) (fun l hl => en _ (by omega))
        · exact os.c ol (by omega) (fun x h1 h2 => en _ (by omega))
        · exact od.c ol (fun x h1 h2 => en _ (by omega))
        · exact ot.c b1 b2 (en _ (by omega)) (by omega) (fun l hl => by rw [sv_cong (en (16 + 7 * l) (by omega))]; exact Nat.le_refl _) (fun x h1 h2 => en _ (by omega))
        · exact op.c b3 (en _ (by omega)) (by omega) (by omega) (fun x h1 h2 => en _ (by omega))
        · intro p hp
          rw [v4] at hp
          by_cases e : p = sv s 4
          · subst e
            rw [sv_of ed1 (by omega), sv_of ed0 (by omega), ed0, ed1, v3]
            exact ⟨⟨rfl, p256⟩, Or.inr ⟨rfl, hl, by rw [Nat.testBit_two_pow]; exact decide_eq_true rfl⟩⟩
          · have h1 := oq p (by omega)
            rw [sv_cong (en (117 + 2 * p) (by omega)), sv_cong (en (117 + 2 * p + 1) (by omega)), en (117 + 2 * p) (by omega), en (117 + 2 * p + 1) (by omega), v3]
            exact h1
      · have hc := hc M hR
        obtain ⟨⟨r0, r1, r2, r3, r4, r5⟩, rz, rl, rs, rt, ru, rp, rq⟩ := R0 hR
        simp (disch := omega) only [F_X7_faultOfSecret, hc, ix_i, ↓pn_m, pn_l0, pn_l1, pn_l2, pn_l3, pn_l4, pn_l5, pn_l6, pn_l7, pn_l8, pn_l9, pn_l10, pn_l11, pn_l12, pn_l16, pn_l18, pn_l20, pn_l31, pn_l32, pn_l40, pn_l45, pn_l48, pn_l51, pn_l57, pn_l59, pn_l60, pn_l62, pn_l64, pn_l69, pn_l97, pn_l98, pn_l99, pn_l100, pn_l101, pn_l105, pn_l107, pn_l108, pn_l114, pn_l115, pn_l116, pn_l117, pn_l119, pn_l126, pn_l129, pn_l240, pn_l903, pn_l1032, nI_add, pk_mul, pk_sub, nI_clamp, nI_leI, nI_ltI, nI_eq, pm_1, pm_2, pm_3, pm_4, pm_5, pm_6, pm_7, pm_8, pn_lt, pn_nlt, pn_le, pn_nle, pn_ne, pn_eq, not_true_eq_false, not_false_eq_true, true_and, and_true, false_and, and_false, true_or, or_true, false_or, or_false, or_self, and_self, ne_eq, reduceIte, if_true, if_false, Nat.add_zero, Nat.zero_add, Nat.mul_zero, Nat.reduceAdd, Nat.reduceMul, fw_wi, fw_ri, up_e, up_n1, up_n2, cp_n, bx_s, bp_s, bt_l, bt_r, lx_s, r4, c4]
      · obtain ⟨⟨r0, r1, r2, r3, r4, r5⟩, rz, rl, rs, rt, ru, rp, rq⟩ := R0 hR
        obtain ⟨Q0, Q1, Q2, Q3, Q4, Q5, Q6, Q7⟩ := hR
        simp (disch := omega) only [F_X2_putSecret, ix_i, ↓pn_m, pn_l0, pn_l1, pn_l2, pn_l3, pn_l4, pn_l5, pn_l6, pn_l7, pn_l8, pn_l9, pn_l10, pn_l11, pn_l12, pn_l16, pn_l18, pn_l20, pn_l31, pn_l32, pn_l40, pn_l45, pn_l48, pn_l51, pn_l57, pn_l59, pn_l60, pn_l62, pn_l64, pn_l69, pn_l97, pn_l98, pn_l99, pn_l100, pn_l101, pn_l105, pn_l107, pn_l108, pn_l114, pn_l115, pn_l116, pn_l117, pn_l119, pn_l126, pn_l129, pn_l240, pn_l903, pn_l1032, nI_add, pk_mul, pk_sub, nI_clamp, nI_leI, nI_ltI, nI_eq, pm_1, pm_2, pm_3, pm_4, pm_5, pm_6, pm_7, pm_8, pn_lt, pn_nlt, pn_le, pn_nle, pn_ne, pn_eq, not_true_eq_false, not_false_eq_true, true_and, and_true, false_and, and_false, true_or, or_true, false_or, or_false, or_self, and_self, ne_eq, reduceIte, if_true, if_false, Nat.add_zero, Nat.zero_add, Nat.mul_zero, Nat.reduceAdd, Nat.reduceMul, fw_wi, fw_ri, up_e, up_n1, up_n2, cp_n, bx_s, bp_s, bt_l, bt_r, lx_s, r4, c4, f1, Nat.add_sub_cancel]
        clear hs1
        refine ⟨_, rfl, ⟨?_, ?_, ?_, ?_, ?_, ?_, ?_, ?_⟩, fun k hk => by simp (disch := omega) only [up_n1]⟩
        · unfold Rn
          simp (disch := omega) only [fw_wi, fw_ri, up_e, up_n1, up_n2, cp_n, Nat.zero_add, e4, en, r0, r1, r2, r3, r5, and_true]
        · exact Q1.c (by simp (disch := omega) only [up_n1]) (fun x h1 h2 => en _ (by omega))
        · exact Q2.c ol (by simp (disch := omega) only [up_n1]) (by simp (disch := omega) only [up_n1]) (fun x h1 h2 => en _ (by omega))
        · exact Q3.c (fun l hl => by simp (disch := omega) only [up_n1]) (fun x h1 h2 => en _ (by omega))
        · exact Q4.c (by simp (disch := omega) only [up_n1]) (by simp (disch := omega) only [up_n1]) (fun x h1 h2 => en _ (by omega))
        · exact Q5.c b2 (by simp (disch := omega) only [up_n1]) (en _ (by omega)) (fun x h1 h2 => en _ (by omega))
        · exact Q6.c (fun k h1 h2 => by simp (disch := omega) only [up_n1]) (fun x h1 h2 => en _ (by omega))
        · intro p hp
          by_cases e : p = sv s 4
          · subst e
            rw [ed0, ed1]
            simp (disch := omega) only [fw_wi, fw_ri, up_e, up_n1, up_n2, cp_n, Nat.zero_add, and_self]
          · rw [en (117 + 2 * p) (by omega), en (117 + 2 * p + 1) (by omega)]
            simp (disch := omega) only [fw_wi, fw_ri, up_e, up_n1, up_n2, cp_n, Nat.zero_add]
            exact rq p hp
      · have hm := hm M hS
        have hS0 := hS
        have hS : ∀ j, j < 129 → M 379 j = s j := hS
        simp (disch := omega) only [F_X9_doAddSecret, hm, F_X9_fails, ix_i, ↓pn_m, pn_l0, pn_l1, pn_l2, pn_l3, pn_l4, pn_l5, pn_l6, pn_l7, pn_l8, pn_l9, pn_l10, pn_l11, pn_l12, pn_l16, pn_l18, pn_l20, pn_l31, pn_l32, pn_l40, pn_l45, pn_l48, pn_l51, pn_l57, pn_l59, pn_l60, pn_l62, pn_l64, pn_l69, pn_l97, pn_l98, pn_l99, pn_l100, pn_l101, pn_l105, pn_l107, pn_l108, pn_l114, pn_l115, pn_l116, pn_l117, pn_l119, pn_l126, pn_l129, pn_l240, pn_l903, pn_l1032, nI_add, pk_mul, pk_sub, nI_clamp, nI_leI, nI_ltI, nI_eq, pm_1, pm_2, pm_3, pm_4, pm_5, pm_6, pm_7, pm_8, pn_lt, pn_nlt, pn_le, pn_nle, pn_ne, pn_eq, not_true_eq_false, not_false_eq_true, true_and, and_true, false_and, and_false, true_or, or_true, false_or, or_false, or_self, and_self, ne_eq, reduceIte, if_true, if_false, Nat.add_zero, Nat.zero_add, Nat.mul_zero, Nat.reduceAdd, Nat.reduceMul, fw_wi, fw_ri, up_e, up_n1, up_n2, cp_n, bx_s, bp_s, bt_l, bt_r, lx_s, hS, c4, f1]
        refine ⟨_, rfl, ?_, by simp (disch := omega) only [up_n1, h6], by repeat first | exact md_0 | refine md_9 ?_⟩
        rw [hs1]
        exact Sm_u (Sm_u (Sm_u hS0))
  · refine CmdE.bad 1 1 (by omega) (by omega) (by decide) (fun M hR => ?_) (fun M hS h6 => ?_)
    · obtain ⟨⟨r0, r1, r2, r3, r4, r5⟩, rz, rl, rs, rt, ru, rp, rq⟩ := R0 hR
      have e1 : F_X6_hasPassenger M 15 a = some (nI 0) := hs_Passenger ho (r3.trans c3)
      simp (disch := omega) only [F_X7_faultOfSecret, e1, ix_i, ↓pn_m, pn_l0, pn_l1, pn_l2, pn_l3, pn_l4, pn_l5, pn_l6, pn_l7, pn_l8, pn_l9, pn_l10, pn_l11, pn_l12, pn_l16, pn_l18, pn_l20, pn_l31, pn_l32, pn_l40, pn_l45, pn_l48, pn_l51, pn_l57, pn_l59, pn_l60, pn_l62, pn_l64, pn_l69, pn_l97, pn_l98, pn_l99, pn_l100, pn_l101, pn_l105, pn_l107, pn_l108, pn_l114, pn_l115, pn_l116, pn_l117, pn_l119, pn_l126, pn_l129, pn_l240, pn_l903, pn_l1032, nI_add, pk_mul, pk_sub, nI_clamp, nI_leI, nI_ltI, nI_eq, pm_1, pm_2, pm_3, pm_4, pm_5, pm_6, pm_7, pm_8, pn_lt, pn_nlt, pn_le, pn_nle, pn_ne, pn_eq, not_true_eq_false, not_false_eq_true, true_and, and_true, false_and, and_false, true_or, or_true, false_or, or_false, or_self, and_self, ne_eq, reduceIte, if_true, if_false, Nat.add_zero, Nat.zero_add, Nat.mul_zero, Nat.reduceAdd, Nat.reduceMul, fw_wi, fw_ri, up_e, up_n1, up_n2, cp_n, bx_s, bp_s, bt_l, bt_r, lx_s]
    · have e1 : F_X9_isPassenger M a = some (nI 0) := is_Passenger ho (by omega) ((hS 3 (by omega)).trans c3)
      simp (disch := omega) only [F_X9_doAddSecret, e1, F_X9_fails, ix_i, ↓pn_m, pn_l0, pn_l1, pn_l2, pn_l3, pn_l4, pn_l5, pn_l6, pn_l7, pn_l8, pn_l9, pn_l10, pn_l11, pn_l12, pn_l16, pn_l18, pn_l20, pn_l31, pn_l32, pn_l40, pn_l45, pn_l48, pn_l51, pn_l57, pn_l59, pn_l60, pn_l62, pn_l64, pn_l69, pn_l97, pn_l98, pn_l99, pn_l100, pn_l101, pn_l105, pn_l107, pn_l108, pn_l114, pn_l115, pn_l116, pn_l117, pn_l119, pn_l126, pn_l129, pn_l240, pn_l903, pn_l1032, nI_add, pk_mul, pk_sub, nI_clamp, nI_leI, nI_ltI, nI_eq, pm_1, pm_2, pm_3, pm_4, pm_5, pm_6, pm_7, pm_8, pn_lt, pn_nlt, pn_le, pn_nle, pn_ne, pn_eq, not_true_eq_false, not_false_eq_true, true_and, and_true, false_and, and_false, true_or, or_true, false_or, or_false, or_self, and_self, ne_eq, reduceIte, if_true, if_false, Nat.add_zero, Nat.zero_add, Nat.mul_zero, Nat.reduceAdd, Nat.reduceMul, fw_wi, fw_ri, up_e, up_n1, up_n2, cp_n, bx_s, bp_s, bt_l, bt_r, lx_s]
      exact ⟨_, rfl, up_e rfl rfl, md_6 md_0⟩
/-! 6: ticket -/
theorem c_tick {s : Nat → Int32} (hk : ok s) (a z r : Int32) : CmdE [0, 1, 2] s (fun M => F_X7_faultOfTicket M 0 a z r) (fun M => F_X6_addToTicket M 15 a z r) (fun M => F_X9_doSellTicket M a z r) := by
  have hk0 := hk
  obtain ⟨⟨⟨c0, b0⟩, ⟨c1, b1⟩, ⟨c2, b2⟩, ⟨c3, b3⟩, c4, b4⟩, oz, ol, os, od, ot, op, oq⟩ := hk
  rcases px_o a (n := sv s 3) (by omega) with ⟨p, hp, rfl⟩ | ho
  · have hc : ∀ M, R M 0 s → F_X6_hasPassenger M 15 (nI p) = some (nI 1) := fun M hR => by
      obtain ⟨⟨r0, r1, r2, r3, r4, r5⟩, rz, rl, rs, rt, ru, rp, rq⟩ := R0 hR
      exact ht_Passenger hp (by omega) (r3.trans c3)
    have hm : ∀ M, Sm M s → F_X9_isPassenger M (nI p) = some (nI 1) := fun M hS => it_Passenger hp (by omega) ((hS 3 (by omega)).trans c3)
    obtain ⟨p1, ⟨p2, p2b⟩, ⟨p3, p3b⟩, p4⟩ := op p hp
    rcases px_o z (n := 4) (by omega) with ⟨k, hz, rfl⟩ | hz
    · by_cases hr1 : r < nI 1
      · refine CmdE.bad 2 2 (by omega) (by omega) (by decide) (fun M hR => ?_) (fun M hS h6 => ?_)
        · simp (disch := omega) only [F_X7_faultOfTicket, hc M hR, iz_t hz, ix_i, ↓pn_m, pn_l0, pn_l1, pn_l2, pn_l3, pn_l4, pn_l5, pn_l6, pn_l7, pn_l8, pn_l9, pn_l10, pn_l11, pn_l12, pn_l16, pn_l18, pn_l20, pn_l31, pn_l32, pn_l40, pn_l45, pn_l48, pn_l51, pn_l57, pn_l59, pn_l60, pn_l62, pn_l64, pn_l69, pn_l97, pn_l98, pn_l99, pn_l100, pn_l101, pn_l105, pn_l107, pn_l108, pn_l114, pn_l115, pn_l116, pn_l117, pn_l119, pn_l126, pn_l129, pn_l240, pn_l903, pn_l1032, nI_add, pk_mul, pk_sub, nI_clamp, nI_leI, nI_ltI, nI_eq, pm_1, pm_2, pm_3, pm_4, pm_5, pm_6, pm_7, pm_8, pn_lt, pn_nlt, pn_le, pn_nle, pn_ne, pn_eq, not_true_eq_false, not_false_eq_true, true_and, and_true, false_and, and_false, true_or, or_true, false_or, or_false, or_self, and_self, ne_eq, reduceIte, if_true, if_false, Nat.add_zero, Nat.zero_add, Nat.mul_zero, Nat.reduceAdd, Nat.reduceMul, fw_wi, fw_ri, up_e, up_n1, up_n2, cp_n, bx_s, bp_s, bt_l, bt_r, lx_s, hr1]
        · have e1 : F_X9_in M r (nI 1) (nI 9) = some (nI 0) := if_pos hr1
          simp (disch := omega) only [F_X9_doSellTicket, hm M hS, in_z hz, e1, F_X9_fails, ix_i, ↓pn_m, pn_l0, pn_l1, pn_l2, pn_l3, pn_l4, pn_l5, pn_l6, pn_l7, pn_l8, pn_l9, pn_l10, pn_l11, pn_l12, pn_l16, pn_l18, pn_l20, pn_l31, pn_l32, pn_l40, pn_l45, pn_l48, pn_l51, pn_l57, pn_l59, pn_l60, pn_l62, pn_l64, pn_l69, pn_l97, pn_l98, pn_l99, pn_l100, pn_l101, pn_l105, pn_l107, pn_l108, pn_l114, pn_l115, pn_l116, pn_l117, pn_l119, pn_l126, pn_l129, pn_l240, pn_l903, pn_l1032, nI_add, pk_mul, pk_sub, nI_clamp, nI_leI, nI_ltI, nI_eq, pm_1, pm_2, pm_3, pm_4, pm_5, pm_6, pm_7, pm_8, pn_lt, pn_nlt, pn_le, pn_nle, pn_ne, pn_eq, not_true_eq_false, not_false_eq_true, true_and, and_true, false_and, and_false, true_or, or_true, false_or, or_false, or_self, and_self, ne_eq, reduceIte, if_true, if_false, Nat.add_zero, Nat.zero_add, Nat.mul_zero, Nat.reduceAdd, Nat.reduceMul, fw_wi, fw_ri, up_e, up_n1, up_n2, cp_n, bx_s, bp_s, bt_l, bt_r, lx_s]
          exact ⟨_, rfl, up_e rfl rfl, md_6 md_0⟩
      · by_cases hr9 : nI 9 < r
        · refine CmdE.bad 2 2 (by omega) (by omega) (by decide) (fun M hR => ?_) (fun M hS h6 => ?_)
          · have h9 : ¬ r ≤ nI 9 := fun q => by
              rw [Int32.le_iff_toInt_le] at q
              rw [Int32.lt_iff_toInt_lt] at hr9
              omega
            simp (disch := omega) only [F_X7_faultOfTicket, hc M hR, iz_t hz, ix_i, ↓pn_m, pn_l0, pn_l1, pn_l2, pn_l3, pn_l4, pn_l5, pn_l6, pn_l7, pn_l8, pn_l9, pn_l10, pn_l11, pn_l12, pn_l16, pn_l18, pn_l20, pn_l31, pn_l32, pn_l40, pn_l45, pn_l48, pn_l51, pn_l57, pn_l59, pn_l60, pn_l62, pn_l64, pn_l69, pn_l97, pn_l98, pn_l99, pn_l100, pn_l101, pn_l105, pn_l107, pn_l108, pn_l114, pn_l115, pn_l116, pn_l117, pn_l119, pn_l126, pn_l129, pn_l240, pn_l903, pn_l1032, nI_add, pk_mul, pk_sub, nI_clamp, nI_leI, nI_ltI, nI_eq, pm_1, pm_2, pm_3, pm_4, pm_5, pm_6, pm_7, pm_8, pn_lt, pn_nlt, pn_le, pn_nle, pn_ne, pn_eq, not_true_eq_false, not_false_eq_true, true_and, and_true, false_and, and_false, true_or, or_true, false_or, or_false, or_self, and_self, ne_eq, reduceIte, if_true, if_false, Nat.add_zero, Nat.zero_add, Nat.mul_zero, Nat.reduceAdd, Nat.reduceMul, fw_wi, fw_ri, up_e, up_n1, up_n2, cp_n, bx_s, bp_s, bt_l, bt_r, lx_s, hr1, h9]
          · have e1 : F_X9_in M r (nI 1) (nI 9) = some (nI 0) := by
              unfold F_X9_in
              rw [if_neg hr1, if_pos hr9]
              rfl
            simp (disch := omega) only [F_X9_doSellTicket, hm M hS, in_z hz, e1, F_X9_fails, ix_i, ↓pn_m, pn_l0, pn_l1, pn_l2, pn_l3, pn_l4, pn_l5, pn_l6, pn_l7, pn_l8, pn_l9, pn_l10, pn_l11, pn_l12, pn_l16, pn_l18, pn_l20, pn_l31, pn_l32, pn_l40, pn_l45, pn_l48, pn_l51, pn_l57, pn_l59, pn_l60, pn_l62, pn_l64, pn_l69, pn_l97, pn_l98, pn_l99, pn_l100, pn_l101, pn_l105, pn_l107, pn_l108, pn_l114, pn_l115, pn_l116, pn_l117, pn_l119, pn_l126, pn_l129, pn_l240, pn_l903, pn_l1032, nI_add, pk_mul, pk_sub, nI_clamp, nI_leI, nI_ltI, nI_eq, pm_1, pm_2, pm_3, pm_4, pm_5, pm_6, pm_7, pm_8, pn_lt, pn_nlt, pn_le, pn_nle, pn_ne, pn_eq, not_true_eq_false, not_false_eq_true, true_and, and_true, false_and, and_false, true_or, or_true, false_or, or_false, or_self, and_self, ne_eq, reduceIte, if_true, if_false, Nat.add_zero, Nat.zero_add, Nat.mul_zero, Nat.reduceAdd, Nat.reduceMul, fw_wi, fw_ri, up_e, up_n1, up_n2, cp_n, bx_s, bp_s, bt_l, bt_r, lx_s]
            exact ⟨_, rfl, up_e rfl rfl, md_6 md_0⟩
        · obtain ⟨x, hx9, rfl⟩ : ∃ x : Nat, x ≤ 9 ∧ r = nI x := by
            refine nI_of2 (M := nI 9) (by decide) (fun q => hr1 ?_) ?_
            · rw [Int32.lt_iff_toInt_lt] at q ⊢
              have h0 : (0 : Int32).toInt = 0 := by decide
              have h1 : (nI 1).toInt = 1 := by decide
              omega
            · rw [Int32.le_iff_toInt_le]
              rw [Int32.lt_iff_toInt_lt] at hr9
              omega
          have hx1 : 1 ≤ x := by
            refine Decidable.byContradiction (fun q => hr1 (nI_lt (by omega) (by omega)))
          by_cases hn : 20 < sv s (69 + 6 * p + 3) + x
          · refine CmdE.bad 3 3 (by omega) (by omega) (by decide) (fun M hR => ?_) (fun M hS h6 => ?_)
            · have hc := hc M hR
              obtain ⟨⟨r0, r1, r2, r3, r4, r5⟩, rz, rl, rs, rt, ru, rp, rq⟩ := R0 hR
              simp (disch := omega) only [F_X7_faultOfTicket, hc, iz_t hz, ix_i, ↓pn_m, pn_l0, pn_l1, pn_l2, pn_l3, pn_l4, pn_l5, pn_l6, pn_l7, pn_l8, pn_l9, pn_l10, pn_l11, pn_l12, pn_l16, pn_l18, pn_l20, pn_l31, pn_l32, pn_l40, pn_l45, pn_l48, pn_l51, pn_l57, pn_l59, pn_l60, pn_l62, pn_l64, pn_l69, pn_l97, pn_l98, pn_l99, pn_l100, pn_l101, pn_l105, pn_l107, pn_l108, pn_l114, pn_l115, pn_l116, pn_l117, pn_l119, pn_l126, pn_l129, pn_l240, pn_l903, pn_l1032, nI_add, pk_mul, pk_sub, nI_clamp, nI_leI, nI_ltI, nI_eq, pm_1, pm_2, pm_3, pm_4, pm_5, pm_6, pm_7, pm_8, pn_lt, pn_nlt, pn_le, pn_nle, pn_ne, pn_eq, not_true_eq_false, not_false_eq_true, true_and, and_true, false_and, and_false, true_or, or_true, false_or, or_false, or_self, and_self, ne_eq, reduceIte, if_true, if_false, Nat.add_zero, Nat.zero_add, Nat.mul_zero, Nat.reduceAdd, Nat.reduceMul, fw_wi, fw_ri, up_e, up_n1, up_n2, cp_n, bx_s, bp_s, bt_l, bt_r, lx_s, rp, p3]
            · have hm := hm M hS
              have hS : ∀ j, j < 129 → M 379 j = s j := hS
              simp (disch := omega) only [F_X9_doSellTicket, hm, in_z hz, F_X9_in, F_X9_ofPassenger, F_X9_fails, ix_i, ↓pn_m, pn_l0, pn_l1, pn_l2, pn_l3, pn_l4, pn_l5, pn_l6, pn_l7, pn_l8, pn_l9, pn_l10, pn_l11, pn_l12, pn_l16, pn_l18, pn_l20, pn_l31, pn_l32, pn_l40, pn_l45, pn_l48, pn_l51, pn_l57, pn_l59, pn_l60, pn_l62, pn_l64, pn_l69, pn_l97, pn_l98, pn_l99, pn_l100, pn_l101, pn_l105, pn_l107, pn_l108, pn_l114, pn_l115, pn_l116, pn_l117, pn_l119, pn_l126, pn_l129, pn_l240, pn_l903, pn_l1032, nI_add, pk_mul, pk_sub, nI_clamp, nI_leI, nI_ltI, nI_eq, pm_1, pm_2, pm_3, pm_4, pm_5, pm_6, pm_7, pm_8, pn_lt, pn_nlt, pn_le, pn_nle, pn_ne, pn_eq, not_true_eq_false, not_false_eq_true, true_and, and_true, false_and, and_false, true_or, or_true, false_or, or_false, or_self, and_self, ne_eq, reduceIte, if_true, if_false, Nat.add_zero, Nat.zero_add, Nat.mul_zero, Nat.reduceAdd, Nat.reduceMul, fw_wi, fw_ri, up_e, up_n1, up_n2, cp_n, bx_s, bp_s, bt_l, bt_r, lx_s, hS, p3]
              exact ⟨_, rfl, up_e rfl rfl, md_6 md_0⟩
          · have f1 : nI (sv s (69 + 6 * p + 2)) ||| (nI 1 <<< (nI k &&& nI 31)) = nI (sv s (69 + 6 * p + 2) ||| 2 ^ k) := sh_or (by omega)
            have hlt : sv s (69 + 6 * p + 2) ||| 2 ^ k < 16 := Nat.or_lt_two_pow (n := 4) p2b (show 2 ^ k < 2 ^ 4 from Nat.pow_lt_pow_right (by decide) hz)
            obtain ⟨s1, hs1⟩ : ∃ s1, s1 = upd (upd s (69 + 6 * p + 2) (nI (sv s (69 + 6 * p + 2) ||| 2 ^ k))) (69 + 6 * p + 3) (nI (sv s (69 + 6 * p + 3) + x)) := ⟨_, rfl⟩
            have en : ∀ x, x ≠ 69 + 6 * p + 2 ∧ x ≠ 69 + 6 * p + 3 → s1 x = s x := fun x h => by rw [hs1, pk_un (by omega), pk_un (by omega)]
            have ed3 : s1 (69 + 6 * p + 3) = nI (sv s (69 + 6 * p + 3) + x) := by rw [hs1, pk_us]
            have ed2 : s1 (69 + 6 * p + 2) = nI (sv s (69 + 6 * p + 2) ||| 2 ^ k) := by rw [hs1, pk_un (by omega), pk_us]
            refine CmdE.good (nI (sv s (69 + 6 * p + 3) + x)) s1 ?_ (fun M hR => ?_) (fun M hR => ?_) (fun M hS h6 => ?_)
            · have v0 : sv s1 0 = sv s 0 := sv_cong (en 0 (by omega))
              have v1 : sv s1 1 = sv s 1 := sv_cong (en 1 (by omega))
              have v2 : sv s1 2 = sv s 2 := sv_cong (en 2 (by omega))
              have v3 : sv s1 3 = sv s 3 := sv_cong (en 3 (by omega))
              refine ⟨?_, ?_, ?_, ?_, ?_, ?_, ?_, ?_⟩
              · exact (show okc s from ⟨⟨c0, b0⟩, ⟨c1, b1⟩, ⟨c2, b2⟩, ⟨c3, b3⟩, c4, b4⟩).c (fun x hx => en _ (by omega))
              · exact oz.c (fun x h1 h2 => en _ (by omega))
              · exact ol.c (en _ (by omega)) (fun l hl => en _ (by omega))
              · exact os.c ol (by omega) (fun x h1 h2 => en _ (by omega))
              · exact od.c ol (fun x h1 h2 => en _ (by omega))
              · exact ot.c b1 b2 (en _ (by omega)) (by omega) (fun l hl => by rw [sv_cong (en (16 + 7 * l) (by omega))]; exact Nat.le_refl _) (fun x h1 h2 => en _ (by omega))
              · intro q hq
                rw [v3] at hq
                by_cases e : q = p
                · subst e
                  rw [sv_of ed2 (by omega), ed2, sv_of ed3 (by omega), ed3, sv_cong (en (69 + 6 * q) (by omega)), sv_cong (en (69 + 6 * q + 1) (by omega)), sv_cong (en (69 + 6 * q + 4) (by omega)), en (69 + 6 * q) (by omega), en (69 + 6 * q + 1) (by omega), en (69 + 6 * q + 4) (by omega), v0, v2]
                  exact ⟨p1, ⟨rfl, hlt⟩, ⟨rfl, by omega⟩, p4⟩
                · have h1 := op q hq
                  rw [sv_cong (en (69 + 6 * q) (by omega)), sv_cong (en (69 + 6 * q + 1) (by omega)), sv_cong (en (69 + 6 * q + 2) (by omega)), sv_cong (en (69 + 6 * q + 3) (by omega)), sv_cong (en (69 + 6 * q + 4) (by omega)), en (69 + 6 * q) (by omega), en (69 + 6 * q + 1) (by omega), en (69 + 6 * q + 2) (by omega), en (69 + 6 * q + 3) (by omega), en (69 + 6 * q + 4) (by omega), v0, v2]
                  exact h1
              · exact oq.c b4 (en _ (by omega)) (by omega) (fun x h1 h2 => en _ (by omega))
            · have hc := hc M hR
              obtain ⟨⟨r0, r1, r2, r3, r4, r5⟩, rz, rl, rs, rt, ru, rp, rq⟩ := R0 hR
              simp (disch := omega) only [F_X7_faultOfTicket, hc, iz_t hz, ix_i, ↓pn_m, pn_l0, pn_l1, pn_l2, pn_l3, pn_l4, pn_l5, pn_l6, pn_l7, pn_l8, pn_l9, pn_l10, pn_l11, pn_l12, pn_l16, pn_l18, pn_l20, pn_l31, pn_l32, pn_l40, pn_l45, pn_l48, pn_l51, pn_l57, pn_l59, pn_l60, pn_l62, pn_l64, pn_l69, pn_l97, pn_l98, pn_l99, pn_l100, pn_l101, pn_l105, pn_l107, pn_l108, pn_l114, pn_l115, pn_l116, pn_l117, pn_l119, pn_l126, pn_l129, pn_l240, pn_l903, pn_l1032, nI_add, pk_mul, pk_sub, nI_clamp, nI_leI, nI_ltI, nI_eq, pm_1, pm_2, pm_3, pm_4, pm_5, pm_6, pm_7, pm_8, pn_lt, pn_nlt, pn_le, pn_nle, pn_ne, pn_eq, not_true_eq_false, not_false_eq_true, true_and, and_true, false_and, and_false, true_or, or_true, false_or, or_false, or_self, and_self, ne_eq, reduceIte, if_true, if_false, Nat.add_zero, Nat.zero_add, Nat.mul_zero, Nat.reduceAdd, Nat.reduceMul, fw_wi, fw_ri, up_e, up_n1, up_n2, cp_n, bx_s, bp_s, bt_l, bt_r, lx_s, rp, p3]
            · obtain ⟨⟨r0, r1, r2, r3, r4, r5⟩, rz, rl, rs, rt, ru, rp, rq⟩ := R0 hR
              obtain ⟨Q0, Q1, Q2, Q3, Q4, Q5, Q6, Q7⟩ := hR
              simp (disch := omega) only [F_X6_addToTicket, ix_i, ↓pn_m, pn_l0, pn_l1, pn_l2, pn_l3, pn_l4, pn_l5, pn_l6, pn_l7, pn_l8, pn_l9, pn_l10, pn_l11, pn_l12, pn_l16, pn_l18, pn_l20, pn_l31, pn_l32, pn_l40, pn_l45, pn_l48, pn_l51, pn_l57, pn_l59, pn_l60, pn_l62, pn_l64, pn_l69, pn_l97, pn_l98, pn_l99, pn_l100, pn_l101, pn_l105, pn_l107, pn_l108, pn_l114, pn_l115, pn_l116, pn_l117, pn_l119, pn_l126, pn_l129, pn_l240, pn_l903, pn_l1032, nI_add, pk_mul, pk_sub, nI_clamp, nI_leI, nI_ltI, nI_eq, pm_1, pm_2, pm_3, pm_4, pm_5, pm_6, pm_7, pm_8, pn_lt, pn_nlt, pn_le, pn_nle, pn_ne, pn_eq, not_true_eq_false, not_false_eq_true, true_and, and_true, false_and, and_false, true_or, or_true, false_or, or_false, or_self, and_self, ne_eq, reduceIte, if_true, if_false, Nat.add_zero, Nat.zero_add, Nat.mul_zero, Nat.reduceAdd, Nat.reduceMul, fw_wi, fw_ri, up_e, up_n1, up_n2, cp_n, bx_s, bp_s, bt_l, bt_r, lx_s, rp, p2, p3, f1]
              clear hs1
              refine ⟨_, rfl, ⟨?_, ?_, ?_, ?_, ?_, ?_, ?_, ?_⟩, fun k hk => by simp (disch := omega) only [up_n1]⟩
              · unfold Rn
                simp (disch := omega) only [fw_wi, fw_ri, up_e, up_n1, up_n2, cp_n, Nat.zero_add, en, r0, r1, r2, r3, r4, r5, and_true]
              · exact Q1.c (by simp (disch := omega) only [up_n1]) (fun x h1 h2 => en _ (by omega))
              · exact Q2.c ol (by simp (disch := omega) only [up_n1]) (by simp (disch := omega) only [up_n1]) (fun x h1 h2 => en _ (by omega))
              · exact Q3.c (fun l hl => by simp (disch := omega) only [up_n1]) (fun x h1 h2 => en _ (by omega))
              · exact Q4.c (by simp (disch := omega) only [up_n1]) (by simp (disch := omega) only [up_n1]) (fun x h1 h2 => en _ (by omega))
              · exact Q5.c b2 (by simp (disch := omega) only [up_n1]) (en _ (by omega)) (fun x h1 h2 => en _ (by omega))
              · intro q hq
                by_cases e : q = p
                · subst e
                  rw [ed2, ed3, en (69 + 6 * q) (by omega), en (69 + 6 * q + 1) (by omega), en (69 + 6 * q + 4) (by omega), en (69 + 6 * q + 5) (by omega)]
                  simp (disch := omega) only [fw_wi, fw_ri, up_e, up_n1, up_n2, cp_n, Nat.zero_add, rp, and_self]
                · rw [en (69 + 6 * q) (by omega), en (69 + 6 * q + 1) (by omega), en (69 + 6 * q + 2) (by omega), en (69 + 6 * q + 3) (by omega), en (69 + 6 * q + 4) (by omega), en (69 + 6 * q + 5) (by omega)]
                  simp (disch := omega) only [fw_wi, fw_ri, up_e, up_n1, up_n2, cp_n, Nat.zero_add]
                  exact rp q hq
              · exact Q7.c (by simp (disch := omega) only [up_n1]) (by simp (disch := omega) only [up_n1]) (fun x h1 h2 => en _ (by omega))
            · have hm := hm M hS
              have hS0 := hS
              have hS : ∀ j, j < 129 → M 379 j = s j := hS
              simp (disch := omega) only [F_X9_doSellTicket, hm, in_z hz, F_X9_in, F_X9_ofPassenger, F_X9_sets, F_X9_fails, ix_i, ↓pn_m, pn_l0, pn_l1, pn_l2, pn_l3, pn_l4, pn_l5, pn_l6, pn_l7, pn_l8, pn_l9, pn_l10, pn_l11, pn_l12, pn_l16, pn_l18, pn_l20, pn_l31, pn_l32, pn_l40, pn_l45, pn_l48, pn_l51, pn_l57, pn_l59, pn_l60, pn_l62, pn_l64, pn_l69, pn_l97, pn_l98, pn_l99, pn_l100, pn_l101, pn_l105, pn_l107, pn_l108, pn_l114, pn_l115, pn_l116, pn_l117, pn_l119, pn_l126, pn_l129, pn_l240, pn_l903, pn_l1032, nI_add, pk_mul, pk_sub, nI_clamp, nI_leI, nI_ltI, nI_eq, pm_1, pm_2, pm_3, pm_4, pm_5, pm_6, pm_7, pm_8, pn_lt, pn_nlt, pn_le, pn_nle, pn_ne, pn_eq, not_true_eq_false, not_false_eq_true, true_and, and_true, false_and, and_false, true_or, or_true, false_or, or_false, or_self, and_self, ne_eq, reduceIte, if_true, if_false, Nat.add_zero, Nat.zero_add, Nat.mul_zero, Nat.reduceAdd, Nat.reduceMul, fw_wi, fw_ri, up_e, up_n1, up_n2, cp_n, bx_s, bp_s, bt_l, bt_r, lx_s, hS, p3, p2, f1]
              refine ⟨_, rfl, ?_, by simp (disch := omega) only [up_n1, h6], by repeat first | exact md_0 | refine md_9 ?_⟩
              rw [hs1]
              exact Sm_u (Sm_u hS0)
    · refine CmdE.bad 2 2 (by omega) (by omega) (by decide) (fun M hR => ?_) (fun M hS h6 => ?_)
      · simp (disch := omega) only [F_X7_faultOfTicket, hc M hR, iz_f hz, ix_i, ↓pn_m, pn_l0, pn_l1, pn_l2, pn_l3, pn_l4, pn_l5, pn_l6, pn_l7, pn_l8, pn_l9, pn_l10, pn_l11, pn_l12, pn_l16, pn_l18, pn_l20, pn_l31, pn_l32, pn_l40, pn_l45, pn_l48, pn_l51, pn_l57, pn_l59, pn_l60, pn_l62, pn_l64, pn_l69, pn_l97, pn_l98, pn_l99, pn_l100, pn_l101, pn_l105, pn_l107, pn_l108, pn_l114, pn_l115, pn_l116, pn_l117, pn_l119, pn_l126, pn_l129, pn_l240, pn_l903, pn_l1032, nI_add, pk_mul, pk_sub, nI_clamp, nI_leI, nI_ltI, nI_eq, pm_1, pm_2, pm_3, pm_4, pm_5, pm_6, pm_7, pm_8, pn_lt, pn_nlt, pn_le, pn_nle, pn_ne, pn_eq, not_true_eq_false, not_false_eq_true, true_and, and_true, false_and, and_false, true_or, or_true, false_or, or_false, or_self, and_self, ne_eq, reduceIte, if_true, if_false, Nat.add_zero, Nat.zero_add, Nat.mul_zero, Nat.reduceAdd, Nat.reduceMul, fw_wi, fw_ri, up_e, up_n1, up_n2, cp_n, bx_s, bp_s, bt_l, bt_r, lx_s]
      · have e1 : F_X9_in M z (nI 0) (nI 3) = some (nI 0) := in_f hz (by omega) rfl (by decide)
        simp (disch := omega) only [F_X9_doSellTicket, hm M hS, e1, F_X9_fails, ix_i, ↓pn_m, pn_l0, pn_l1, pn_l2, pn_l3, pn_l4, pn_l5, pn_l6, pn_l7, pn_l8, pn_l9, pn_l10, pn_l11, pn_l12, pn_l16, pn_l18, pn_l20, pn_l31, pn_l32, pn_l40, pn_l45, pn_l48, pn_l51, pn_l57, pn_l59, pn_l60, pn_l62, pn_l64, pn_l69, pn_l97, pn_l98, pn_l99, pn_l100, pn_l101, pn_l105, pn_l107, pn_l108, pn_l114, pn_l115, pn_l116, pn_l117, pn_l119, pn_l126, pn_l129, pn_l240, pn_l903, pn_l1032, nI_add, pk_mul, pk_sub, nI_clamp, nI_leI, nI_ltI, nI_eq, pm_1, pm_2, pm_3, pm_4, pm_5, pm_6, pm_7, pm_8, pn_lt, pn_nlt, pn_le, pn_nle, pn_ne, pn_eq, not_true_eq_false, not_false_eq_true, true_and, and_true, false_and, and_false, true_or, or_true, false_or, or_false, or_self, and_self, ne_eq, reduceIte, if_true, if_false, Nat.add_zero, Nat.zero_add, Nat.mul_zero, Nat.reduceAdd, Nat.reduceMul, fw_wi, fw_ri, up_e, up_n1, up_n2, cp_n, bx_s, bp_s, bt_l, bt_r, lx_s]
        exact ⟨_, rfl, up_e rfl rfl, md_6 md_0⟩
  · refine CmdE.bad 1 1 (by omega) (by omega) (by decide) (fun M hR => ?_) (fun M hS h6 => ?_)
    · obtain ⟨⟨r0, r1, r2, r3, r4, r5⟩, rz, rl, rs, rt, ru, rp, rq⟩ := R0 hR
      have e1 : F_X6_hasPassenger M 15 a = some (nI 0) := hs_Passenger ho (r3.trans c3)
      simp (disch := omega) only [F_X7_faultOfTicket, e1, ix_i, ↓pn_m, pn_l0, pn_l1, pn_l2, pn_l3, pn_l4, pn_l5, pn_l6, pn_l7, pn_l8, pn_l9, pn_l10, pn_l11, pn_l12, pn_l16, pn_l18, pn_l20, pn_l31, pn_l32, pn_l40, pn_l45, pn_l48, pn_l51, pn_l57, pn_l59, pn_l60, pn_l62, pn_l64, pn_l69, pn_l97, pn_l98, pn_l99, pn_l100, pn_l101, pn_l105, pn_l107, pn_l108, pn_l114, pn_l115, pn_l116, pn_l117, pn_l119, pn_l126, pn_l129, pn_l240, pn_l903, pn_l1032, nI_add, pk_mul, pk_sub, nI_clamp, nI_leI, nI_ltI, nI_eq, pm_1, pm_2, pm_3, pm_4, pm_5, pm_6, pm_7, pm_8, pn_lt, pn_nlt, pn_le, pn_nle, pn_ne, pn_eq, not_true_eq_false, not_false_eq_true, true_and, and_true, false_and, and_false, true_or, or_true, false_or, or_false, or_self, and_self, ne_eq, reduceIte, if_true, if_false, Nat.add_zero, Nat.zero_add, Nat.mul_zero, Nat.reduceAdd, Nat.reduceMul, fw_wi, fw_ri, up_e, up_n1, up_n2, cp_n, bx_s, bp_s, bt_l, bt_r, lx_s]
    · have e1 : F_X9_isPassenger M a = some (nI 0) := is_Passenger ho (by omega) ((hS 3 (by omega)).trans c3)
      simp (disch := omega) only [F_X9_doSellTicket, e1, F_X9_fails, ix_i, ↓pn_m, pn_l0, pn_l1, pn_l2, pn_l3, pn_l4, pn_l5, pn_l6, pn_l7, pn_l8, pn_l9, pn_l10, pn_l11, pn_l12, pn_l16, pn_l18, pn_l20, pn_l31, pn_l32, pn_l40, pn_l45, pn_l48, pn_l51, pn_l57, pn_l59, pn_l60, pn_l62, pn_l64, pn_l69, pn_l97, pn_l98, pn_l99, pn_l100, pn_l101, pn_l105, pn_l107, pn_l108, pn_l114, pn_l115, pn_l116, pn_l117, pn_l119, pn_l126, pn_l129, pn_l240, pn_l903, pn_l1032, nI_add, pk_mul, pk_sub, nI_clamp, nI_leI, nI_ltI, nI_eq, pm_1, pm_2, pm_3, pm_4, pm_5, pm_6, pm_7, pm_8, pn_lt, pn_nlt, pn_le, pn_nle, pn_ne, pn_eq, not_true_eq_false, not_false_eq_true, true_and, and_true, false_and, and_false, true_or, or_true, false_or, or_false, or_self, and_self, ne_eq, reduceIte, if_true, if_false, Nat.add_zero, Nat.zero_add, Nat.mul_zero, Nat.reduceAdd, Nat.reduceMul, fw_wi, fw_ri, up_e, up_n1, up_n2, cp_n, bx_s, bp_s, bt_l, bt_r, lx_s]
      exact ⟨_, rfl, up_e rfl rfl, md_6 md_0⟩
