/-! 2: line -/
theorem c_line {s : Nat → Int32} (hk : ok s) (a b : Int32) : CmdE [0, 1, 2] s (fun M => F_X7_faultOfLine M 0 a b) (fun M => F_X3_putLine M 1 a b) (fun M => F_X9_doAddLine M a b) := by
  have hk0 := hk
  obtain ⟨⟨⟨c0, b0⟩, ⟨c1, b1⟩, ⟨c2, b2⟩, ⟨c3, b3⟩, c4, b4⟩, oz, ol, os, od, ot, op, oq⟩ := hk
  rcases px_o a (n := sv s 0) (by omega) with ⟨i, hi, rfl⟩ | ho
  · rcases px_o b (n := sv s 0) (by omega) with ⟨j, hj, rfl⟩ | ho
    · by_cases hij : i = j
      · refine CmdE.bad 2 2 (by omega) (by omega) (by decide) (fun M hR => ?_) (fun M hS h6 => ?_)
        · obtain ⟨⟨r0, r1, -⟩, -⟩ := R0 hR
          simp (disch := omega) only [F_X7_faultOfLine, F_X3_hasStop, ix_i, ↓pn_m, pn_l0, pn_l1, pn_l2, pn_l3, pn_l4, pn_l5, pn_l6, pn_l7, pn_l8, pn_l9, pn_l10, pn_l11, pn_l12, pn_l16, pn_l18, pn_l20, pn_l31, pn_l32, pn_l40, pn_l45, pn_l48, pn_l51, pn_l57, pn_l59, pn_l60, pn_l62, pn_l64, pn_l69, pn_l97, pn_l98, pn_l99, pn_l100, pn_l101, pn_l105, pn_l107, pn_l108, pn_l114, pn_l115, pn_l116, pn_l117, pn_l119, pn_l126, pn_l129, pn_l240, pn_l903, pn_l1032, nI_add, pk_mul, pk_sub, nI_clamp, nI_leI, nI_ltI, nI_eq, pm_1, pm_2, pm_3, pm_4, pm_5, pm_6, pm_7, pm_8, pn_lt, pn_nlt, pn_le, pn_nle, pn_ne, pn_eq, not_true_eq_false, not_false_eq_true, true_and, and_true, false_and, and_false, true_or, or_true, false_or, or_false, or_self, and_self, ne_eq, reduceIte, if_true, if_false, Nat.add_zero, Nat.zero_add, Nat.mul_zero, Nat.reduceAdd, Nat.reduceMul, fw_wi, fw_ri, up_e, up_n1, up_n2, cp_n, bx_s, bp_s, bt_l, bt_r, lx_s, r0, c0]
        · have hS : ∀ j, j < 129 → M 379 j = s j := hS
          simp (disch := omega) only [F_X9_doAddLine, F_X9_isStop, F_X9_in, F_X9_fails, ix_i, ↓pn_m, pn_l0, pn_l1, pn_l2, pn_l3, pn_l4, pn_l5, pn_l6, pn_l7, pn_l8, pn_l9, pn_l10, pn_l11, pn_l12, pn_l16, pn_l18, pn_l20, pn_l31, pn_l32, pn_l40, pn_l45, pn_l48, pn_l51, pn_l57, pn_l59, pn_l60, pn_l62, pn_l64, pn_l69, pn_l97, pn_l98, pn_l99, pn_l100, pn_l101, pn_l105, pn_l107, pn_l108, pn_l114, pn_l115, pn_l116, pn_l117, pn_l119, pn_l126, pn_l129, pn_l240, pn_l903, pn_l1032, nI_add, pk_mul, pk_sub, nI_clamp, nI_leI, nI_ltI, nI_eq, pm_1, pm_2, pm_3, pm_4, pm_5, pm_6, pm_7, pm_8, pn_lt, pn_nlt, pn_le, pn_nle, pn_ne, pn_eq, not_true_eq_false, not_false_eq_true, true_and, and_true, false_and, and_false, true_or, or_true, false_or, or_false, or_self, and_self, ne_eq, reduceIte, if_true, if_false, Nat.add_zero, Nat.zero_add, Nat.mul_zero, Nat.reduceAdd, Nat.reduceMul, fw_wi, fw_ri, up_e, up_n1, up_n2, cp_n, bx_s, bp_s, bt_l, bt_r, lx_s, hS, c0, c1]
          exact ⟨_, rfl, up_e rfl rfl, md_6 md_0⟩
      · by_cases hn : sv s 1 = 5
        · refine CmdE.bad 3 3 (by omega) (by omega) (by decide) (fun M hR => ?_) (fun M hS h6 => ?_)
          · obtain ⟨⟨r0, r1, -⟩, -⟩ := R0 hR
            simp (disch := omega) only [F_X7_faultOfLine, F_X3_hasStop, ix_i, ↓pn_m, pn_l0, pn_l1, pn_l2, pn_l3, pn_l4, pn_l5, pn_l6, pn_l7, pn_l8, pn_l9, pn_l10, pn_l11, pn_l12, pn_l16, pn_l18, pn_l20, pn_l31, pn_l32, pn_l40, pn_l45, pn_l48, pn_l51, pn_l57, pn_l59, pn_l60, pn_l62, pn_l64, pn_l69, pn_l97, pn_l98, pn_l99, pn_l100, pn_l101, pn_l105, pn_l107, pn_l108, pn_l114, pn_l115, pn_l116, pn_l117, pn_l119, pn_l126, pn_l129, pn_l240, pn_l903, pn_l1032, nI_add, pk_mul, pk_sub, nI_clamp, nI_leI, nI_ltI, nI_eq, pm_1, pm_2, pm_3, pm_4, pm_5, pm_6, pm_7, pm_8, pn_lt, pn_nlt, pn_le, pn_nle, pn_ne, pn_eq, not_true_eq_false, not_false_eq_true, true_and, and_true, false_and, and_false, true_or, or_true, false_or, or_false, or_self, and_self, ne_eq, reduceIte, if_true, if_false, Nat.add_zero, Nat.zero_add, Nat.mul_zero, Nat.reduceAdd, Nat.reduceMul, fw_wi, fw_ri, up_e, up_n1, up_n2, cp_n, bx_s, bp_s, bt_l, bt_r, lx_s, r0, c0, r1, c1]
          · have hS : ∀ j, j < 129 → M 379 j = s j := hS
            simp (disch := omega) only [F_X9_doAddLine, F_X9_isStop, F_X9_in, F_X9_fails, ix_i, ↓pn_m, pn_l0, pn_l1, pn_l2, pn_l3, pn_l4, pn_l5, pn_l6, pn_l7, pn_l8, pn_l9, pn_l10, pn_l11, pn_l12, pn_l16, pn_l18, pn_l20, pn_l31, pn_l32, pn_l40, pn_l45, pn_l48, pn_l51, pn_l57, pn_l59, pn_l60, pn_l62, pn_l64, pn_l69, pn_l97, pn_l98, pn_l99, pn_l100, pn_l101, pn_l105, pn_l107, pn_l108, pn_l114, pn_l115, pn_l116, pn_l117, pn_l119, pn_l126, pn_l129, pn_l240, pn_l903, pn_l1032, nI_add, pk_mul, pk_sub, nI_clamp, nI_leI, nI_ltI, nI_eq, pm_1, pm_2, pm_3, pm_4, pm_5, pm_6, pm_7, pm_8, pn_lt, pn_nlt, pn_le, pn_nle, pn_ne, pn_eq, not_true_eq_false, not_false_eq_true, true_and, and_true, false_and, and_false, true_or, or_true, false_or, or_false, or_self, and_self, ne_eq, reduceIte, if_true, if_false, Nat.add_zero, Nat.zero_add, Nat.mul_zero, Nat.reduceAdd, Nat.reduceMul, fw_wi, fw_ri, up_e, up_n1, up_n2, cp_n, bx_s, bp_s, bt_l, bt_r, lx_s, hS, c0, c1]
            exact ⟨_, rfl, up_e rfl rfl, md_6 md_0⟩
        · have en : ∀ x, x ≠ 1 → x ≠ 16 + 7 * sv s 1 → x ≠ 16 + 7 * sv s 1 + 1 → x ≠ 16 + 7 * sv s 1 + 2 → upd (upd (upd (upd s (16 + 7 * sv s 1) (nI 2)) (16 + 7 * sv s 1 + 1) (nI i)) (16 + 7 * sv s 1 + 2) (nI j)) 1 (nI (sv s 1 + 1)) x = s x := fun x h1 h2 h3 h4 => by rw [pk_un h1, pk_un h4, pk_un h3, pk_un h2]
          have e1 : upd (upd (upd (upd s (16 + 7 * sv s 1) (nI 2)) (16 + 7 * sv s 1 + 1) (nI i)) (16 + 7 * sv s 1 + 2) (nI j)) 1 (nI (sv s 1 + 1)) 1 = nI (sv s 1 + 1) := pk_us
          have el : upd (upd (upd (upd s (16 + 7 * sv s 1) (nI 2)) (16 + 7 * sv s 1 + 1) (nI i)) (16 + 7 * sv s 1 + 2) (nI j)) 1 (nI (sv s 1 + 1)) (16 + 7 * sv s 1) = nI 2 := by rw [pk_un (by omega), pk_un (by omega), pk_un (by omega), pk_us]
          have ei : upd (upd (upd (upd s (16 + 7 * sv s 1) (nI 2)) (16 + 7 * sv s 1 + 1) (nI i)) (16 + 7 * sv s 1 + 2) (nI j)) 1 (nI (sv s 1 + 1)) (16 + 7 * sv s 1 + 1 + 0) = nI i := by rw [pk_un (by omega), pk_un (by omega), pk_u1 (by omega)]
          have ej : upd (upd (upd (upd s (16 + 7 * sv s 1) (nI 2)) (16 + 7 * sv s 1 + 1) (nI i)) (16 + 7 * sv s 1 + 2) (nI j)) 1 (nI (sv s 1 + 1)) (16 + 7 * sv s 1 + 1 + 1) = nI j := by rw [pk_un (by omega), pk_u1 (by omega)]
          refine CmdE.good (nI (sv s 1)) (upd (upd (upd (upd s (16 + 7 * sv s 1) (nI 2)) (16 + 7 * sv s 1 + 1) (nI i)) (16 + 7 * sv s 1 + 2) (nI j)) 1 (nI (sv s 1 + 1))) ?_ (fun M hR => ?_) (fun M hR => ?_) (fun M hS h6 => ?_)
          · generalize upd (upd (upd (upd s (16 + 7 * sv s 1) (nI 2)) (16 + 7 * sv s 1 + 1) (nI i)) (16 + 7 * sv s 1 + 2) (nI j)) 1 (nI (sv s 1 + 1)) = s1 at en e1 el ei ej ⊢
            have v1 : sv s1 1 = sv s 1 + 1 := sv_of e1 (by omega)
            have vl : sv s1 (16 + 7 * sv s 1) = 2 := sv_of el (by omega)
            have vi : sv s1 (16 + 7 * sv s 1 + 1 + 0) = i := sv_of ei (by omega)
            have vj : sv s1 (16 + 7 * sv s 1 + 1 + 1) = j := sv_of ej (by omega)
            have v0 : sv s1 0 = sv s 0 := sv_cong (en 0 (by omega) (by omega) (by omega) (by omega))
            have old : ∀ l, l < 5 → l ≠ sv s 1 → s1 (16 + 7 * l) = s (16 + 7 * l) ∧ ∀ p, p < 6 → s1 (16 + 7 * l + 1 + p) = s (16 + 7 * l + 1 + p) := fun l hl hne => ⟨en _ (by omega) (by omega) (by omega) (by omega), fun p hp => en _ (by omega) (by omega) (by omega) (by omega)⟩
            refine ⟨?_, ?_, ?_, ?_, ?_, ?_, ?_, ?_⟩
            · unfold okc
              rw [v1, v0, sv_cong (en 2 (by omega) (by omega) (by omega) (by omega)), sv_cong (en 3 (by omega) (by omega) (by omega) (by omega)), sv_cong (en 4 (by omega) (by omega) (by omega) (by omega)), en 0 (by omega) (by omega) (by omega) (by omega), en 2 (by omega) (by omega) (by omega) (by omega), en 3 (by omega) (by omega) (by omega) (by omega), en 4 (by omega) (by omega) (by omega) (by omega)]
              exact ⟨⟨c0, b0⟩, ⟨e1, by omega⟩, ⟨c2, b2⟩, ⟨c3, b3⟩, c4, b4⟩
            · exact oz.c (fun x h1 h2 => en _ (by omega) (by omega) (by omega) (by omega))
            · intro l hl
              by_cases e : l = sv s 1
              · subst e
                rw [vl, v1]
                exact ⟨el, by omega, fun _ => by omega, fun _ => by omega⟩
              · obtain ⟨o1, -⟩ := old l hl e
                rw [sv_cong o1, o1, v1]
                obtain ⟨q1, q2, q3, q4⟩ := ol l hl
                exact ⟨q1, q2, fun h => q3 (by omega), fun h => q4 (by omega)⟩
            · intro l p hl hp
              by_cases e : l = sv s 1
              · subst e
                rw [vl] at hp
                rcases (show p = 0 ∨ p = 1 by omega) with rfl | rfl
                · rw [vi, v0]; exact ⟨ei, hi⟩
                · rw [vj, v0]; exact ⟨ej, hj⟩
              · obtain ⟨o1, o2⟩ := old l hl e
                rw [sv_cong o1] at hp
                have l6 := (ol l hl).2.1
                rw [sv_cong (o2 p (by omega)), o2 p (by omega), v0]
                exact os l p hl hp
            · intro l p q hl hp hq
              by_cases e : l = sv s 1
              · subst e
                rw [vl] at hq
                obtain rfl : p = 0 := by omega
                obtain rfl : q = 1 := by omega
                rw [vi, vj]
                exact hij
              · obtain ⟨o1, o2⟩ := old l hl e
                rw [sv_cong o1] at hq
                have l6 := (ol l hl).2.1
                rw [sv_cong (o2 p (by omega)), sv_cong (o2 q (by omega))]
                exact od l p q hl hp hq
            · exact ot.c b1 b2 (en _ (by omega) (by omega) (by omega) (by omega)) (by omega) (fun l hl => by rw [sv_cong (old l (by omega) (by omega)).1]; exact Nat.le_refl _) (fun x h1 h2 => en _ (by omega) (by omega) (by omega) (by omega))
            · exact op.c b3 (en _ (by omega) (by omega) (by omega) (by omega)) (by omega) (by rw [sv_cong (en 2 (by omega) (by omega) (by omega) (by omega))]; exact Nat.le_refl _) (fun x h1 h2 => en _ (by omega) (by omega) (by omega) (by omega))
            · exact oq.c b4 (en _ (by omega) (by omega) (by omega) (by omega)) (by rw [sv_cong (en 3 (by omega) (by omega) (by omega) (by omega))]; exact Nat.le_refl _) (fun x h1 h2 => en _ (by omega) (by omega) (by omega) (by omega))
          · obtain ⟨⟨r0, r1, -⟩, -⟩ := R0 hR
            simp (disch := omega) only [F_X7_faultOfLine, F_X3_hasStop, ix_i, ↓pn_m, pn_l0, pn_l1, pn_l2, pn_l3, pn_l4, pn_l5, pn_l6, pn_l7, pn_l8, pn_l9, pn_l10, pn_l11, pn_l12, pn_l16, pn_l18, pn_l20, pn_l31, pn_l32, pn_l40, pn_l45, pn_l48, pn_l51, pn_l57, pn_l59, pn_l60, pn_l62, pn_l64, pn_l69, pn_l97, pn_l98, pn_l99, pn_l100, pn_l101, pn_l105, pn_l107, pn_l108, pn_l114, pn_l115, pn_l116, pn_l117, pn_l119, pn_l126, pn_l129, pn_l240, pn_l903, pn_l1032, nI_add, pk_mul, pk_sub, nI_clamp, nI_leI, nI_ltI, nI_eq, pm_1, pm_2, pm_3, pm_4, pm_5, pm_6, pm_7, pm_8, pn_lt, pn_nlt, pn_le, pn_nle, pn_ne, pn_eq, not_true_eq_false, not_false_eq_true, true_and, and_true, false_and, and_false, true_or, or_true, false_or, or_false, or_self, and_self, ne_eq, reduceIte, if_true, if_false, Nat.add_zero, Nat.zero_add, Nat.mul_zero, Nat.reduceAdd, Nat.reduceMul, fw_wi, fw_ri, up_e, up_n1, up_n2, cp_n, bx_s, bp_s, bt_l, bt_r, lx_s, r0, c0, r1, c1]
          · obtain ⟨⟨r0, r1, r2, r3, r4, r5⟩, rz, rl, rs, rt, ru, rp, rq⟩ := R0 hR
            obtain ⟨Q0, Q1, Q2, Q3, Q4, Q5, Q6, Q7⟩ := hR
            have f1 : (1 <<< (nI i &&& 31) : Int32) ||| (1 <<< (nI j &&& 31)) = nI (2 ^ i ||| 2 ^ j) := by
              rw [show (1 <<< (nI i &&& 31) : Int32) = nI (2 ^ i) from sh_1 i (by omega), show (1 <<< (nI j &&& 31) : Int32) = nI (2 ^ j) from sh_1 j (by omega), fa_or]
            unfold F_X3_putLine
            rw [f1]
            simp (disch := omega) only [ix_i, ↓pn_m, pn_l0, pn_l1, pn_l2, pn_l3, pn_l4, pn_l5, pn_l6, pn_l7, pn_l8, pn_l9, pn_l10, pn_l11, pn_l12, pn_l16, pn_l18, pn_l20, pn_l31, pn_l32, pn_l40, pn_l45, pn_l48, pn_l51, pn_l57, pn_l59, pn_l60, pn_l62, pn_l64, pn_l69, pn_l97, pn_l98, pn_l99, pn_l100, pn_l101, pn_l105, pn_l107, pn_l108, pn_l114, pn_l115, pn_l116, pn_l117, pn_l119, pn_l126, pn_l129, pn_l240, pn_l903, pn_l1032, nI_add, pk_mul, pk_sub, nI_clamp, nI_leI, nI_ltI, nI_eq, pm_1, pm_2, pm_3, pm_4, pm_5, pm_6, pm_7, pm_8, pn_lt, pn_nlt, pn_le, pn_nle, pn_ne, pn_eq, not_true_eq_false, not_false_eq_true, true_and, and_true, false_and, and_false, true_or, or_true, false_or, or_false, or_self, and_self, ne_eq, reduceIte, if_true, if_false, Nat.add_zero, Nat.zero_add, Nat.mul_zero, Nat.reduceAdd, Nat.reduceMul, fw_wi, fw_ri, up_e, up_n1, up_n2, cp_n, bx_s, bp_s, bt_l, bt_r, lx_s, r1, c1]
            generalize upd (upd (upd (upd s (16 + 7 * sv s 1) (nI 2)) (16 + 7 * sv s 1 + 1) (nI i)) (16 + 7 * sv s 1 + 2) (nI j)) 1 (nI (sv s 1 + 1)) = s1 at en e1 el ei ej ⊢
            have vl : sv s1 (16 + 7 * sv s 1) = 2 := sv_of el (by omega)
            have vi : sv s1 (16 + 7 * sv s 1 + 1 + 0) = i := sv_of ei (by omega)
            have vj : sv s1 (16 + 7 * sv s 1 + 1 + 1) = j := sv_of ej (by omega)
            refine ⟨_, rfl, ⟨?_, ?_, ?_, ?_, ?_, ?_, ?_, ?_⟩, fun k hk => by simp (disch := omega) only [up_n1]⟩
            · unfold Rn
              simp (disch := omega) only [fw_wi, fw_ri, up_e, up_n1, up_n2, cp_n, Nat.zero_add, e1, en, r0, r2, r3, r4, r5, and_true]
            · exact Q1.c (by simp (disch := omega) only [up_n1]) (fun x h1 h2 => en _ (by omega) (by omega) (by omega) (by omega))
            · intro l hl
              by_cases e : l = sv s 1
              · subst e
                have eb : lset s1 (sv s 1) = 2 ^ i ||| 2 ^ j := by
                  unfold lset
                  rw [vl]
                  show (0 ||| 2 ^ sv s1 (16 + 7 * sv s 1 + 1 + 0)) ||| 2 ^ sv s1 (16 + 7 * sv s 1 + 1 + 1) = _
                  rw [vi, vj, Nat.zero_or]
                rw [eb, el]
                simp (disch := omega) only [fw_wi, fw_ri, up_e, up_n1, up_n2, cp_n, Nat.zero_add, and_self]
              · have eb : lset s1 l = lset s l := lset.c (ol l hl).2.1 (fun x hx => en _ (by omega) (by omega) (by omega) (by omega))
                rw [eb, en _ (by omega) (by omega) (by omega) (by omega)]
                simp (disch := omega) only [fw_wi, fw_ri, up_e, up_n1, up_n2, cp_n, Nat.zero_add]
                exact rl l hl
            · intro l p hl hp
              by_cases e : l = sv s 1
              · subst e
                by_cases p0 : p = 0
                · subst p0
                  rw [ei]
                  simp (disch := omega) only [fw_wi, fw_ri, up_e, up_n1, up_n2, cp_n, Nat.zero_add]
                · by_cases p1 : p = 1
                  · subst p1
                    rw [ej]
                    simp (disch := omega) only [fw_wi, fw_ri, up_e, up_n1, up_n2, cp_n, Nat.zero_add]
                  · rw [en _ (by omega) (by omega) (by omega) (by omega)]
                    simp (disch := omega) only [fw_wi, fw_ri, up_e, up_n1, up_n2, cp_n, Nat.zero_add]
                    exact rs _ p hl hp
              · rw [en _ (by omega) (by omega) (by omega) (by omega)]
                simp (disch := omega) only [fw_wi, fw_ri, up_e, up_n1, up_n2, cp_n, Nat.zero_add]
                exact rs l p hl hp
            · exact Q4.c (by simp (disch := omega) only [up_n1]) (by simp (disch := omega) only [up_n1]) (fun x h1 h2 => en _ (by omega) (by omega) (by omega) (by omega))
            · exact Q5.c b2 (by simp (disch := omega) only [up_n1]) (en _ (by omega) (by omega) (by omega) (by omega)) (fun x h1 h2 => en _ (by omega) (by omega) (by omega) (by omega))
            · exact Q6.c (fun k h1 h2 => by simp (disch := omega) only [up_n1]) (fun x h1 h2 => en _ (by omega) (by omega) (by omega) (by omega))
            · exact Q7.c (by simp (disch := omega) only [up_n1]) (by simp (disch := omega) only [up_n1]) (fun x h1 h2 => en _ (by omega) (by omega) (by omega) (by omega))
          · have hS0 := hS
            have hS : ∀ j, j < 129 → M 379 j = s j := hS
            simp (disch := omega) only [F_X9_doAddLine, F_X9_isStop, F_X9_in, F_X9_fails, ix_i, ↓pn_m, pn_l0, pn_l1, pn_l2, pn_l3, pn_l4, pn_l5, pn_l6, pn_l7, pn_l8, pn_l9, pn_l10, pn_l11, pn_l12, pn_l16, pn_l18, pn_l20, pn_l31, pn_l32, pn_l40, pn_l45, pn_l48, pn_l51, pn_l57, pn_l59, pn_l60, pn_l62, pn_l64, pn_l69, pn_l97, pn_l98, pn_l99, pn_l100, pn_l101, pn_l105, pn_l107, pn_l108, pn_l114, pn_l115, pn_l116, pn_l117, pn_l119, pn_l126, pn_l129, pn_l240, pn_l903, pn_l1032, nI_add, pk_mul, pk_sub, nI_clamp, nI_leI, nI_ltI, nI_eq, pm_1, pm_2, pm_3, pm_4, pm_5, pm_6, pm_7, pm_8, pn_lt, pn_nlt, pn_le, pn_nle, pn_ne, pn_eq, not_true_eq_false, not_false_eq_true, true_and, and_true, false_and, and_false, true_or, or_true, false_or, or_false, or_self, and_self, ne_eq, reduceIte, if_true, if_false, Nat.add_zero, Nat.zero_add, Nat.mul_zero, Nat.reduceAdd, Nat.reduceMul, fw_wi, fw_ri, up_e, up_n1, up_n2, cp_n, bx_s, bp_s, bt_l, bt_r, lx_s, hS, c0, c1]
            exact ⟨_, rfl, Sm_u (Sm_u (Sm_u (Sm_u hS0))), by rw [up_n1 (by omega), up_n1 (by omega), up_n1 (by omega), up_n1 (by omega), h6], md_9 (md_9 (md_9 (md_9 md_0)))⟩
    · refine CmdE.bad 1 1 (by omega) (by omega) (by decide) (fun M hR => ?_) (fun M hS h6 => ?_)
      · obtain ⟨⟨r0, r1, -⟩, -⟩ := R0 hR
        have e1 : F_X3_hasStop M 1 b = some (nI 0) := hs_Stop ho (r0.trans c0)
        have e2 : F_X3_hasStop M 1 (nI i) = some (nI 1) := ht_Stop hi (by omega) (r0.trans c0)
        simp (disch := omega) only [F_X7_faultOfLine, e1, e2, ix_i, ↓pn_m, pn_l0, pn_l1, pn_l2, pn_l3, pn_l4, pn_l5, pn_l6, pn_l7, pn_l8, pn_l9, pn_l10, pn_l11, pn_l12, pn_l16, pn_l18, pn_l20, pn_l31, pn_l32, pn_l40, pn_l45, pn_l48, pn_l51, pn_l57, pn_l59, pn_l60, pn_l62, pn_l64, pn_l69, pn_l97, pn_l98, pn_l99, pn_l100, pn_l101, pn_l105, pn_l107, pn_l108, pn_l114, pn_l115, pn_l116, pn_l117, pn_l119, pn_l126, pn_l129, pn_l240, pn_l903, pn_l1032, nI_add, pk_mul, pk_sub, nI_clamp, nI_leI, nI_ltI, nI_eq, pm_1, pm_2, pm_3, pm_4, pm_5, pm_6, pm_7, pm_8, pn_lt, pn_nlt, pn_le, pn_nle, pn_ne, pn_eq, not_true_eq_false, not_false_eq_true, true_and, and_true, false_and, and_false, true_or, or_true, false_or, or_false, or_self, and_self, ne_eq, reduceIte, if_true, if_false, Nat.add_zero, Nat.zero_add, Nat.mul_zero, Nat.reduceAdd, Nat.reduceMul, fw_wi, fw_ri, up_e, up_n1, up_n2, cp_n, bx_s, bp_s, bt_l, bt_r, lx_s]
      · have e1 : F_X9_isStop M b = some (nI 0) := is_Stop ho (by omega) ((hS 0 (by omega)).trans c0)
        have e2 : F_X9_isStop M (nI i) = some (nI 1) := it_Stop hi (by omega) ((hS 0 (by omega)).trans c0)
        simp (disch := omega) only [F_X9_doAddLine, e1, e2, F_X9_fails, ix_i, ↓pn_m, pn_l0, pn_l1, pn_l2, pn_l3, pn_l4, pn_l5, pn_l6, pn_l7, pn_l8, pn_l9, pn_l10, pn_l11, pn_l12, pn_l16, pn_l18, pn_l20, pn_l31, pn_l32, pn_l40, pn_l45, pn_l48, pn_l51, pn_l57, pn_l59, pn_l60, pn_l62, pn_l64, pn_l69, pn_l97, pn_l98, pn_l99, pn_l100, pn_l101, pn_l105, pn_l107, pn_l108, pn_l114, pn_l115, pn_l116, pn_l117, pn_l119, pn_l126, pn_l129, pn_l240, pn_l903, pn_l1032, nI_add, pk_mul, pk_sub, nI_clamp, nI_leI, nI_ltI, nI_eq, pm_1, pm_2, pm_3, pm_4, pm_5, pm_6, pm_7, pm_8, pn_lt, pn_nlt, pn_le, pn_nle, pn_ne, pn_eq, not_true_eq_false, not_false_eq_true, true_and, and_true, false_and, and_false, true_or, or_true, false_or, or_false, or_self, and_self, ne_eq, reduceIte, if_true, if_false, Nat.add_zero, Nat.zero_add, Nat.mul_zero, Nat.reduceAdd, Nat.reduceMul, fw_wi, fw_ri, up_e, up_n1, up_n2, cp_n, bx_s, bp_s, bt_l, bt_r, lx_s]
        exact ⟨_, rfl, up_e rfl rfl, md_6 md_0⟩
  · refine CmdE.bad 1 1 (by omega) (by omega) (by decide) (fun M hR => ?_) (fun M hS h6 => ?_)
    · obtain ⟨⟨r0, r1, -⟩, -⟩ := R0 hR
      have e1 : F_X3_hasStop M 1 a = some (nI 0) := hs_Stop ho (r0.trans c0)
      simp (disch := omega) only [F_X7_faultOfLine, e1, ix_i, ↓pn_m, pn_l0, pn_l1, pn_l2, pn_l3, pn_l4, pn_l5, pn_l6, pn_l7, pn_l8, pn_l9, pn_l10, pn_l11, pn_l12, pn_l16, pn_l18, pn_l20, pn_l31, pn_l32, pn_l40, pn_l45, pn_l48, pn_l51, pn_l57, pn_l59, pn_l60, pn_l62, pn_l64, pn_l69, pn_l97, pn_l98, pn_l99, pn_l100, pn_l101, pn_l105, pn_l107, pn_l108, pn_l114, pn_l115, pn_l116, pn_l117, pn_l119, pn_l126, pn_l129, pn_l240, pn_l903, pn_l1032, nI_add, pk_mul, pk_sub, nI_clamp, nI_leI, nI_ltI, nI_eq, pm_1, pm_2, pm_3, pm_4, pm_5, pm_6, pm_7, pm_8, pn_lt, pn_nlt, pn_le, pn_nle, pn_ne, pn_eq, not_true_eq_false, not_false_eq_true, true_and, and_true, false_and, and_false, true_or, or_true, false_or, or_false, or_self, and_self, ne_eq, reduceIte, if_true, if_false, Nat.add_zero, Nat.zero_add, Nat.mul_zero, Nat.reduceAdd, Nat.reduceMul, fw_wi, fw_ri, up_e, up_n1, up_n2, cp_n, bx_s, bp_s, bt_l, bt_r, lx_s]
    · have e1 : F_X9_isStop M a = some (nI 0) := is_Stop ho (by omega) ((hS 0 (by omega)).trans c0)
      simp (disch := omega) only [F_X9_doAddLine, e1, F_X9_fails, ix_i, ↓pn_m, pn_l0, pn_l1, pn_l2, pn_l3, pn_l4, pn_l5, pn_l6, pn_l7, pn_l8, pn_l9, pn_l10, pn_l11, pn_l12, pn_l16, pn_l18, pn_l20, pn_l31, pn_l32, pn_l40, pn_l45, pn_l48, pn_l51, pn_l57, pn_l59, pn_l60, pn_l62, pn_l64, pn_l69, pn_l97, pn_l98, pn_l99, pn_l100, pn_l101, pn_l105, pn_l107, pn_l108, pn_l114, pn_l115, pn_l116, pn_l117, pn_l119, pn_l126, pn_l129, pn_l240, pn_l903, pn_l1032, nI_add, pk_mul, pk_sub, nI_clamp, nI_leI, nI_ltI, nI_eq, pm_1, pm_2, pm_3, pm_4, pm_5, pm_6, pm_7, pm_8, pn_lt, pn_nlt, pn_le, pn_nle, pn_ne, pn_eq, not_true_eq_false, not_false_eq_true, true_and, and_true, false_and, and_false, true_or, or_true, false_or, or_false, or_self, and_self, ne_eq, reduceIte, if_true, if_false, Nat.add_zero, Nat.zero_add, Nat.mul_zero, Nat.reduceAdd, Nat.reduceMul, fw_wi, fw_ri, up_e, up_n1, up_n2, cp_n, bx_s, bp_s, bt_l, bt_r, lx_s]
      exact ⟨_, rfl, up_e rfl rfl, md_6 md_0⟩
/-! 3: extend -/
theorem c_ext {s : Nat → Int32} (hk : ok s) (a b : Int32) : CmdE [0, 1, 2] s (fun M => F_X7_faultOfExtension M 0 a b) (fun M => F_X3_appendStop M 1 a b) (fun M => F_X9_doExtendLine M a b) := by
  have hk0 := hk
  obtain ⟨⟨⟨c0, b0⟩, ⟨c1, b1⟩, ⟨c2, b2⟩, ⟨c3, b3⟩, c4, b4⟩, oz, ol, os, od, ot, op, oq⟩ := hk
  rcases px_o a (n := sv s 1) (by omega) with ⟨l, hl, rfl⟩ | ho
  · obtain ⟨l1, l6, l2, -⟩ := ol l (by omega)
    have l2 := l2 hl
    rcases px_o b (n := sv s 0) (by omega) with ⟨j, hj, rfl⟩ | ho
    · have hc : ∀ M, R M 0 s → F_X3_hasLine M 1 (nI l) = some (nI 1) ∧ F_X3_hasStop M 1 (nI j) = some (nI 1) := fun M hR => by
        obtain ⟨⟨r0, r1, -⟩, -⟩ := R0 hR
        exact ⟨ht_Line hl (by omega) (r1.trans c1), ht_Stop hj (by omega) (r0.trans c0)⟩
      have hm : ∀ M, Sm M s → F_X9_isLine M (nI l) = some (nI 1) ∧ F_X9_isStop M (nI j) = some (nI 1) := fun M hS =>
        ⟨it_Line hl (by omega) ((hS 1 (by omega)).trans c1), it_Stop hj (by omega) ((hS 0 (by omega)).trans c0)⟩
      rcases on_line hk0 (l := l) (k := j) (by omega) (by omega) with ⟨p, hp, rfl⟩ | hno
      · refine CmdE.bad 2 2 (by omega) (by omega) (by decide) (fun M hR => ?_) (fun M hS h6 => ?_)
        · simp (disch := omega) only [F_X7_faultOfExtension, hc M hR, srv_t hR (l := l) (by omega) hp (by omega), ix_i, ↓pn_m, pn_l0, pn_l1, pn_l2, pn_l3, pn_l4, pn_l5, pn_l6, pn_l7, pn_l8, pn_l9, pn_l10, pn_l11, pn_l12, pn_l16, pn_l18, pn_l20, pn_l31, pn_l32, pn_l40, pn_l45, pn_l48, pn_l51, pn_l57, pn_l59, pn_l60, pn_l62, pn_l64, pn_l69, pn_l97, pn_l98, pn_l99, pn_l100, pn_l101, pn_l105, pn_l107, pn_l108, pn_l114, pn_l115, pn_l116, pn_l117, pn_l119, pn_l126, pn_l129, pn_l240, pn_l903, pn_l1032, nI_add, pk_mul, pk_sub, nI_clamp, nI_leI, nI_ltI, nI_eq, pm_1, pm_2, pm_3, pm_4, pm_5, pm_6, pm_7, pm_8, pn_lt, pn_nlt, pn_le, pn_nle, pn_ne, pn_eq, not_true_eq_false, not_false_eq_true, true_and, and_true, false_and, and_false, true_or, or_true, false_or, or_false, or_self, and_self, ne_eq, reduceIte, if_true, if_false, Nat.add_zero, Nat.zero_add, Nat.mul_zero, Nat.reduceAdd, Nat.reduceMul, fw_wi, fw_ri, up_e, up_n1, up_n2, cp_n, bx_s, bp_s, bt_l, bt_r, lx_s]
        · simp (disch := omega) only [F_X9_doExtendLine, hm M hS, pos_some hk0 hS (l := l) (by omega) hp, F_X9_fails, ix_i, ↓pn_m, pn_l0, pn_l1, pn_l2, pn_l3, pn_l4, pn_l5, pn_l6, pn_l7, pn_l8, pn_l9, pn_l10, pn_l11, pn_l12, pn_l16, pn_l18, pn_l20, pn_l31, pn_l32, pn_l40, pn_l45, pn_l48, pn_l51, pn_l57, pn_l59, pn_l60, pn_l62, pn_l64, pn_l69, pn_l97, pn_l98, pn_l99, pn_l100, pn_l101, pn_l105, pn_l107, pn_l108, pn_l114, pn_l115, pn_l116, pn_l117, pn_l119, pn_l126, pn_l129, pn_l240, pn_l903, pn_l1032, nI_add, pk_mul, pk_sub, nI_clamp, nI_leI, nI_ltI, nI_eq, pm_1, pm_2, pm_3, pm_4, pm_5, pm_6, pm_7, pm_8, pn_lt, pn_nlt, pn_le, pn_nle, pn_ne, pn_eq, not_true_eq_false, not_false_eq_true, true_and, and_true, false_and, and_false, true_or, or_true, false_or, or_false, or_self, and_self, ne_eq, reduceIte, if_true, if_false, Nat.add_zero, Nat.zero_add, Nat.mul_zero, Nat.reduceAdd, Nat.reduceMul, fw_wi, fw_ri, up_e, up_n1, up_n2, cp_n, bx_s, bp_s, bt_l, bt_r, lx_s]
          exact ⟨_, rfl, up_e rfl rfl, md_6 md_0⟩
      · by_cases hn : sv s (16 + 7 * l) = 6
        · refine CmdE.bad 3 3 (by omega) (by omega) (by decide) (fun M hR => ?_) (fun M hS h6 => ?_)
          · obtain ⟨-, -, rl, -⟩ := R0 hR
            simp (disch := omega) only [F_X7_faultOfExtension, hc M hR, srv_f hk0 hR (l := l) (by omega) (by omega) hno, ix_i, ↓pn_m, pn_l0, pn_l1, pn_l2, pn_l3, pn_l4, pn_l5, pn_l6, pn_l7, pn_l8, pn_l9, pn_l10, pn_l11, pn_l12, pn_l16, pn_l18, pn_l20, pn_l31, pn_l32, pn_l40, pn_l45, pn_l48, pn_l51, pn_l57, pn_l59, pn_l60, pn_l62, pn_l64, pn_l69, pn_l97, pn_l98, pn_l99, pn_l100, pn_l101, pn_l105, pn_l107, pn_l108, pn_l114, pn_l115, pn_l116, pn_l117, pn_l119, pn_l126, pn_l129, pn_l240, pn_l903, pn_l1032, nI_add, pk_mul, pk_sub, nI_clamp, nI_leI, nI_ltI, nI_eq, pm_1, pm_2, pm_3, pm_4, pm_5, pm_6, pm_7, pm_8, pn_lt, pn_nlt, pn_le, pn_nle, pn_ne, pn_eq, not_true_eq_false, not_false_eq_true, true_and, and_true, false_and, and_false, true_or, or_true, false_or, or_false, or_self, and_self, ne_eq, reduceIte, if_true, if_false, Nat.add_zero, Nat.zero_add, Nat.mul_zero, Nat.reduceAdd, Nat.reduceMul, fw_wi, fw_ri, up_e, up_n1, up_n2, cp_n, bx_s, bp_s, bt_l, bt_r, lx_s, rl, l1]
          · simp (disch := omega) only [F_X9_doExtendLine, hm M hS, pos_none hk0 hS (l := l) (by omega) hno, lenM hk0 hS (l := l) (by omega), F_X9_fails, ix_i, ↓pn_m, pn_l0, pn_l1, pn_l2, pn_l3, pn_l4, pn_l5, pn_l6, pn_l7, pn_l8, pn_l9, pn_l10, pn_l11, pn_l12, pn_l16, pn_l18, pn_l20, pn_l31, pn_l32, pn_l40, pn_l45, pn_l48, pn_l51, pn_l57, pn_l59, pn_l60, pn_l62, pn_l64, pn_l69, pn_l97, pn_l98, pn_l99, pn_l100, pn_l101, pn_l105, pn_l107, pn_l108, pn_l114, pn_l115, pn_l116, pn_l117, pn_l119, pn_l126, pn_l129, pn_l240, pn_l903, pn_l1032, nI_add, pk_mul, pk_sub, nI_clamp, nI_leI, nI_ltI, nI_eq, pm_1, pm_2, pm_3, pm_4, pm_5, pm_6, pm_7, pm_8, pn_lt, pn_nlt, pn_le, pn_nle, pn_ne, pn_eq, not_true_eq_false, not_false_eq_true, true_and, and_true, false_and, and_false, true_or, or_true, false_or, or_false, or_self, and_self, ne_eq, reduceIte, if_true, if_false, Nat.add_zero, Nat.zero_add, Nat.mul_zero, Nat.reduceAdd, Nat.reduceMul, fw_wi, fw_ri, up_e, up_n1, up_n2, cp_n, bx_s, bp_s, bt_l, bt_r, lx_s]
            exact ⟨_, rfl, up_e rfl rfl, md_6 md_0⟩
        · have en : ∀ x, x ≠ 16 + 7 * l → x ≠ 16 + 7 * l + 1 + sv s (16 + 7 * l) → upd (upd s (16 + 7 * l + 1 + sv s (16 + 7 * l)) (nI j)) (16 + 7 * l) (nI (sv s (16 + 7 * l) + 1)) x = s x := fun x h1 h2 => by rw [pk_un h1, pk_un h2]
          have el : upd (upd s (16 + 7 * l + 1 + sv s (16 + 7 * l)) (nI j)) (16 + 7 * l) (nI (sv s (16 + 7 * l) + 1)) (16 + 7 * l) = nI (sv s (16 + 7 * l) + 1) := pk_us
          have ej : upd (upd s (16 + 7 * l + 1 + sv s (16 + 7 * l)) (nI j)) (16 + 7 * l) (nI (sv s (16 + 7 * l) + 1)) (16 + 7 * l + 1 + sv s (16 + 7 * l)) = nI j := by rw [pk_un (by omega), pk_us]
          refine CmdE.good (nI (sv s (16 + 7 * l))) (upd (upd s (16 + 7 * l + 1 + sv s (16 + 7 * l)) (nI j)) (16 + 7 * l) (nI (sv s (16 + 7 * l) + 1))) ?_ (fun M hR => ?_) (fun M hR => ?_) (fun M hS h6 => ?_)
          · generalize upd (upd s (16 + 7 * l + 1 + sv s (16 + 7 * l)) (nI j)) (16 + 7 * l) (nI (sv s (16 + 7 * l) + 1)) = s1 at en el ej ⊢
            have vl : sv s1 (16 + 7 * l) = sv s (16 + 7 * l) + 1 := sv_of el (by omega)
            have vj : sv s1 (16 + 7 * l + 1 + sv s (16 + 7 * l)) = j := sv_of ej (by omega)
            have v0 : sv s1 0 = sv s 0 := sv_cong (en 0 (by omega) (by omega))
            have v1 : sv s1 1 = sv s 1 := sv_cong (en 1 (by omega) (by omega))
            have v2 : sv s1 2 = sv s 2 := sv_cong (en 2 (by omega) (by omega))
            have v3 : sv s1 3 = sv s 3 := sv_cong (en 3 (by omega) (by omega))
            have old : ∀ l2, l2 < 5 → l2 ≠ l → s1 (16 + 7 * l2) = s (16 + 7 * l2) ∧ ∀ p, p < 6 → s1 (16 + 7 * l2 + 1 + p) = s (16 + 7 * l2 + 1 + p) := fun l2 hl hne => ⟨en _ (by omega) (by omega), fun p hp => en _ (by omega) (by omega)⟩
            have sml : ∀ p, p < sv s (16 + 7 * l) → s1 (16 + 7 * l + 1 + p) = s (16 + 7 * l + 1 + p) := fun p hp => en _ (by omega) (by omega)
            refine ⟨?_, ?_, ?_, ?_, ?_, ?_, ?_, ?_⟩
            · exact (show okc s from ⟨⟨c0, b0⟩, ⟨c1, b1⟩, ⟨c2, b2⟩, ⟨c3, b3⟩, c4, b4⟩).c (fun x hx => en _ (by omega) (by omega))
            · exact oz.c (fun x h1 h2 => en _ (by omega) (by omega))
            · intro l3 hl3
              by_cases e : l3 = l
              · subst e
                rw [vl, v1]
                exact ⟨el, by omega, fun _ => by omega, fun _ => by omega⟩
              · obtain ⟨o1, -⟩ := old l3 hl3 e
                rw [sv_cong o1, o1, v1]
                exact ol l3 hl3
            · intro l3 p hl3 hp
              by_cases e : l3 = l
              · subst e
                rw [vl] at hp
                by_cases ep : p = sv s (16 + 7 * l3)
                · subst ep
                  rw [vj, v0]
                  exact ⟨ej, hj⟩
                · rw [sv_cong (sml p (by omega)), sml p (by omega), v0]
                  exact os l3 p hl3 (by omega)
              · obtain ⟨o1, o2⟩ := old l3 hl3 e
                rw [sv_cong o1] at hp
                have l6 := (ol l3 hl3).2.1
                rw [sv_cong (o2 p (by omega)), o2 p (by omega), v0]
                exact os l3 p hl3 hp
            · intro l3 p q hl3 hp hq
              by_cases e : l3 = l
              · subst e
                rw [vl] at hq
                by_cases eq : q = sv s (16 + 7 * l3)
                · subst eq
                  rw [vj, sv_cong (sml p (by omega))]
                  intro h
                  have := (os l3 p hl3 hp).1
                  rw [h] at this
                  exact hno p hp this
                · rw [sv_cong (sml p (by omega)), sv_cong (sml q (by omega))]
                  exact od l3 p q hl3 hp (by omega)
              · obtain ⟨o1, o2⟩ := old l3 hl3 e
                rw [sv_cong o1] at hq
                have l6 := (ol l3 hl3).2.1
                rw [sv_cong (o2 p (by omega)), sv_cong (o2 q (by omega))]
                exact od l3 p q hl3 hp hq
            · refine ot.c b1 b2 (en _ (by omega) (by omega)) (by omega) (fun l3 hl3 => ?_) (fun x h1 h2 => en _ (by omega) (by omega))
              by_cases e : l3 = l
              · subst e; omega
              · rw [sv_cong (old l3 (by omega) e).1]; exact Nat.le_refl _
            · exact op.c b3 (en _ (by omega) (by omega)) (by omega) (by omega) (fun x h1 h2 => en _ (by omega) (by omega))
            · exact oq.c b4 (en _ (by omega) (by omega)) (by omega) (fun x h1 h2 => en _ (by omega) (by omega))
          · obtain ⟨-, -, rl, -⟩ := R0 hR
            simp (disch := omega) only [F_X7_faultOfExtension, hc M hR, srv_f hk0 hR (l := l) (by omega) (by omega) hno, ix_i, ↓pn_m, pn_l0, pn_l1, pn_l2, pn_l3, pn_l4, pn_l5, pn_l6, pn_l7, pn_l8, pn_l9, pn_l10, pn_l11, pn_l12, pn_l16, pn_l18, pn_l20, pn_l31, pn_l32, pn_l40, pn_l45, pn_l48, pn_l51, pn_l57, pn_l59, pn_l60, pn_l62, pn_l64, pn_l69, pn_l97, pn_l98, pn_l99, pn_l100, pn_l101, pn_l105, pn_l107, pn_l108, pn_l114, pn_l115, pn_l116, pn_l117, pn_l119, pn_l126, pn_l129, pn_l240, pn_l903, pn_l1032, nI_add, pk_mul, pk_sub, nI_clamp, nI_leI, nI_ltI, nI_eq, pm_1, pm_2, pm_3, pm_4, pm_5, pm_6, pm_7, pm_8, pn_lt, pn_nlt, pn_le, pn_nle, pn_ne, pn_eq, not_true_eq_false, not_false_eq_true, true_and, and_true, false_and, and_false, true_or, or_true, false_or, or_false, or_self, and_self, ne_eq, reduceIte, if_true, if_false, Nat.add_zero, Nat.zero_add, Nat.mul_zero, Nat.reduceAdd, Nat.reduceMul, fw_wi, fw_ri, up_e, up_n1, up_n2, cp_n, bx_s, bp_s, bt_l, bt_r, lx_s, rl, l1]
          · obtain ⟨⟨r0, r1, r2, r3, r4, r5⟩, rz, rl, rs, rt, ru, rp, rq⟩ := R0 hR
            obtain ⟨Q0, Q1, Q2, Q3, Q4, Q5, Q6, Q7⟩ := hR
            have f1 : nI (lset s l) ||| (nI 1 <<< (nI j &&& nI 31)) = nI (lset s l ||| 2 ^ j) := sh_or (by omega)
            simp (disch := omega) only [F_X3_appendStop, ix_i, ↓pn_m, pn_l0, pn_l1, pn_l2, pn_l3, pn_l4, pn_l5, pn_l6, pn_l7, pn_l8, pn_l9, pn_l10, pn_l11, pn_l12, pn_l16, pn_l18, pn_l20, pn_l31, pn_l32, pn_l40, pn_l45, pn_l48, pn_l51, pn_l57, pn_l59, pn_l60, pn_l62, pn_l64, pn_l69, pn_l97, pn_l98, pn_l99, pn_l100, pn_l101, pn_l105, pn_l107, pn_l108, pn_l114, pn_l115, pn_l116, pn_l117, pn_l119, pn_l126, pn_l129, pn_l240, pn_l903, pn_l1032, nI_add, pk_mul, pk_sub, nI_clamp, nI_leI, nI_ltI, nI_eq, pm_1, pm_2, pm_3, pm_4, pm_5, pm_6, pm_7, pm_8, pn_lt, pn_nlt, pn_le, pn_nle, pn_ne, pn_eq, not_true_eq_false, not_false_eq_true, true_and, and_true, false_and, and_false, true_or, or_true, false_or, or_false, or_self, and_self, ne_eq, reduceIte, if_true, if_false, Nat.add_zero, Nat.zero_add, Nat.mul_zero, Nat.reduceAdd, Nat.reduceMul, fw_wi, fw_ri, up_e, up_n1, up_n2, cp_n, bx_s, bp_s, bt_l, bt_r, lx_s, rl, l1, f1]
            generalize upd (upd s (16 + 7 * l + 1 + sv s (16 + 7 * l)) (nI j)) (16 + 7 * l) (nI (sv s (16 + 7 * l) + 1)) = s1 at en el ej ⊢
            have vl : sv s1 (16 + 7 * l) = sv s (16 + 7 * l) + 1 := sv_of el (by omega)
            have vj : sv s1 (16 + 7 * l + 1 + sv s (16 + 7 * l)) = j := sv_of ej (by omega)
            refine ⟨_, rfl, ⟨?_, ?_, ?_, ?_, ?_, ?_, ?_, ?_⟩, fun k hk => by simp (disch := omega) only [up_n1]⟩
            · unfold Rn
              simp (disch := omega) only [fw_wi, fw_ri, up_e, up_n1, up_n2, cp_n, Nat.zero_add, en, r0, r1, r2, r3, r4, r5, and_true]
            · exact Q1.c (by simp (disch := omega) only [up_n1]) (fun x h1 h2 => en _ (by omega) (by omega))
            · intro l3 hl3
              by_cases e : l3 = l
              · subst e
                have eb : lset s1 l3 = lset s l3 ||| 2 ^ j := by
                  unfold lset
                  rw [vl, bs, vj]
                  congr 1
                  exact bs_cong (fun k hk => sv_cong (en _ (by omega) (by omega)))
                rw [eb, el]
                simp (disch := omega) only [fw_wi, fw_ri, up_e, up_n1, up_n2, cp_n, Nat.zero_add, and_self]
              · have eb : lset s1 l3 = lset s l3 := lset.c (ol l3 hl3).2.1 (fun x hx => en _ (by omega) (by omega))
                rw [eb, en _ (by omega) (by omega)]
                simp (disch := omega) only [fw_wi, fw_ri, up_e, up_n1, up_n2, cp_n, Nat.zero_add]
                exact rl l3 hl3
            · intro l3 p hl3 hp
              by_cases e : l3 = l ∧ p = sv s (16 + 7 * l)
              · obtain ⟨e1, e2⟩ := e
                subst e1
                subst e2
                rw [ej]
                simp (disch := omega) only [fw_wi, fw_ri, up_e, up_n1, up_n2, cp_n, Nat.zero_add]
              · rw [en _ (by omega) (by omega)]
                by_cases e3 : l3 = l
                · subst e3
                  simp (disch := omega) only [fw_wi, fw_ri, up_e, up_n1, up_n2, cp_n, Nat.zero_add]
                  exact rs l3 p hl3 hp
                · simp (disch := omega) only [fw_wi, fw_ri, up_e, up_n1, up_n2, cp_n, Nat.zero_add]
                  exact rs l3 p hl3 hp
            · exact Q4.c (by simp (disch := omega) only [up_n1]) (by simp (disch := omega) only [up_n1]) (fun x h1 h2 => en _ (by omega) (by omega))
            · exact Q5.c b2 (by simp (disch := omega) only [up_n1]) (en _ (by omega) (by omega)) (fun x h1 h2 => en _ (by omega) (by omega))
            · exact Q6.c (fun k h1 h2 => by simp (disch := omega) only [up_n1]) (fun x h1 h2 => en _ (by omega) (by omega))
            · exact Q7.c (by simp (disch := omega) only [up_n1]) (by simp (disch := omega) only [up_n1]) (fun x h1 h2 => en _ (by omega) (by omega))
          · have hS0 := hS
            have hS1 : ∀ j, j < 129 → M 379 j = s j := hS
            simp (disch := omega) only [F_X9_doExtendLine, hm M hS, pos_none hk0 hS (l := l) (by omega) hno, lenM hk0 hS (l := l) (by omega), F_X9_fails, ix_i, ↓pn_m, pn_l0, pn_l1, pn_l2, pn_l3, pn_l4, pn_l5, pn_l6, pn_l7, pn_l8, pn_l9, pn_l10, pn_l11, pn_l12, pn_l16, pn_l18, pn_l20, pn_l31, pn_l32, pn_l40, pn_l45, pn_l48, pn_l51, pn_l57, pn_l59, pn_l60, pn_l62, pn_l64, pn_l69, pn_l97, pn_l98, pn_l99, pn_l100, pn_l101, pn_l105, pn_l107, pn_l108, pn_l114, pn_l115, pn_l116, pn_l117, pn_l119, pn_l126, pn_l129, pn_l240, pn_l903, pn_l1032, nI_add, pk_mul, pk_sub, nI_clamp, nI_leI, nI_ltI, nI_eq, pm_1, pm_2, pm_3, pm_4, pm_5, pm_6, pm_7, pm_8, pn_lt, pn_nlt, pn_le, pn_nle, pn_ne, pn_eq, not_true_eq_false, not_false_eq_true, true_and, and_true, false_and, and_false, true_or, or_true, false_or, or_false, or_self, and_self, ne_eq, reduceIte, if_true, if_false, Nat.add_zero, Nat.zero_add, Nat.mul_zero, Nat.reduceAdd, Nat.reduceMul, fw_wi, fw_ri, up_e, up_n1, up_n2, cp_n, bx_s, bp_s, bt_l, bt_r, lx_s, hS1, l1]
            exact ⟨_, rfl, Sm_u (Sm_u hS0), by rw [up_n1 (by omega), up_n1 (by omega), h6], md_9 (md_9 md_0)⟩
    · refine CmdE.bad 1 1 (by omega) (by omega) (by decide) (fun M hR => ?_) (fun M hS h6 => ?_)
      · obtain ⟨⟨r0, r1, -⟩, -⟩ := R0 hR
        have e1 : F_X3_hasStop M 1 b = some (nI 0) := hs_Stop ho (r0.trans c0)
        have e2 : F_X3_hasLine M 1 (nI l) = some (nI 1) := ht_Line hl (by omega) (r1.trans c1)
        simp (disch := omega) only [F_X7_faultOfExtension, e1, e2, ix_i, ↓pn_m, pn_l0, pn_l1, pn_l2, pn_l3, pn_l4, pn_l5, pn_l6, pn_l7, pn_l8, pn_l9, pn_l10, pn_l11, pn_l12, pn_l16, pn_l18, pn_l20, pn_l31, pn_l32, pn_l40, pn_l45, pn_l48, pn_l51, pn_l57, pn_l59, pn_l60, pn_l62, pn_l64, pn_l69, pn_l97, pn_l98, pn_l99, pn_l100, pn_l101, pn_l105, pn_l107, pn_l108, pn_l114, pn_l115, pn_l116, pn_l117, pn_l119, pn_l126, pn_l129, pn_l240, pn_l903, pn_l1032, nI_add, pk_mul, pk_sub, nI_clamp, nI_leI, nI_ltI, nI_eq, pm_1, pm_2, pm_3, pm_4, pm_5, pm_6, pm_7, pm_8, pn_lt, pn_nlt, pn_le, pn_nle, pn_ne, pn_eq, not_true_eq_false, not_false_eq_true, true_and, and_true, false_and, and_false, true_or, or_true, false_or, or_false, or_self, and_self, ne_eq, reduceIte, if_true, if_false, Nat.add_zero, Nat.zero_add, Nat.mul_zero, Nat.reduceAdd, Nat.reduceMul, fw_wi, fw_ri, up_e, up_n1, up_n2, cp_n, bx_s, bp_s, bt_l, bt_r, lx_s]
      · have e1 : F_X9_isStop M b = some (nI 0) := is_Stop ho (by omega) ((hS 0 (by omega)).trans c0)
        have e2 : F_X9_isLine M (nI l) = some (nI 1) := it_Line hl (by omega) ((hS 1 (by omega)).trans c1)
        simp (disch := omega) only [F_X9_doExtendLine, e1, e2, F_X9_fails, ix_i, ↓pn_m, pn_l0, pn_l1, pn_l2, pn_l3, pn_l4, pn_l5, pn_l6, pn_l7, pn_l8, pn_l9, pn_l10, pn_l11, pn_l12, pn_l16, pn_l18, pn_l20, pn_l31, pn_l32, pn_l40, pn_l45, pn_l48, pn_l51, pn_l57, pn_l59, pn_l60, pn_l62, pn_l64, pn_l69, pn_l97, pn_l98, pn_l99, pn_l100, pn_l101, pn_l105, pn_l107, pn_l108, pn_l114, pn_l115, pn_l116, pn_l117, pn_l119, pn_l126, pn_l129, pn_l240, pn_l903, pn_l1032, nI_add, pk_mul, pk_sub, nI_clamp, nI_leI, nI_ltI, nI_eq, pm_1, pm_2, pm_3, pm_4, pm_5, pm_6, pm_7, pm_8, pn_lt, pn_nlt, pn_le, pn_nle, pn_ne, pn_eq, not_true_eq_false, not_false_eq_true, true_and, and_true, false_and, and_false, true_or, or_true, false_or, or_false, or_self, and_self, ne_eq, reduceIte, if_true, if_false, Nat.add_zero, Nat.zero_add, Nat.mul_zero, Nat.reduceAdd, Nat.reduceMul, fw_wi, fw_ri, up_e, up_n1, up_n2, cp_n, bx_s, bp_s, bt_l, bt_r, lx_s]
        exact ⟨_, rfl, up_e rfl rfl, md_6 md_0⟩
  · refine CmdE.bad 1 1 (by omega) (by omega) (by decide) (fun M hR => ?_) (fun M hS h6 => ?_)
    · obtain ⟨⟨r0, r1, -⟩, -⟩ := R0 hR
      have e1 : F_X3_hasLine M 1 a = some (nI 0) := hs_Line ho (r1.trans c1)
      simp (disch := omega) only [F_X7_faultOfExtension, e1, ix_i, ↓pn_m, pn_l0, pn_l1, pn_l2, pn_l3, pn_l4, pn_l5, pn_l6, pn_l7, pn_l8, pn_l9, pn_l10, pn_l11, pn_l12, pn_l16, pn_l18, pn_l20, pn_l31, pn_l32, pn_l40, pn_l45, pn_l48, pn_l51, pn_l57, pn_l59, pn_l60, pn_l62, pn_l64, pn_l69, pn_l97, pn_l98, pn_l99, pn_l100, pn_l101, pn_l105, pn_l107, pn_l108, pn_l114, pn_l115, pn_l116, pn_l117, pn_l119, pn_l126, pn_l129, pn_l240, pn_l903, pn_l1032, nI_add, pk_mul, pk_sub, nI_clamp, nI_leI, nI_ltI, nI_eq, pm_1, pm_2, pm_3, pm_4, pm_5, pm_6, pm_7, pm_8, pn_lt, pn_nlt, pn_le, pn_nle, pn_ne, pn_eq, not_true_eq_false, not_false_eq_true, true_and, and_true, false_and, and_false, true_or, or_true, false_or, or_false, or_self, and_self, ne_eq, reduceIte, if_true, if_false, Nat.add_zero, Nat.zero_add, Nat.mul_zero, Nat.reduceAdd, Nat.reduceMul, fw_wi, fw_ri, up_e, up_n1, up_n2, cp_n, bx_s, bp_s, bt_l, bt_r, lx_s]
    · have e1 : F_X9_isLine M a = some (nI 0) := is_Line ho (by omega) ((hS 1 (by omega)).trans c1)
      simp (disch := omega) only [F_X9_doExtendLine, e1, F_X9_fails, ix_i, ↓pn_m, pn_l0, pn_l1, pn_l2, pn_l3, pn_l4, pn_l5, pn_l6, pn_l7, pn_l8, pn_l9, pn_l10, pn_l11, pn_l12, pn_l16, pn_l18, pn_l20, pn_l31, pn_l32, pn_l40, pn_l45, pn_l48, pn_l51, pn_l57, pn_l59, pn_l60, pn_l62, pn_l64, pn_l69, pn_l97, pn_l98, pn_l99, pn_l100, pn_l101, pn_l105, pn_l107, pn_l108, pn_l114, pn_l115, pn_l116, pn_l117, pn_l119, pn_l126, pn_l129, pn_l240, pn_l903, pn_l1032, nI_add, pk_mul, pk_sub, nI_clamp, nI_leI, nI_ltI, nI_eq, pm_1, pm_2, pm_3, pm_4, pm_5, pm_6, pm_7, pm_8, pn_lt, pn_nlt, pn_le, pn_nle, pn_ne, pn_eq, not_true_eq_false, not_false_eq_true, true_and, and_true, false_and, and_false, true_or, or_true, false_or, or_false, or_self, and_self, ne_eq, reduceIte, if_true, if_false, Nat.add_zero, Nat.zero_add, Nat.mul_zero, Nat.reduceAdd, Nat.reduceMul, fw_wi, fw_ri, up_e, up_n1, up_n2, cp_n, bx_s, bp_s, bt_l, bt_r, lx_s]
      exact ⟨_, rfl, up_e rfl rfl, md_6 md_0⟩
