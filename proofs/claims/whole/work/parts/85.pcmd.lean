/-! the eleven commands, each on both sides: its fault, its answer, the picture behind it -/
def md (M M1 : fw_M) : Prop := (∀ c, c ≠ 379 → c ≠ 378 → M1 c = M c) ∧ (∀ j, j ≠ 6 → M1 378 j = M 378 j)
theorem md_0 {M : fw_M} : md M M := ⟨fun _ _ _ => rfl, fun _ _ => rfl⟩
theorem md_6 {M M1 : fw_M} {x : Int32} (h : md M M1) : md M (fw_up M1 378 6 x) := ⟨fun c h1 h2 => (up_n1 h2).trans (h.1 c h1 h2), fun j hj => (up_n2 hj).trans (h.2 j hj)⟩
theorem md_9 {M M1 : fw_M} {j : Nat} {x : Int32} (h : md M M1) : md M (fw_up M1 379 j x) := ⟨fun c h1 h2 => (up_n1 h1).trans (h.1 c h1 h2), fun j hj => (congrFun (up_n1 (by omega)) j).trans (h.2 j hj)⟩
theorem md_t {M M1 M2 : fw_M} (h : md M M1) (q : md M1 M2) : md M M2 := ⟨fun c h1 h2 => (q.1 c h1 h2).trans (h.1 c h1 h2), fun j hj => (q.2 j hj).trans (h.2 j hj)⟩
def Cmd (s : Nat → Int32) (f t : Nat) (ans : Int32) (s1 : Nat → Int32) (fa : fw_M → Option Int32) (ap doo : fw_M → Option (Int32 × fw_M)) : Prop :=
  (∀ M, R M 0 s → fa M = some (nI f)) ∧ f ≤ 5 ∧
  (f = 0 → ok s1 ∧ ∀ M, R M 0 s → ∃ M1, ap M = some (ans, M1) ∧ R M1 0 s1 ∧ ∀ k, 32 ≤ k → M1 k = M k) ∧
  (f = 0 → ∀ M, Sm M s → M 378 6 = nI 0 → ∃ M1, doo M = some (ans, M1) ∧ Sm M1 s1 ∧ M1 378 6 = nI 0 ∧ md M M1) ∧
  (f ≠ 0 → 0 < t ∧ t < 5 ∧ ∀ M, Sm M s → M 378 6 = nI 0 → ∃ M1, doo M = some (nI 0, M1) ∧ M1 378 6 = nI t ∧ md M M1)
def CmdE (es : List Nat) (s : Nat → Int32) (fa : fw_M → Option Int32) (ap doo : fw_M → Option (Int32 × fw_M)) : Prop :=
  ∃ f t ans s1, Cmd s f t ans s1 fa ap doo ∧ (f ≠ 0 → f - 1 ∈ es ∧ es.idxOf (f - 1) + 1 = t)
theorem CmdE.bad {es : List Nat} {s : Nat → Int32} {fa : fw_M → Option Int32} {ap doo : fw_M → Option (Int32 × fw_M)} (f t : Nat) (hf : 0 < f ∧ f ≤ 5) (ht : 0 < t ∧ t < 5) (he : f - 1 ∈ es ∧ es.idxOf (f - 1) + 1 = t) (h1 : ∀ M, R M 0 s → fa M = some (nI f)) (h2 : ∀ M, Sm M s → M 378 6 = nI 0 → ∃ M1, doo M = some (nI 0, M1) ∧ M1 378 6 = nI t ∧ md M M1) : CmdE es s fa ap doo :=
  ⟨f, t, 0, s, ⟨h1, hf.2, fun e => by omega, fun e => by omega, fun _ => ⟨ht.1, ht.2, h2⟩⟩, fun _ => he⟩
theorem CmdE.good {es : List Nat} {s : Nat → Int32} {fa : fw_M → Option Int32} {ap doo : fw_M → Option (Int32 × fw_M)} (ans : Int32) (s1 : Nat → Int32) (hk : ok s1) (h1 : ∀ M, R M 0 s → fa M = some (nI 0)) (h2 : ∀ M, R M 0 s → ∃ M1, ap M = some (ans, M1) ∧ R M1 0 s1 ∧ ∀ k, 32 ≤ k → M1 k = M k) (h3 : ∀ M, Sm M s → M 378 6 = nI 0 → ∃ M1, doo M = some (ans, M1) ∧ Sm M1 s1 ∧ M1 378 6 = nI 0 ∧ md M M1) : CmdE es s fa ap doo :=
  ⟨0, 1, ans, s1, ⟨h1, by omega, fun _ => ⟨hk, h2⟩, fun _ => h3, fun e => absurd rfl e⟩, fun e => absurd rfl e⟩
theorem iz_f {M : fw_M} {a : Int32} (h : a < nI 0 ∨ nI 4 ≤ a) : F_X8_isZone M a = some (nI 0) := by
  unfold F_X8_isZone
  rcases h with h | h
  · exact if_pos h
  · by_cases h0 : a < 0
    · exact if_pos h0
    · rw [if_neg h0]
      exact if_pos h
theorem iz_t {M : fw_M} {k : Nat} (h : k < 4) : F_X8_isZone M (nI k) = some (nI 1) := by
  unfold F_X8_isZone
  simp (disch := omega) only [ix_i, ↓pn_m, pn_l0, pn_l1, pn_l2, pn_l3, pn_l4, pn_l5, pn_l6, pn_l7, pn_l8, pn_l9, pn_l10, pn_l11, pn_l12, pn_l16, pn_l18, pn_l20, pn_l31, pn_l32, pn_l40, pn_l45, pn_l48, pn_l51, pn_l57, pn_l59, pn_l60, pn_l62, pn_l64, pn_l69, pn_l97, pn_l98, pn_l99, pn_l100, pn_l101, pn_l105, pn_l107, pn_l108, pn_l114, pn_l115, pn_l116, pn_l117, pn_l119, pn_l126, pn_l129, pn_l240, pn_l903, pn_l1032, nI_add, pk_mul, pk_sub, nI_clamp, nI_leI, nI_ltI, nI_eq, pm_1, pm_2, pm_3, pm_4, pm_5, pm_6, pm_7, pm_8, pn_lt, pn_nlt, pn_le, pn_nle, pn_ne, pn_eq, not_true_eq_false, not_false_eq_true, true_and, and_true, false_and, and_false, true_or, or_true, false_or, or_false, or_self, and_self, ne_eq, reduceIte, if_true, if_false, Nat.add_zero, Nat.zero_add, Nat.mul_zero, Nat.reduceAdd, Nat.reduceMul]
theorem in_z {M : fw_M} {k : Nat} (h : k < 4) : F_X9_in M (nI k) (nI 0) (nI 3) = some (nI 1) := by
  unfold F_X9_in
  simp (disch := omega) only [ix_i, ↓pn_m, pn_l0, pn_l1, pn_l2, pn_l3, pn_l4, pn_l5, pn_l6, pn_l7, pn_l8, pn_l9, pn_l10, pn_l11, pn_l12, pn_l16, pn_l18, pn_l20, pn_l31, pn_l32, pn_l40, pn_l45, pn_l48, pn_l51, pn_l57, pn_l59, pn_l60, pn_l62, pn_l64, pn_l69, pn_l97, pn_l98, pn_l99, pn_l100, pn_l101, pn_l105, pn_l107, pn_l108, pn_l114, pn_l115, pn_l116, pn_l117, pn_l119, pn_l126, pn_l129, pn_l240, pn_l903, pn_l1032, nI_add, pk_mul, pk_sub, nI_clamp, nI_leI, nI_ltI, nI_eq, pm_1, pm_2, pm_3, pm_4, pm_5, pm_6, pm_7, pm_8, pn_lt, pn_nlt, pn_le, pn_nle, pn_ne, pn_eq, not_true_eq_false, not_false_eq_true, true_and, and_true, false_and, and_false, true_or, or_true, false_or, or_false, or_self, and_self, ne_eq, reduceIte, if_true, if_false, Nat.add_zero, Nat.zero_add, Nat.mul_zero, Nat.reduceAdd, Nat.reduceMul]
theorem Sm_u {M : fw_M} {s : Nat → Int32} {k : Nat} {x : Int32} (h : Sm M s) : Sm (fw_up M 379 k x) (upd s k x) := by
  intro j hj
  by_cases e : j = k
  · rw [up_e rfl e, pk_u1 e]
  · rw [up_n2 e, pk_un e, h j hj]
/-! 1: stop -/
theorem c_stop {s : Nat → Int32} (hk : ok s) (a : Int32) : CmdE [1, 2] s (fun M => F_X7_faultOfStop M 0 a) (fun M => F_X3_putStop M 1 a) (fun M => F_X9_doAddStop M a) := by
  have hk0 := hk
  obtain ⟨⟨⟨c0, b0⟩, ⟨c1, b1⟩, ⟨c2, b2⟩, ⟨c3, b3⟩, c4, b4⟩, oz, ol, os, od, ot, op, oq⟩ := hk
  rcases px_o a (n := 4) (by omega) with ⟨z, hz, rfl⟩ | hz
  · by_cases hn : sv s 0 = 10
    · refine CmdE.bad 3 2 (by omega) (by omega) (by decide) (fun M hR => ?_) (fun M hS h6 => ?_)
      · obtain ⟨⟨r0, -⟩, -⟩ := R0 hR
        simp (disch := omega) only [F_X7_faultOfStop, iz_t, ix_i, ↓pn_m, pn_l0, pn_l1, pn_l2, pn_l3, pn_l4, pn_l5, pn_l6, pn_l7, pn_l8, pn_l9, pn_l10, pn_l11, pn_l12, pn_l16, pn_l18, pn_l20, pn_l31, pn_l32, pn_l40, pn_l45, pn_l48, pn_l51, pn_l57, pn_l59, pn_l60, pn_l62, pn_l64, pn_l69, pn_l97, pn_l98, pn_l99, pn_l100, pn_l101, pn_l105, pn_l107, pn_l108, pn_l114, pn_l115, pn_l116, pn_l117, pn_l119, pn_l126, pn_l129, pn_l240, pn_l903, pn_l1032, nI_add, pk_mul, pk_sub, nI_clamp, nI_leI, nI_ltI, nI_eq, pm_1, pm_2, pm_3, pm_4, pm_5, pm_6, pm_7, pm_8, pn_lt, pn_nlt, pn_le, pn_nle, pn_ne, pn_eq, not_true_eq_false, not_false_eq_true, true_and, and_true, false_and, and_false, true_or, or_true, false_or, or_false, or_self, and_self, ne_eq, reduceIte, if_true, if_false, Nat.add_zero, Nat.zero_add, Nat.mul_zero, Nat.reduceAdd, Nat.reduceMul, fw_wi, fw_ri, up_e, up_n1, up_n2, cp_n, bx_s, bp_s, bt_l, bt_r, lx_s, r0, c0]
      · simp (disch := omega) only [F_X9_doAddStop, in_z, F_X9_fails, ix_i, ↓pn_m, pn_l0, pn_l1, pn_l2, pn_l3, pn_l4, pn_l5, pn_l6, pn_l7, pn_l8, pn_l9, pn_l10, pn_l11, pn_l12, pn_l16, pn_l18, pn_l20, pn_l31, pn_l32, pn_l40, pn_l45, pn_l48, pn_l51, pn_l57, pn_l59, pn_l60, pn_l62, pn_l64, pn_l69, pn_l97, pn_l98, pn_l99, pn_l100, pn_l101, pn_l105, pn_l107, pn_l108, pn_l114, pn_l115, pn_l116, pn_l117, pn_l119, pn_l126, pn_l129, pn_l240, pn_l903, pn_l1032, nI_add, pk_mul, pk_sub, nI_clamp, nI_leI, nI_ltI, nI_eq, pm_1, pm_2, pm_3, pm_4, pm_5, pm_6, pm_7, pm_8, pn_lt, pn_nlt, pn_le, pn_nle, pn_ne, pn_eq, not_true_eq_false, not_false_eq_true, true_and, and_true, false_and, and_false, true_or, or_true, false_or, or_false, or_self, and_self, ne_eq, reduceIte, if_true, if_false, Nat.add_zero, Nat.zero_add, Nat.mul_zero, Nat.reduceAdd, Nat.reduceMul, fw_wi, fw_ri, up_e, up_n1, up_n2, cp_n, bx_s, bp_s, bt_l, bt_r, lx_s, hS 0 (by omega), c0]
        exact ⟨_, rfl, up_e rfl rfl, md_6 md_0⟩
    · refine CmdE.good (nI (sv s 0)) (upd (upd s (6 + sv s 0) (nI z)) 0 (nI (sv s 0 + 1))) ?_ (fun M hR => ?_) (fun M hR => ?_) (fun M hS h6 => ?_)
      · have e0 : sv (upd (upd s (6 + sv s 0) (nI z)) 0 (nI (sv s 0 + 1))) 0 = sv s 0 + 1 := sv_of pk_us (by omega)
        have en : ∀ j, j ≠ 0 → j ≠ 6 + sv s 0 → upd (upd s (6 + sv s 0) (nI z)) 0 (nI (sv s 0 + 1)) j = s j := fun j h1 h2 => by rw [pk_un h1, pk_un h2]
        generalize hg : upd (upd s (6 + sv s 0) (nI z)) 0 (nI (sv s 0 + 1)) = s1 at e0 en ⊢
        refine ⟨?_, ?_, ?_, ?_, ?_, ?_, ?_, ?_⟩
        · unfold okc
          rw [e0, sv_cong (en 1 (by omega) (by omega)), sv_cong (en 2 (by omega) (by omega)), sv_cong (en 3 (by omega) (by omega)), sv_cong (en 4 (by omega) (by omega)), en 1 (by omega) (by omega), en 2 (by omega) (by omega), en 3 (by omega) (by omega), en 4 (by omega) (by omega)]
          refine ⟨⟨?_, by omega⟩, ⟨c1, b1⟩, ⟨c2, b2⟩, ⟨c3, b3⟩, c4, b4⟩
          rw [← hg, pk_us]
        · intro j hj
          by_cases e : j = sv s 0
          · have e2 : s1 (6 + j) = nI z := by rw [← hg, pk_un (by omega), pk_u1 (by omega)]
            rw [sv_of e2 (by omega)]
            exact ⟨e2, hz⟩
          · rw [sv_cong (en (6 + j) (by omega) (by omega)), en (6 + j) (by omega) (by omega)]
            exact oz j hj
        · exact ol.c (en 1 (by omega) (by omega)) (fun l hl => en _ (by omega) (by omega))
        · exact os.c ol (by omega) (fun j h1 h2 => en _ (by omega) (by omega))
        · exact od.c ol (fun j h1 h2 => en _ (by omega) (by omega))
        · exact ot.c b1 b2 (en _ (by omega) (by omega)) (by rw [sv_cong (en 1 (by omega) (by omega))]; omega) (fun l hl => by rw [sv_cong (en (16 + 7 * l) (by omega) (by omega))]; omega) (fun j h1 h2 => en _ (by omega) (by omega))
        · exact op.c b3 (en _ (by omega) (by omega)) (by omega) (by rw [sv_cong (en 2 (by omega) (by omega))]; omega) (fun j h1 h2 => en _ (by omega) (by omega))
        · exact oq.c b4 (en _ (by omega) (by omega)) (by rw [sv_cong (en 3 (by omega) (by omega))]; omega) (fun j h1 h2 => en _ (by omega) (by omega))
      · obtain ⟨⟨r0, -⟩, -⟩ := R0 hR
        simp (disch := omega) only [F_X7_faultOfStop, iz_t, ix_i, ↓pn_m, pn_l0, pn_l1, pn_l2, pn_l3, pn_l4, pn_l5, pn_l6, pn_l7, pn_l8, pn_l9, pn_l10, pn_l11, pn_l12, pn_l16, pn_l18, pn_l20, pn_l31, pn_l32, pn_l40, pn_l45, pn_l48, pn_l51, pn_l57, pn_l59, pn_l60, pn_l62, pn_l64, pn_l69, pn_l97, pn_l98, pn_l99, pn_l100, pn_l101, pn_l105, pn_l107, pn_l108, pn_l114, pn_l115, pn_l116, pn_l117, pn_l119, pn_l126, pn_l129, pn_l240, pn_l903, pn_l1032, nI_add, pk_mul, pk_sub, nI_clamp, nI_leI, nI_ltI, nI_eq, pm_1, pm_2, pm_3, pm_4, pm_5, pm_6, pm_7, pm_8, pn_lt, pn_nlt, pn_le, pn_nle, pn_ne, pn_eq, not_true_eq_false, not_false_eq_true, true_and, and_true, false_and, and_false, true_or, or_true, false_or, or_false, or_self, and_self, ne_eq, reduceIte, if_true, if_false, Nat.add_zero, Nat.zero_add, Nat.mul_zero, Nat.reduceAdd, Nat.reduceMul, fw_wi, fw_ri, up_e, up_n1, up_n2, cp_n, bx_s, bp_s, bt_l, bt_r, lx_s, r0, c0]
      · obtain ⟨⟨r0, r1, r2, r3, r4, r5⟩, rz, rl, rs, rt, ru, rp, rq⟩ := R0 hR
        obtain ⟨Q0, Q1, Q2, Q3, Q4, Q5, Q6, Q7⟩ := hR
        have en : ∀ j, j ≠ 0 → j ≠ 6 + sv s 0 → upd (upd s (6 + sv s 0) (nI z)) 0 (nI (sv s 0 + 1)) j = s j := fun j h1 h2 => by rw [pk_un h1, pk_un h2]
        simp (disch := omega) only [F_X3_putStop, ix_i, ↓pn_m, pn_l0, pn_l1, pn_l2, pn_l3, pn_l4, pn_l5, pn_l6, pn_l7, pn_l8, pn_l9, pn_l10, pn_l11, pn_l12, pn_l16, pn_l18, pn_l20, pn_l31, pn_l32, pn_l40, pn_l45, pn_l48, pn_l51, pn_l57, pn_l59, pn_l60, pn_l62, pn_l64, pn_l69, pn_l97, pn_l98, pn_l99, pn_l100, pn_l101, pn_l105, pn_l107, pn_l108, pn_l114, pn_l115, pn_l116, pn_l117, pn_l119, pn_l126, pn_l129, pn_l240, pn_l903, pn_l1032, nI_add, pk_mul, pk_sub, nI_clamp, nI_leI, nI_ltI, nI_eq, pm_1, pm_2, pm_3, pm_4, pm_5, pm_6, pm_7, pm_8, pn_lt, pn_nlt, pn_le, pn_nle, pn_ne, pn_eq, not_true_eq_false, not_false_eq_true, true_and, and_true, false_and, and_false, true_or, or_true, false_or, or_false, or_self, and_self, ne_eq, reduceIte, if_true, if_false, Nat.add_zero, Nat.zero_add, Nat.mul_zero, Nat.reduceAdd, Nat.reduceMul, fw_wi, fw_ri, up_e, up_n1, up_n2, cp_n, bx_s, bp_s, bt_l, bt_r, lx_s, r0, c0, Nat.add_sub_cancel]
        refine ⟨_, rfl, ⟨?_, ?_, ?_, ?_, ?_, ?_, ?_, ?_⟩, fun k hk => by simp (disch := omega) only [up_n1]⟩
        · unfold Rn
          simp (disch := omega) only [fw_wi, fw_ri, up_e, up_n1, up_n2, cp_n, Nat.zero_add, pk_us, en, r1, r2, r3, r4, r5, and_true]
        · intro j hj
          by_cases e : j = sv s 0
          · simp (disch := omega) only [fw_wi, fw_ri, up_e, up_n1, up_n2, cp_n, Nat.zero_add, pk_u1, pk_un]
          · simp (disch := omega) only [fw_wi, fw_ri, up_e, up_n1, up_n2, cp_n, Nat.zero_add, en, rz]
        · exact Q2.c ol (by simp (disch := omega) only [up_n1]) (by simp (disch := omega) only [up_n1]) (fun j h1 h2 => en _ (by omega) (by omega))
        · exact Q3.c (fun l hl => by simp (disch := omega) only [up_n1]) (fun j h1 h2 => en _ (by omega) (by omega))
        · exact Q4.c (by simp (disch := omega) only [up_n1]) (by simp (disch := omega) only [up_n1]) (fun j h1 h2 => en _ (by omega) (by omega))
        · exact Q5.c b2 (by simp (disch := omega) only [up_n1]) (en _ (by omega) (by omega)) (fun j h1 h2 => en _ (by omega) (by omega))
        · exact Q6.c (fun k h1 h2 => by simp (disch := omega) only [up_n1]) (fun j h1 h2 => en _ (by omega) (by omega))
        · exact Q7.c (by simp (disch := omega) only [up_n1]) (by simp (disch := omega) only [up_n1]) (fun j h1 h2 => en _ (by omega) (by omega))
      · simp (disch := omega) only [F_X9_doAddStop, in_z, F_X9_fails, ix_i, ↓pn_m, pn_l0, pn_l1, pn_l2, pn_l3, pn_l4, pn_l5, pn_l6, pn_l7, pn_l8, pn_l9, pn_l10, pn_l11, pn_l12, pn_l16, pn_l18, pn_l20, pn_l31, pn_l32, pn_l40, pn_l45, pn_l48, pn_l51, pn_l57, pn_l59, pn_l60, pn_l62, pn_l64, pn_l69, pn_l97, pn_l98, pn_l99, pn_l100, pn_l101, pn_l105, pn_l107, pn_l108, pn_l114, pn_l115, pn_l116, pn_l117, pn_l119, pn_l126, pn_l129, pn_l240, pn_l903, pn_l1032, nI_add, pk_mul, pk_sub, nI_clamp, nI_leI, nI_ltI, nI_eq, pm_1, pm_2, pm_3, pm_4, pm_5, pm_6, pm_7, pm_8, pn_lt, pn_nlt, pn_le, pn_nle, pn_ne, pn_eq, not_true_eq_false, not_false_eq_true, true_and, and_true, false_and, and_false, true_or, or_true, false_or, or_false, or_self, and_self, ne_eq, reduceIte, if_true, if_false, Nat.add_zero, Nat.zero_add, Nat.mul_zero, Nat.reduceAdd, Nat.reduceMul, fw_wi, fw_ri, up_e, up_n1, up_n2, cp_n, bx_s, bp_s, bt_l, bt_r, lx_s, hS 0 (by omega), c0]
        exact ⟨_, rfl, Sm_u (Sm_u hS), by rw [up_n1 (by omega), up_n1 (by omega), h6], md_9 (md_9 md_0)⟩
  · refine CmdE.bad 2 1 (by omega) (by omega) (by decide) (fun M hR => ?_) (fun M hS h6 => ?_)
    · simp (disch := omega) only [F_X7_faultOfStop, iz_f hz, ix_i, ↓pn_m, pn_l0, pn_l1, pn_l2, pn_l3, pn_l4, pn_l5, pn_l6, pn_l7, pn_l8, pn_l9, pn_l10, pn_l11, pn_l12, pn_l16, pn_l18, pn_l20, pn_l31, pn_l32, pn_l40, pn_l45, pn_l48, pn_l51, pn_l57, pn_l59, pn_l60, pn_l62, pn_l64, pn_l69, pn_l97, pn_l98, pn_l99, pn_l100, pn_l101, pn_l105, pn_l107, pn_l108, pn_l114, pn_l115, pn_l116, pn_l117, pn_l119, pn_l126, pn_l129, pn_l240, pn_l903, pn_l1032, nI_add, pk_mul, pk_sub, nI_clamp, nI_leI, nI_ltI, nI_eq, pm_1, pm_2, pm_3, pm_4, pm_5, pm_6, pm_7, pm_8, pn_lt, pn_nlt, pn_le, pn_nle, pn_ne, pn_eq, not_true_eq_false, not_false_eq_true, true_and, and_true, false_and, and_false, true_or, or_true, false_or, or_false, or_self, and_self, ne_eq, reduceIte, if_true, if_false, Nat.add_zero, Nat.zero_add, Nat.mul_zero, Nat.reduceAdd, Nat.reduceMul, fw_wi, fw_ri, up_e, up_n1, up_n2, cp_n, bx_s, bp_s, bt_l, bt_r, lx_s]
    · have e1 : F_X9_in M a (nI 0) (nI 3) = some (nI 0) := in_f hz (by omega) rfl (by decide)
      simp (disch := omega) only [F_X9_doAddStop, e1, F_X9_fails, ix_i, ↓pn_m, pn_l0, pn_l1, pn_l2, pn_l3, pn_l4, pn_l5, pn_l6, pn_l7, pn_l8, pn_l9, pn_l10, pn_l11, pn_l12, pn_l16, pn_l18, pn_l20, pn_l31, pn_l32, pn_l40, pn_l45, pn_l48, pn_l51, pn_l57, pn_l59, pn_l60, pn_l62, pn_l64, pn_l69, pn_l97, pn_l98, pn_l99, pn_l100, pn_l101, pn_l105, pn_l107, pn_l108, pn_l114, pn_l115, pn_l116, pn_l117, pn_l119, pn_l126, pn_l129, pn_l240, pn_l903, pn_l1032, nI_add, pk_mul, pk_sub, nI_clamp, nI_leI, nI_ltI, nI_eq, pm_1, pm_2, pm_3, pm_4, pm_5, pm_6, pm_7, pm_8, pn_lt, pn_nlt, pn_le, pn_nle, pn_ne, pn_eq, not_true_eq_false, not_false_eq_true, true_and, and_true, false_and, and_false, true_or, or_true, false_or, or_false, or_self, and_self, ne_eq, reduceIte, if_true, if_false, Nat.add_zero, Nat.zero_add, Nat.mul_zero, Nat.reduceAdd, Nat.reduceMul, fw_wi, fw_ri, up_e, up_n1, up_n2, cp_n, bx_s, bp_s, bt_l, bt_r, lx_s]
      exact ⟨_, rfl, up_e rfl rfl, md_6 md_0⟩
