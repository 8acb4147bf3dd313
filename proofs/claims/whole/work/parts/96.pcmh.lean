/-! 10: tick -/
def mvp (s : Nat → Int32) (t : Nat) : Nat := if s (51 + 3 * t + 2) = nI 1 then sv s (51 + 3 * t + 1) - 1 else sv s (51 + 3 * t + 1) + 1
def mvl (s : Nat → Int32) (t : Nat) : Nat := sv s (16 + 7 * sv s (51 + 3 * t))
def mvb (s : Nat → Int32) (t : Nat) : Nat := if mvp s t + 1 = mvl s t then 1 else if mvp s t = 0 then 0 else if s (51 + 3 * t + 2) = nI 1 then 1 else 0
def arr (s : Nat → Int32) (t : Nat) : Nat := if mvp s t + 1 = mvl s t ∨ mvp s t = 0 then 1 else 0
def stp (s : Nat → Int32) (t : Nat) : Nat → Int32 := upd (upd s (51 + 3 * t + 1) (nI (mvp s t))) (51 + 3 * t + 2) (nI (mvb s t))
theorem stp_n {s : Nat → Int32} {t x : Nat} (h : x ≠ 51 + 3 * t + 1 ∧ x ≠ 51 + 3 * t + 2) : stp s t x = s x := by
  unfold stp
  rw [pk_un h.2, pk_un h.1]
theorem stp_1 {s : Nat → Int32} {t : Nat} : stp s t (51 + 3 * t + 1) = nI (mvp s t) := by
  unfold stp
  rw [pk_un (by omega), pk_us]
theorem stp_2 {s : Nat → Int32} {t : Nat} : stp s t (51 + 3 * t + 2) = nI (mvb s t) := by
  unfold stp
  rw [pk_us]
theorem add_m {n : Nat} (h : 1 ≤ n) : nI n + mI = nI (n - 1) := by
  obtain ⟨k, rfl⟩ : ∃ k, n = k + 1 := ⟨n - 1, by omega⟩
  exact pk_m1 k
theorem nI_10 : (nI 0 = nI 1) = False := eq_false (by decide)
theorem nI_01 : (nI 1 = nI 0) = False := eq_false (by decide)
/-- where a tram comes to -/
theorem mv_ok {s : Nat → Int32} (hk : ok s) {t : Nat} (ht : t < sv s 2) : 2 ≤ mvl s t ∧ mvl s t ≤ 6 ∧ sv s (51 + 3 * t) < 5 ∧ mvp s t < mvl s t ∧ mvb s t < 2 ∧ (mvb s t = 1 → 1 ≤ mvp s t) ∧ (mvb s t = 0 → mvp s t + 1 < mvl s t) := by
  obtain ⟨t1, t2, t3, t4, t5⟩ := hk.2.2.2.2.2.1 t ht
  have b1 := hk.1.2.1.2
  obtain ⟨-, l6, l2, -⟩ := hk.2.2.1 (sv s (51 + 3 * t)) (by omega)
  have l2 := l2 t2
  unfold mvb mvp mvl
  rcases t5 with ⟨t5, t6⟩ | ⟨t5, t6⟩
  · rw [t5]
    simp only [nI_10, if_false]
    refine ⟨l2, l6, by omega, by omega, ?_, ?_, ?_⟩
    · split <;> (try split) <;> omega
    · split <;> (try split) <;> omega
    · split <;> (try split) <;> omega
  · rw [t5]
    simp only [if_true]
    refine ⟨l2, l6, by omega, by omega, ?_, ?_, ?_⟩
    · split <;> (try split) <;> omega
    · split <;> (try split) <;> omega
    · split <;> (try split) <;> omega
theorem stp_ok {s : Nat → Int32} (hk : ok s) {t : Nat} (ht : t < sv s 2) : ok (stp s t) := by
  obtain ⟨m1, m2, m3, m4, m5, m6, m7⟩ := mv_ok hk ht
  have hk0 := hk
  obtain ⟨⟨⟨c0, b0⟩, ⟨c1, b1⟩, ⟨c2, b2⟩, ⟨c3, b3⟩, c4, b4⟩, oz, ol, os, od, ot, op, oq⟩ := hk
  have e1 := stp_1 (s := s) (t := t)
  have e2 := stp_2 (s := s) (t := t)
  have en : ∀ x, x ≠ 51 + 3 * t + 1 ∧ x ≠ 51 + 3 * t + 2 → stp s t x = s x := fun x h => stp_n h
  generalize stp s t = s1 at e1 e2 en ⊢
  have v0 : sv s1 0 = sv s 0 := sv_cong (en 0 (by omega))
  have v1 : sv s1 1 = sv s 1 := sv_cong (en 1 (by omega))
  have v2 : sv s1 2 = sv s 2 := sv_cong (en 2 (by omega))
  have v3 : sv s1 3 = sv s 3 := sv_cong (en 3 (by omega))
  have v4 : sv s1 4 = sv s 4 := sv_cong (en 4 (by omega))
  refine ⟨?_, ?_, ?_, ?_, ?_, ?_, ?_, ?_⟩
  · exact (show okc s from ⟨⟨c0, b0⟩, ⟨c1, b1⟩, ⟨c2, b2⟩, ⟨c3, b3⟩, c4, b4⟩).c (fun x hx => en _ (by omega))
  · exact oz.c (fun x h1 h2 => en _ (by omega))
  · exact ol.c (en _ (by omega)) (fun l hl => en _ (by omega))
  · exact os.c ol (by omega) (fun x h1 h2 => en _ (by omega))
  · exact od.c ol (fun x h1 h2 => en _ (by omega))
  · intro x hx
    rw [v2] at hx
    obtain ⟨t1, t2, t3, t4, t5⟩ := ot x hx
    have ea : sv s1 (51 + 3 * x) = sv s (51 + 3 * x) := sv_cong (en _ (by omega))
    have el : sv s1 (16 + 7 * sv s (51 + 3 * x)) = sv s (16 + 7 * sv s (51 + 3 * x)) := sv_cong (en _ (by omega))
    rw [ea, el, v1, en (51 + 3 * x) (by omega)]
    by_cases e : x = t
    · subst e
      rw [sv_of e1 (by omega), e1, e2]
      refine ⟨t1, t2, rfl, m4, ?_⟩
      rcases (show mvb s x = 0 ∨ mvb s x = 1 by omega) with h | h
      · exact Or.inl ⟨by rw [h], m7 h⟩
      · exact Or.inr ⟨by rw [h], m6 h⟩
    · rw [sv_cong (en (51 + 3 * x + 1) (by omega)), en (51 + 3 * x + 1) (by omega), en (51 + 3 * x + 2) (by omega)]
      exact ⟨t1, t2, t3, t4, t5⟩
  · exact op.c b3 (en _ (by omega)) (by omega) (by omega) (fun x h1 h2 => en _ (by omega))
  · exact oq.c b4 (en _ (by omega)) (by omega) (fun x h1 h2 => en _ (by omega))
theorem stp_R {M : fw_M} {s : Nat → Int32} (hk : ok s) (hR : R M 0 s) {t : Nat} (ht : t < sv s 2) : R (fw_up (fw_up M 13 t (nI (mvp s t))) 14 t (if mvb s t = 1 then mI else nI 1)) 0 (stp s t) := by
  obtain ⟨m1, m2, m3, m4, m5, m6, m7⟩ := mv_ok hk ht
  obtain ⟨⟨⟨c0, b0⟩, ⟨c1, b1⟩, ⟨c2, b2⟩, ⟨c3, b3⟩, c4, b4⟩, oz, ol, os, od, ot, op, oq⟩ := hk
  obtain ⟨⟨r0, r1, r2, r3, r4, r5⟩, rz, rl, rs, rt, ru, rp, rq⟩ := R0 hR
  obtain ⟨Q0, Q1, Q2, Q3, Q4, Q5, Q6, Q7⟩ := hR
  have e1 := stp_1 (s := s) (t := t)
  have e2 := stp_2 (s := s) (t := t)
  have en : ∀ x, x ≠ 51 + 3 * t + 1 ∧ x ≠ 51 + 3 * t + 2 → stp s t x = s x := fun x h => stp_n h
  generalize stp s t = s1 at e1 e2 en ⊢
  have v2 : sv s1 2 = sv s 2 := sv_cong (en 2 (by omega))
  refine ⟨?_, ?_, ?_, ?_, ?_, ?_, ?_, ?_⟩
  · unfold Rn
    simp (disch := omega) only [fw_wi, fw_ri, up_e, up_n1, up_n2, cp_n, Nat.zero_add, en, r0, r1, r2, r3, r4, r5, and_true]
  · exact Q1.c (by simp (disch := omega) only [up_n1]) (fun x h1 h2 => en _ (by omega))
  · exact Q2.c ol (by simp (disch := omega) only [up_n1]) (by simp (disch := omega) only [up_n1]) (fun x h1 h2 => en _ (by omega))
  · exact Q3.c (fun l hl => by simp (disch := omega) only [up_n1]) (fun x h1 h2 => en _ (by omega))
  · intro x hx
    by_cases e : x = t
    · subst e
      rw [e1, en (51 + 3 * x) (by omega)]
      simp (disch := omega) only [fw_wi, fw_ri, up_e, up_n1, up_n2, cp_n, Nat.zero_add, rt, and_self]
    · rw [en _ (by omega), en _ (by omega)]
      simp (disch := omega) only [fw_wi, fw_ri, up_e, up_n1, up_n2, cp_n, Nat.zero_add]
      exact rt x hx
  · intro x hx
    rw [v2] at hx
    by_cases e : x = t
    · subst e
      rw [e2]
      simp (disch := omega) only [fw_wi, fw_ri, up_e, up_n1, up_n2, cp_n, Nat.zero_add]
      rcases (show mvb s x = 0 ∨ mvb s x = 1 by omega) with h | h
      · rw [h]; rfl
      · rw [h]; rfl
    · rw [en _ (by omega)]
      simp (disch := omega) only [fw_wi, fw_ri, up_e, up_n1, up_n2, cp_n, Nat.zero_add]
      exact ru x hx
  · exact Q6.c (fun k h1 h2 => by simp (disch := omega) only [up_n1]) (fun x h1 h2 => en _ (by omega))
  · exact Q7.c (by simp (disch := omega) only [up_n1]) (by simp (disch := omega) only [up_n1]) (fun x h1 h2 => en _ (by omega))
def tks : (Nat → Int32) → Nat → Nat → Nat → Int32
  | s, _, 0 => s
  | s, t, r + 1 => tks (stp s t) (t + 1) r
def tkn : (Nat → Int32) → Nat → Nat → Nat
  | _, _, 0 => 0
  | s, t, r + 1 => arr s t + tkn (stp s t) (t + 1) r
theorem tks_ok : ∀ (r t : Nat) (s : Nat → Int32), ok s → t + r = sv s 2 → ok (tks s t r) ∧ tks s t r 5 = s 5 := by
  intro r
  induction r with
  | zero => intro t s hk _; exact ⟨hk, rfl⟩
  | succ r ih =>
    intro t s hk h
    rw [tks]
    have h1 : sv (stp s t) 2 = sv s 2 := sv_cong (stp_n (by omega))
    obtain ⟨a, b⟩ := ih (t + 1) (stp s t) (stp_ok hk (by omega)) (by rw [h1]; omega)
    exact ⟨a, b.trans (stp_n (by omega))⟩
theorem stp_5 {s : Nat → Int32} {t : Nat} {v : Int32} (ht : sv s (51 + 3 * t) < 5) : stp (upd s 5 v) t = upd (stp s t) 5 v ∧ arr (upd s 5 v) t = arr s t ∧ sv (upd s 5 v) (51 + 3 * t) = sv s (51 + 3 * t) := by
  have en : ∀ x, x ≠ 5 → upd s 5 v x = s x := fun x h => pk_un h
  have e1 : sv (upd s 5 v) (51 + 3 * t) = sv s (51 + 3 * t) := sv_cong (en _ (by omega))
  have e2 : mvp (upd s 5 v) t = mvp s t := by
    unfold mvp
    rw [en _ (by omega), sv_cong (en (51 + 3 * t + 1) (by omega))]
  have e3 : mvl (upd s 5 v) t = mvl s t := by
    unfold mvl
    rw [e1, sv_cong (en _ (by omega))]
  have e4 : mvb (upd s 5 v) t = mvb s t := by
    unfold mvb
    rw [e2, e3, en _ (by omega)]
  refine ⟨?_, by unfold arr; rw [e2, e3], e1⟩
  unfold stp
  rw [e2, e4, fa_upd_swap s (i := 5) (j := 51 + 3 * t + 1) (by omega), fa_upd_swap _ (i := 5) (j := 51 + 3 * t + 2) (by omega)]
theorem tks_5 {v : Int32} : ∀ (r t : Nat) (s : Nat → Int32), ok s → t + r = sv s 2 → tks (upd s 5 v) t r = upd (tks s t r) 5 v ∧ tkn (upd s 5 v) t r = tkn s t r := by
  intro r
  induction r with
  | zero => intro t s _ _; exact ⟨rfl, rfl⟩
  | succ r ih =>
    intro t s hk h
    obtain ⟨m1, m2, m3, -⟩ := mv_ok hk (t := t) (by omega)
    obtain ⟨a, b, -⟩ := stp_5 (v := v) m3
    have h1 : sv (stp s t) 2 = sv s 2 := sv_cong (stp_n (by omega))
    obtain ⟨c, d⟩ := ih (t + 1) (stp s t) (stp_ok hk (by omega)) (by rw [h1]; omega)
    rw [tks, tks, tkn, tkn, a, b, c, d]
    exact ⟨rfl, rfl⟩
theorem tk_c : ∀ (r n t c : Nat) (s : Nat → Int32) (M : fw_M), ok s → R M 0 s → t + r = sv s 2 → r < n → ∃ M1, F_X1_moveAll_4 11 1 n (nI c) (nI t) M = some (nI (c + tkn s t r), M1) ∧ R M1 0 (tks s t r) ∧ ∀ k, 32 ≤ k → M1 k = M k := by
  intro r
  induction r with
  | zero =>
    intro n t c s M hk hR h1 h2
    obtain ⟨n, rfl⟩ : ∃ x, n = x + 1 := ⟨n - 1, by omega⟩
    have b2 := hk.1.2.2.1
    obtain ⟨⟨-, -, r2, -⟩, -⟩ := R0 hR
    rw [F_X1_moveAll_4, r2, b2.1, if_pos (nI_le (by omega) (by omega))]
    exact ⟨M, rfl, hR, fun _ _ => rfl⟩
  | succ r ih =>
    intro n t c s M hk hR h1 h2
    obtain ⟨n, rfl⟩ : ∃ x, n = x + 1 := ⟨n - 1, by omega⟩
    have ht : t < sv s 2 := by omega
    obtain ⟨m1, m2, m3, m4, m5, m6, m7⟩ := mv_ok hk ht
    have hR1 := stp_R hk hR ht
    have hk1 := stp_ok hk ht
    have v2 : sv (stp s t) 2 = sv s 2 := sv_cong (stp_n (by omega))
    obtain ⟨M1, q1, q2, q3⟩ := ih n (t + 1) (c + arr s t) (stp s t) _ hk1 hR1 (by omega) (by omega)
    have hk0 := hk
    obtain ⟨⟨⟨c0, b0⟩, ⟨c1, b1⟩, ⟨c2, b2⟩, ⟨c3, b3⟩, c4, b4⟩, oz, ol, os, od, ot, op, oq⟩ := hk
    obtain ⟨⟨r0, r1, r2, r3, r4, r5⟩, rz, rl, rs, rt, ru, rp, rq⟩ := R0 hR
    obtain ⟨t1, t2, t3, t4, t5⟩ := ot t ht
    have l1 := (ol (sv s (51 + 3 * t)) m3).1
    rw [tks, tkn, ← Nat.add_assoc]
    refine ⟨M1, ?_, q2, fun k hk => by rw [q3 k hk, up_n1 (by omega), up_n1 (by omega)]⟩
    rw [← q1, F_X1_moveAll_4]
    have l1' : s (16 + 7 * sv s (51 + 3 * t)) = nI (mvl s t) := l1
    rcases t5 with ⟨t5, t6⟩ | ⟨t5, t6⟩
    · have ep : mvp s t = sv s (51 + 3 * t + 1) + 1 := by unfold mvp; rw [t5, if_neg (by decide)]
      have ru' : M 14 t = nI 1 := by rw [ru t ht, t5]; rfl
      by_cases h3 : mvp s t + 1 = mvl s t
      · have eb : mvb s t = 1 := if_pos h3
        have ea : arr s t = 1 := if_pos (Or.inl h3)
        rw [eb, ea]
        simp (disch := omega) only [F_X1_turned, ix_i, ↓pn_m, pn_l0, pn_l1, pn_l2, pn_l3, pn_l4, pn_l5, pn_l6, pn_l7, pn_l8, pn_l9, pn_l10, pn_l11, pn_l12, pn_l16, pn_l18, pn_l20, pn_l31, pn_l32, pn_l40, pn_l45, pn_l48, pn_l51, pn_l57, pn_l59, pn_l60, pn_l62, pn_l64, pn_l69, pn_l97, pn_l98, pn_l99, pn_l100, pn_l101, pn_l105, pn_l107, pn_l108, pn_l114, pn_l115, pn_l116, pn_l117, pn_l119, pn_l126, pn_l129, pn_l240, pn_l903, pn_l1032, nI_add, pk_mul, pk_sub, nI_clamp, nI_leI, nI_ltI, nI_eq, pm_1, pm_2, pm_3, pm_4, pm_5, pm_6, pm_7, pm_8, pn_lt, pn_nlt, pn_le, pn_nle, pn_ne, pn_eq, not_true_eq_false, not_false_eq_true, true_and, and_true, false_and, and_false, true_or, or_true, false_or, or_false, or_self, and_self, ne_eq, reduceIte, if_true, if_false, Nat.add_zero, Nat.zero_add, Nat.mul_zero, Nat.reduceAdd, Nat.reduceMul, fw_wi, fw_ri, up_e, up_n1, up_n2, cp_n, bx_s, bp_s, bt_l, bt_r, lx_s, r2, c2, rt, rl, t1, t3, l1', ru', ← ep]
      · have eb : mvb s t = 0 := by unfold mvb; rw [if_neg h3, if_neg (by omega), t5, if_neg (by decide)]
        have ea : arr s t = 0 := if_neg (by omega)
        rw [eb, ea]
        simp (disch := omega) only [F_X1_turned, ix_i, ↓pn_m, pn_l0, pn_l1, pn_l2, pn_l3, pn_l4, pn_l5, pn_l6, pn_l7, pn_l8, pn_l9, pn_l10, pn_l11, pn_l12, pn_l16, pn_l18, pn_l20, pn_l31, pn_l32, pn_l40, pn_l45, pn_l48, pn_l51, pn_l57, pn_l59, pn_l60, pn_l62, pn_l64, pn_l69, pn_l97, pn_l98, pn_l99, pn_l100, pn_l101, pn_l105, pn_l107, pn_l108, pn_l114, pn_l115, pn_l116, pn_l117, pn_l119, pn_l126, pn_l129, pn_l240, pn_l903, pn_l1032, nI_add, pk_mul, pk_sub, nI_clamp, nI_leI, nI_ltI, nI_eq, pm_1, pm_2, pm_3, pm_4, pm_5, pm_6, pm_7, pm_8, pn_lt, pn_nlt, pn_le, pn_nle, pn_ne, pn_eq, not_true_eq_false, not_false_eq_true, true_and, and_true, false_and, and_false, true_or, or_true, false_or, or_false, or_self, and_self, ne_eq, reduceIte, if_true, if_false, Nat.add_zero, Nat.zero_add, Nat.mul_zero, Nat.reduceAdd, Nat.reduceMul, fw_wi, fw_ri, up_e, up_n1, up_n2, cp_n, bx_s, bp_s, bt_l, bt_r, lx_s, r2, c2, rt, rl, t1, t3, l1', ru', ← ep]
    · have ep : mvp s t = sv s (51 + 3 * t + 1) - 1 := by unfold mvp; rw [t5, if_pos rfl]
      have ru' : M 14 t = mI := by rw [ru t ht, t5]; rfl
      have h3 : ¬ mvp s t + 1 = mvl s t := by
        have : mvl s t = sv s (16 + 7 * sv s (51 + 3 * t)) := rfl
        omega
      have am : nI (sv s (51 + 3 * t + 1)) + mI = nI (mvp s t) := by rw [add_m t6, ep]
      by_cases h4 : mvp s t = 0
      · have eb : mvb s t = 0 := by unfold mvb; rw [if_neg h3, if_pos h4]
        have ea : arr s t = 1 := if_pos (Or.inr h4)
        rw [eb, ea]
        simp (disch := omega) only [F_X1_turned, ix_i, ↓pn_m, pn_l0, pn_l1, pn_l2, pn_l3, pn_l4, pn_l5, pn_l6, pn_l7, pn_l8, pn_l9, pn_l10, pn_l11, pn_l12, pn_l16, pn_l18, pn_l20, pn_l31, pn_l32, pn_l40, pn_l45, pn_l48, pn_l51, pn_l57, pn_l59, pn_l60, pn_l62, pn_l64, pn_l69, pn_l97, pn_l98, pn_l99, pn_l100, pn_l101, pn_l105, pn_l107, pn_l108, pn_l114, pn_l115, pn_l116, pn_l117, pn_l119, pn_l126, pn_l129, pn_l240, pn_l903, pn_l1032, nI_add, pk_mul, pk_sub, nI_clamp, nI_leI, nI_ltI, nI_eq, pm_1, pm_2, pm_3, pm_4, pm_5, pm_6, pm_7, pm_8, pn_lt, pn_nlt, pn_le, pn_nle, pn_ne, pn_eq, not_true_eq_false, not_false_eq_true, true_and, and_true, false_and, and_false, true_or, or_true, false_or, or_false, or_self, and_self, ne_eq, reduceIte, if_true, if_false, Nat.add_zero, Nat.zero_add, Nat.mul_zero, Nat.reduceAdd, Nat.reduceMul, fw_wi, fw_ri, up_e, up_n1, up_n2, cp_n, bx_s, bp_s, bt_l, bt_r, lx_s, r2, c2, rt, rl, t1, t3, l1', ru', am]
      · have eb : mvb s t = 1 := by unfold mvb; rw [if_neg h3, if_neg h4, t5, if_pos rfl]
        have ea : arr s t = 0 := if_neg (by omega)
        rw [eb, ea]
        simp (disch := omega) only [F_X1_turned, ix_i, ↓pn_m, pn_l0, pn_l1, pn_l2, pn_l3, pn_l4, pn_l5, pn_l6, pn_l7, pn_l8, pn_l9, pn_l10, pn_l11, pn_l12, pn_l16, pn_l18, pn_l20, pn_l31, pn_l32, pn_l40, pn_l45, pn_l48, pn_l51, pn_l57, pn_l59, pn_l60, pn_l62, pn_l64, pn_l69, pn_l97, pn_l98, pn_l99, pn_l100, pn_l101, pn_l105, pn_l107, pn_l108, pn_l114, pn_l115, pn_l116, pn_l117, pn_l119, pn_l126, pn_l129, pn_l240, pn_l903, pn_l1032, nI_add, pk_mul, pk_sub, nI_clamp, nI_leI, nI_ltI, nI_eq, pm_1, pm_2, pm_3, pm_4, pm_5, pm_6, pm_7, pm_8, pn_lt, pn_nlt, pn_le, pn_nle, pn_ne, pn_eq, not_true_eq_false, not_false_eq_true, true_and, and_true, false_and, and_false, true_or, or_true, false_or, or_false, or_self, and_self, ne_eq, reduceIte, if_true, if_false, Nat.add_zero, Nat.zero_add, Nat.mul_zero, Nat.reduceAdd, Nat.reduceMul, fw_wi, fw_ri, up_e, up_n1, up_n2, cp_n, bx_s, bp_s, bt_l, bt_r, lx_s, r2, c2, rt, rl, t1, t3, l1', ru', am]
theorem mv_82 {M : fw_M} {t x y : Nat} {a1 : Int32} (ht : t < 6) (hx : x = 0 ∨ x = 1) (hy : y = 0 ∨ y = 1) : F_X9_moves_82 a1 (nI (51 + 3 * t)) (nI x) (nI y) M = some (nI (if x = 1 ∨ y = 1 then 1 else 0), fw_up M 379 (51 + 3 * t + 2) (if x = 1 then nI 1 else if y = 1 then nI 0 else M 379 (51 + 3 * t + 2))) := by
  have a2 : nI (51 + 3 * t) + 2 = nI (51 + 3 * t + 2) := nI_add _ 2
  have a3 : (nI (51 + 3 * t + 2)).toNatClampNeg = 51 + 3 * t + 2 := nI_clamp (by omega)
  have a4 : ix_i (nI (51 + 3 * t + 2)) 129 := nI_in (by omega) (by omega)
  unfold F_X9_moves_82 fw_wi fw_ri
  rw [a2]
  rcases hx with rfl | rfl <;> rcases hy with rfl | rfl
  · rw [if_pos (show nI 0 = 0 from rfl), if_pos (show nI 0 = 0 from rfl), if_pos a4, lx_s, if_neg (show ¬ ¬ nI 0 = 0 from fun q => q rfl), if_pos (show nI 0 = 0 from rfl), a3]
    rfl
  · rw [if_pos (show nI 0 = 0 from rfl), if_neg (show ¬ nI 1 = 0 by decide), if_pos a4, lx_s, if_neg (show ¬ ¬ nI 0 = 0 from fun q => q rfl), if_neg (show ¬ nI 1 = 0 by decide), a3]
    rfl
  · rw [if_neg (show ¬ nI 1 = 0 by decide), if_pos a4, lx_s, if_pos (show ¬ nI 1 = 0 by decide), a3]
    rfl
  · rw [if_neg (show ¬ nI 1 = 0 by decide), if_pos a4, lx_s, if_pos (show ¬ nI 1 = 0 by decide), a3]
    rfl
theorem mv_35 {M : fw_M} {t p l n : Nat} {a1 : Int32} (ht : t < 6) (hp : p < 2 ^ 30) (hn : 1 ≤ n ∧ n < 2 ^ 30) (h1 : M 379 (51 + 3 * t + 1) = nI p) (h0 : M 379 (51 + 3 * t) = nI l) (hl : F_X9_lengthOf M (nI l) = some (nI n)) : F_X9_moves_35 a1 (nI (51 + 3 * t)) M = some (nI (if p + 1 = n ∨ p = 0 then 1 else 0), fw_up M 379 (51 + 3 * t + 2) (if p + 1 = n then nI 1 else if p = 0 then nI 0 else M 379 (51 + 3 * t + 2))) := by
  have a1' : nI (51 + 3 * t) + 1 = nI (51 + 3 * t + 1) := nI_1 _
  have a3 : (nI (51 + 3 * t + 1)).toNatClampNeg = 51 + 3 * t + 1 := nI_clamp (by omega)
  have a0 : (nI (51 + 3 * t)).toNatClampNeg = 51 + 3 * t := nI_clamp (by omega)
  have e1 : nI n - 1 = nI (n - 1) := pk_sub (a := n) (b := 1) (by omega)
  have z0 : (0 : Int32) = nI 0 := rfl
  unfold F_X9_moves_35 fw_ri
  rw [a1', if_pos (nI_in (by omega) (by omega)), if_pos (nI_in (by omega) (by omega)), a3, a0, h1, h0, hl, bx_s, e1]
  by_cases c1 : p + 1 = n
  · rw [if_neg (show ¬ ¬ nI p = nI (n - 1) from fun q => q (by rw [← c1, Nat.add_sub_cancel])), if_pos (Or.inl c1), if_pos c1]
    by_cases c2 : p = 0
    · rw [if_neg (show ¬ ¬ nI p = 0 from fun q => q (by rw [c2]; rfl))]
      exact mv_82 (x := 1) (y := 1) ht (Or.inr rfl) (Or.inr rfl)
    · rw [if_pos (show ¬ nI p = 0 from nI_ne0 (by omega) (by omega))]
      exact mv_82 (x := 1) (y := 0) ht (Or.inr rfl) (Or.inl rfl)
  · rw [if_pos (show ¬ nI p = nI (n - 1) from fun q => c1 (by have := (nI_eq (by omega) (by omega)).mp q; omega)), if_neg c1]
    by_cases c2 : p = 0
    · rw [if_neg (show ¬ ¬ nI p = 0 from fun q => q (by rw [c2]; rfl)), if_pos (Or.inr c2), if_pos c2]
      exact mv_82 (x := 0) (y := 1) ht (Or.inl rfl) (Or.inr rfl)
    · rw [if_pos (show ¬ nI p = 0 from nI_ne0 (by omega) (by omega)), if_neg (fun q => q.elim c1 c2), if_neg c2]
      exact mv_82 (x := 0) (y := 0) ht (Or.inl rfl) (Or.inl rfl)
theorem mv_m {M : fw_M} {s : Nat → Int32} (hk : ok s) (hS : Sm M s) {t : Nat} (ht : t < sv s 2) : ∃ M1, F_X9_moves M (nI t) = some (nI (arr s t), M1) ∧ Sm M1 (stp s t) ∧ (∀ c, c ≠ 379 → M1 c = M c) := by
  obtain ⟨m1, m2, m3, m4, m5, m6, m7⟩ := mv_ok hk ht
  have b2 := hk.1.2.2.1.2
  obtain ⟨t1, t2, t3, t4, t5⟩ := hk.2.2.2.2.2.1 t ht
  have a0 : (51 + (3 * nI t) : Int32) = nI (51 + 3 * t) := by
    rw [show (51 : Int32) = nI 51 from rfl, show (3 : Int32) = nI 3 from rfl, pk_mul, nI_add]
  have a1 : nI (51 + 3 * t) + 1 = nI (51 + 3 * t + 1) := nI_1 _
  have a2 : nI (51 + 3 * t) + 2 = nI (51 + 3 * t + 2) := nI_add _ 2
  have a3 : (nI (51 + 3 * t + 2)).toNatClampNeg = 51 + 3 * t + 2 := nI_clamp (by omega)
  have a4 : (nI (51 + 3 * t + 1)).toNatClampNeg = 51 + 3 * t + 1 := nI_clamp (by omega)
  have hl : ∀ y, F_X9_lengthOf (fw_up M 379 (51 + 3 * t + 1) y) (nI (sv s (51 + 3 * t))) = some (nI (mvl s t)) := fun y => by
    have e := lenM hk hS (l := sv s (51 + 3 * t)) m3
    unfold F_X9_lengthOf fw_ri at e ⊢
    have e1 : (16 + (7 * nI (sv s (51 + 3 * t))) : Int32).toNatClampNeg = 16 + 7 * sv s (51 + 3 * t) := by
      rw [show (16 : Int32) = nI 16 from rfl, show (7 : Int32) = nI 7 from rfl, pk_mul, nI_add, nI_clamp (by omega)]
    rw [up_n2 (by rw [e1]; omega)]
    exact e
  have fin : ∀ y, y = nI (mvb s t) → Sm (fw_up (fw_up M 379 (51 + 3 * t + 1) (nI (mvp s t))) 379 (51 + 3 * t + 2) y) (stp s t) ∧ ∀ c, c ≠ 379 → (fw_up (fw_up M 379 (51 + 3 * t + 1) (nI (mvp s t))) 379 (51 + 3 * t + 2) y) c = M c := fun y hy => by
    rw [hy]
    exact ⟨Sm_u (Sm_u hS), fun c hc => by rw [up_n1 hc, up_n1 hc]⟩
  have h35 := mv_35 (M := fw_up M 379 (51 + 3 * t + 1) (nI (mvp s t))) (t := t) (p := mvp s t) (l := sv s (51 + 3 * t)) (n := mvl s t) (a1 := nI t) (by omega) (by omega) (by omega) (up_e rfl rfl) (by rw [up_n2 (by omega), hS _ (by omega)]; exact t1) (hl _)
  unfold F_X9_moves fw_wi fw_ri
  rw [a0, a1, a2, if_pos (nI_in (by omega) (by omega)), if_pos (nI_in (by omega) (by omega)), a3, a4, hS (51 + 3 * t + 2) (by omega), hS (51 + 3 * t + 1) (by omega), t3]
  rw [up_n2 (by omega), hS (51 + 3 * t + 2) (by omega)] at h35
  rcases t5 with ⟨t5, t6⟩ | ⟨t5, t6⟩
  · have ep : nI (sv s (51 + 3 * t + 1)) + 1 = nI (mvp s t) := by unfold mvp; rw [t5, if_neg (by decide), nI_1]
    rw [t5, if_pos (show ¬ nI 0 = 1 by decide), lx_s, ep, h35]
    refine ⟨_, rfl, fin _ ?_⟩
    unfold mvb
    rw [t5]
    split
    · rfl
    · split
      · rfl
      · rfl
  · have ep : nI (sv s (51 + 3 * t + 1)) + (-1) = nI (mvp s t) := by
      unfold mvp
      rw [t5, if_pos rfl]
      exact add_m t6
    rw [t5, if_neg (show ¬ ¬ nI 1 = 1 from fun q => q rfl), lx_s, ep, h35]
    refine ⟨_, rfl, fin _ ?_⟩
    unfold mvb
    rw [t5]
    split
    · rfl
    · split
      · rfl
      · rfl
theorem tk_m : ∀ (r n t c : Nat) (s : Nat → Int32) (M : fw_M), ok s → Sm M s → t + r = sv s 2 → r < n → ∃ M1, F_X9_doTick_4 n (nI c) (nI t) M = some (nI (c + tkn s t r), M1) ∧ Sm M1 (upd (tks s t r) 5 (s 5 + 1)) ∧ (∀ c, c ≠ 379 → M1 c = M c) := by
  intro r
  induction r with
  | zero =>
    intro n t c s M hk hS h1 h2
    obtain ⟨n, rfl⟩ : ∃ x, n = x + 1 := ⟨n - 1, by omega⟩
    have b2 := hk.1.2.2.1
    have g2 : fw_ri M 379 2 = nI (sv s 2) := (hS 2 (by omega)).trans b2.1
    have g5 : fw_ri M 379 5 = s 5 := hS 5 (by omega)
    rw [F_X9_doTick_4, if_pos (show ix_i 2 129 by decide), g2, if_pos (nI_le (by omega) (by omega)), if_pos (show ix_i 5 129 by decide), lx_s, g5]
    exact ⟨_, rfl, Sm_u hS, fun c hc => up_n1 hc⟩
  | succ r ih =>
    intro n t c s M hk hS h1 h2
    obtain ⟨n, rfl⟩ : ∃ x, n = x + 1 := ⟨n - 1, by omega⟩
    have b2 := hk.1.2.2.1
    have g2 : fw_ri M 379 2 = nI (sv s 2) := (hS 2 (by omega)).trans b2.1
    obtain ⟨M1, q1, q2, q3⟩ := mv_m hk hS (t := t) (by omega)
    have v2 : sv (stp s t) 2 = sv s 2 := sv_cong (stp_n (by omega))
    have v5 : stp s t 5 = s 5 := stp_n (by omega)
    obtain ⟨M2, w1, w2, w3⟩ := ih n (t + 1) (c + arr s t) (stp s t) M1 (stp_ok hk (by omega)) q2 (by omega) (by omega)
    rw [v5] at w2
    rw [tks, tkn, ← Nat.add_assoc]
    refine ⟨M2, ?_, w2, fun c hc => (w3 c hc).trans (q3 c hc)⟩
    rw [← w1, F_X9_doTick_4, if_pos (show ix_i 2 129 by decide), g2, if_neg (nI_ge (by omega) (by omega)), q1, bp_s, nI_1]
    have ha : arr s t = 0 ∨ arr s t = 1 := by
      unfold arr
      split
      · exact Or.inr rfl
      · exact Or.inl rfl
    rcases ha with ha | ha
    · rw [ha, if_pos (show nI 0 = 0 from rfl), show (0 : Int32) = nI 0 from rfl, nI_add]
    · rw [ha, if_neg (show ¬ nI 1 = 0 by decide), nI_1]
theorem c_tck {s : Nat → Int32} (hk : ok s) : CmdE [] s (fun _ => some 0) (fun M => F_X7_passTick M 0) (fun M => F_X9_doTick M) := by
  have b2 := hk.1.2.2.1.2
  obtain ⟨a1, a2⟩ := tks_5 (v := s 5 + 1) (sv s 2) 0 s hk (by omega)
  have hk5 : ok (upd s 5 (s 5 + 1)) := by
    have en : ∀ x, x ≠ 5 → upd s 5 (s 5 + 1) x = s x := fun x h => pk_un h
    generalize upd s 5 (s 5 + 1) = s1 at en ⊢
    have hk0 := hk
    obtain ⟨⟨⟨c0, b0⟩, ⟨c1, b1⟩, ⟨c2, b2⟩, ⟨c3, b3⟩, c4, b4⟩, oz, ol, os, od, ot, op, oq⟩ := hk
    have v0 : sv s1 0 = sv s 0 := sv_cong (en 0 (by omega))
    have v1 : sv s1 1 = sv s 1 := sv_cong (en 1 (by omega))
    have v2 : sv s1 2 = sv s 2 := sv_cong (en 2 (by omega))
    have v3 : sv s1 3 = sv s 3 := sv_cong (en 3 (by omega))
    have v4 : sv s1 4 = sv s 4 := sv_cong (en 4 (by omega))
    refine ⟨?_, ?_, ?_, ?_, ?_, ?_, ?_, ?_⟩
    · exact (show okc s from ⟨⟨c0, b0⟩, ⟨c1, b1⟩, ⟨c2, b2⟩, ⟨c3, b3⟩, c4, b4⟩).c (fun x hx => en _ (by omega))
    · exact oz.c (fun x h1 h2 => en _ (by omega))
    · exact ol.c (en _ (by omega)) (fun l hl => en _ (by omega))
    · exact os.c ol (by omega) (fun x h1 h2 => en _ (by omega))
    · exact od.c ol (fun x h1 h2 => en _ (by omega))
    · exact ot.c b1 b2 (en _ (by omega)) (by omega) (fun l hl => by rw [sv_cong (en (16 + 7 * l) (by omega))]; exact Nat.le_refl _) (fun x h1 h2 => en _ (by omega))
    · exact op.c b3 (en _ (by omega)) (by omega) (by omega) (fun x h1 h2 => en _ (by omega))
    · exact oq.c b4 (en _ (by omega)) (by omega) (fun x h1 h2 => en _ (by omega))
  have v25 : sv (upd s 5 (s 5 + 1)) 2 = sv s 2 := sv_cong (pk_un (by omega))
  refine CmdE.good (nI (tkn s 0 (sv s 2))) (upd (tks s 0 (sv s 2)) 5 (s 5 + 1)) ?_ (fun M hR => rfl) (fun M hR => ?_) (fun M hS h6 => ?_)
  · rw [← a1]
    exact (tks_ok (sv s 2) 0 _ hk5 (by omega)).1
  · have hR5 : R (fw_up M 0 4 (s 5 + 1)) 0 (upd s 5 (s 5 + 1)) := by
      have en : ∀ x, x ≠ 5 → upd s 5 (s 5 + 1) x = s x := fun x h => pk_un h
      have e5 : upd s 5 (s 5 + 1) 5 = s 5 + 1 := pk_us
      generalize upd s 5 (s 5 + 1) = s1 at en e5 ⊢
      obtain ⟨⟨⟨c0, b0⟩, ⟨c1, b1⟩, ⟨c2, b2⟩, ⟨c3, b3⟩, c4, b4⟩, oz, ol, os, od, ot, op, oq⟩ := hk
      obtain ⟨⟨r0, r1, r2, r3, r4, r5⟩, rz, rl, rs, rt, ru, rp, rq⟩ := R0 hR
      obtain ⟨Q0, Q1, Q2, Q3, Q4, Q5, Q6, Q7⟩ := hR
      refine ⟨?_, ?_, ?_, ?_, ?_, ?_, ?_, ?_⟩
      · unfold Rn
        simp (disch := omega) only [fw_wi, fw_ri, up_e, up_n1, up_n2, cp_n, Nat.zero_add, en, e5, r0, r1, r2, r3, r4, r5, and_true]
      · exact Q1.c (by simp (disch := omega) only [up_n1]) (fun x h1 h2 => en _ (by omega))
      · exact Q2.c ol (by simp (disch := omega) only [up_n1]) (by simp (disch := omega) only [up_n1]) (fun x h1 h2 => en _ (by omega))
      · exact Q3.c (fun l hl => by simp (disch := omega) only [up_n1]) (fun x h1 h2 => en _ (by omega))
      · exact Q4.c (by simp (disch := omega) only [up_n1]) (by simp (disch := omega) only [up_n1]) (fun x h1 h2 => en _ (by omega))
      · exact Q5.c b2 (by simp (disch := omega) only [up_n1]) (en _ (by omega)) (fun x h1 h2 => en _ (by omega))
      · exact Q6.c (fun k h1 h2 => by simp (disch := omega) only [up_n1]) (fun x h1 h2 => en _ (by omega))
      · exact Q7.c (by simp (disch := omega) only [up_n1]) (by simp (disch := omega) only [up_n1]) (fun x h1 h2 => en _ (by omega))
    obtain ⟨M1, q1, q2, q3⟩ := tk_c (sv s 2) 64 0 0 _ _ hk5 hR5 (by omega) (by omega)
    rw [a1] at q2
    rw [a2, Nat.zero_add] at q1
    obtain ⟨⟨-, -, -, -, -, r5⟩, -⟩ := R0 hR
    have q1' : F_X1_moveAll (fw_up M 0 4 (s 5 + 1)) (0 + 11) (0 + 1) = some (nI (tkn s 0 (sv s 2)), M1) := q1
    unfold F_X7_passTick
    rw [lx_s, r5, q1', bp_s]
    exact ⟨M1, rfl, q2, fun k hk => by rw [q3 k hk, up_n1 (by omega)]⟩
  · obtain ⟨M1, q1, q2, q3⟩ := tk_m (sv s 2) 64 0 0 s M hk hS (by omega) (by omega)
    rw [Nat.zero_add] at q1
    exact ⟨M1, q1, q2, by rw [q3 378 (by omega), h6], fun c h1 h2 => q3 c h1, fun j hj => by rw [q3 378 (by omega)]⟩
