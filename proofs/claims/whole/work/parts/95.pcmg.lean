/-! counts of bits -/
def fz : fw_M := fun _ _ => 0
theorem bi_m {M M1 : fw_M} {a : Int32} : ∀ (n : Nat) (x y : Int32), F_X9_bits_4 M a n x y = F_X9_bits_4 M1 a n x y := by
  intro n
  induction n with
  | zero => intro x y; rfl
  | succ n ih =>
    intro x y
    rw [F_X9_bits_4, F_X9_bits_4, ih]
theorem bi_all : ∀ m, m < 1024 → F_X9_bits fz (nI m) = F_J6_bitCount_0f7a4 fz (nI m) := by decide +kernel
theorem bi_some : ∀ m, m < 1024 → (F_J6_bitCount_0f7a4 fz (nI m)).isSome = true := by decide +kernel
def bcn (m : Nat) : Int32 := (F_J6_bitCount_0f7a4 fz (nI m)).getD 0
theorem bc_c {M : fw_M} {m : Nat} (h : m < 1024) : F_J6_bitCount_0f7a4 M (nI m) = some (bcn m) := by
  have h1 : F_J6_bitCount_0f7a4 M (nI m) = F_J6_bitCount_0f7a4 fz (nI m) := rfl
  have h2 := bi_some m h
  rw [h1]
  unfold bcn
  cases h3 : F_J6_bitCount_0f7a4 fz (nI m) with
  | none => rw [h3] at h2; cases h2
  | some x => rfl
theorem bc_m {M : fw_M} {m : Nat} (h : m < 1024) : F_X9_bits M (nI m) = some (bcn m) := by
  have h1 : F_X9_bits M (nI m) = F_X9_bits fz (nI m) := bi_m 64 0 0
  rw [h1, bi_all m h]
  exact bc_c h
/-! 9: whisper -/
def wk (s : Nat → Int32) (T : Int32) : Nat → Nat → Nat → Nat
  | 0, _, m => m
  | r + 1, x, m => wk s T r (x + 1) (if s (69 + 6 * x + 1) = T then m ||| 2 ^ x else m)
theorem wk_lt {s : Nat → Int32} {T : Int32} : ∀ (r x m : Nat), x + r ≤ 8 → m < 256 → wk s T r x m < 256 := by
  intro r
  induction r with
  | zero => intro x m _ h; exact h
  | succ r ih =>
    intro x m h1 h2
    rw [wk]
    refine ih _ _ (by omega) ?_
    split
    · exact Nat.or_lt_two_pow (n := 8) h2 (show 2 ^ x < 2 ^ 8 from Nat.pow_lt_pow_right (by decide) (by omega))
    · exact h2
theorem wk_up {s : Nat → Int32} {T : Int32} {i : Nat} : ∀ (r x m : Nat), m.testBit i = true → (wk s T r x m).testBit i = true := by
  intro r
  induction r with
  | zero => intro x m h; exact h
  | succ r ih =>
    intro x m h
    rw [wk]
    refine ih _ _ ?_
    split
    · exact bit_or.mpr (Or.inl h)
    · exact h
theorem wk_in {s : Nat → Int32} {T : Int32} {i : Nat} (hi : s (69 + 6 * i + 1) = T) : ∀ (r x m : Nat), x ≤ i → i < x + r → (wk s T r x m).testBit i = true := by
  intro r
  induction r with
  | zero => intro x m h1 h2; omega
  | succ r ih =>
    intro x m h1 h2
    rw [wk]
    by_cases e : x = i
    · subst e
      rw [if_pos hi]
      exact wk_up r _ _ (bit_or.mpr (Or.inr rfl))
    · exact ih _ _ (by omega) (by omega)
theorem wh_c {M0 : fw_M} {s : Nat → Int32} (hk : ok s) {q : Nat} (hq : q < 6) {T a2 : Int32} : ∀ (r n x m : Nat) (M : fw_M), x + r = sv s 3 → r < n → M 15 0 = nI (sv s 3) → (∀ i, i < 8 → M 17 i = s (69 + 6 * i + 1)) → M 24 q = nI m → m < 256 → ∃ M1, F_X7_spread_23 0 (nI q) a2 n T (nI x) M = some (bcn (wk s T r x m), M1) ∧ (∀ c, c ≠ 24 → M1 c = M c) ∧ (∀ j, j ≠ q → M1 24 j = M 24 j) ∧ M1 24 q = nI (wk s T r x m) := by
  have b3 := hk.1.2.2.2.1.2
  intro r
  induction r with
  | zero =>
    intro n x m M h1 h2 h3 h4 h5 h6
    obtain ⟨n, rfl⟩ : ∃ x, n = x + 1 := ⟨n - 1, by omega⟩
    have e1 : fw_ri M (22 + 2) (nI q) = nI m := by rw [fw_ri, nI_clamp (by omega)]; exact h5
    have h3' : M (0 + 15) 0 = nI (sv s 3) := h3
    rw [F_X7_spread_23, h3', if_pos (nI_le (by omega) (by omega))]
    unfold F_X2_countKnowers
    simp only [Nat.zero_add]
    rw [if_pos (nI_in (by omega) (by omega)), e1, bc_c (by omega), bx_s, bx_s]
    exact ⟨M, rfl, fun _ _ => rfl, fun _ _ => rfl, h5⟩
  | succ r ih =>
    intro n x m M h1 h2 h3 h4 h5 h6
    obtain ⟨n, rfl⟩ : ∃ x, n = x + 1 := ⟨n - 1, by omega⟩
    have h3' : M (0 + 15) 0 = nI (sv s 3) := h3
    have e2 : fw_ri M (0 + 15 + 2) (nI x) = s (69 + 6 * x + 1) := by rw [fw_ri, nI_clamp (by omega)]; exact h4 x (by omega)
    rw [F_X7_spread_23, h3', if_neg (nI_ge (by omega) (by omega)), if_pos (nI_in (by omega) (by omega)), e2, nI_1, wk]
    by_cases h7 : s (69 + 6 * x + 1) = T
    · have e1 : fw_ri M (22 + 2) (nI q) = nI m := by rw [fw_ri, nI_clamp (by omega)]; exact h5
      have f1 : nI m ||| (1 <<< (nI x &&& 31) : Int32) = nI (m ||| 2 ^ x) := sh_or (by omega)
      have hlt : m ||| 2 ^ x < 256 := Nat.or_lt_two_pow (n := 8) h6 (show 2 ^ x < 2 ^ 8 from Nat.pow_lt_pow_right (by decide) (by omega))
      rw [if_neg (show ¬ ¬ s (69 + 6 * x + 1) = T from fun y => y h7), if_pos h7]
      unfold F_X2_tell
      simp only [Nat.zero_add]
      rw [if_pos (nI_in (by omega) (by omega)), e1, f1, lx_s, bx_s, fw_wi, nI_clamp (by omega)]
      obtain ⟨M1, q1, q2, q3, q4⟩ := ih n (x + 1) (m ||| 2 ^ x) (fw_up M (22 + 2) q (nI (m ||| 2 ^ x))) (by omega) (by omega) (by rw [up_n1 (by omega)]; exact h3) (fun i hi => by rw [up_n1 (by omega)]; exact h4 i hi) (up_e rfl rfl) hlt
      exact ⟨M1, q1, fun c hc => by rw [q2 c hc, up_n1 (by omega)], fun j hj => by rw [q3 j hj, up_n2 hj], q4⟩
    · rw [if_pos (show ¬ s (69 + 6 * x + 1) = T from h7), if_neg h7]
      exact ih n (x + 1) m M (by omega) (by omega) h3 h4 h5 h6
theorem wh_m {M : fw_M} {s : Nat → Int32} (hk : ok s) (hS : Sm M s) {q : Nat} (hq : q < 6) {T a2 : Int32} : ∀ (r n x m : Nat), x + r = sv s 3 → r < n → m < 256 → F_X9_doWhisper_83 (nI q) a2 n T (nI m) (nI x) M = some (bcn (wk s T r x m), fw_up (fw_up M 379 (117 + 2 * q) a2) 379 (117 + 2 * q + 1) (nI (wk s T r x m))) := by
  obtain ⟨c3, b3⟩ := hk.1.2.2.2.1
  have hS : ∀ j, j < 129 → M 379 j = s j := hS
  have g3 : fw_ri M 379 3 = nI (sv s 3) := (hS 3 (by omega)).trans c3
  intro r
  induction r with
  | zero =>
    intro n x m h1 h2 h3
    obtain ⟨n, rfl⟩ : ∃ x, n = x + 1 := ⟨n - 1, by omega⟩
    rw [F_X9_doWhisper_83, if_pos (show ix_i 3 129 by decide), g3, if_pos (nI_le (by omega) (by omega))]
    simp (disch := omega) only [ix_i, ↓pn_m, pn_l0, pn_l1, pn_l2, pn_l3, pn_l4, pn_l5, pn_l6, pn_l7, pn_l8, pn_l9, pn_l10, pn_l11, pn_l12, pn_l16, pn_l18, pn_l20, pn_l31, pn_l32, pn_l40, pn_l45, pn_l48, pn_l51, pn_l57, pn_l59, pn_l60, pn_l62, pn_l64, pn_l69, pn_l97, pn_l98, pn_l99, pn_l100, pn_l101, pn_l105, pn_l107, pn_l108, pn_l114, pn_l115, pn_l116, pn_l117, pn_l119, pn_l126, pn_l129, pn_l240, pn_l903, pn_l1032, nI_add, pk_mul, pk_sub, nI_clamp, nI_leI, nI_ltI, nI_eq, pm_1, pm_2, pm_3, pm_4, pm_5, pm_6, pm_7, pm_8, pn_lt, pn_nlt, pn_le, pn_nle, pn_ne, pn_eq, not_true_eq_false, not_false_eq_true, true_and, and_true, false_and, and_false, true_or, or_true, false_or, or_false, or_self, and_self, ne_eq, reduceIte, if_true, if_false, Nat.add_zero, Nat.zero_add, Nat.mul_zero, Nat.reduceAdd, Nat.reduceMul, lx_s, fw_wi]
    rw [bc_m (by omega), bx_s, wk]
  | succ r ih =>
    intro n x m h1 h2 h3
    obtain ⟨n, rfl⟩ : ∃ x, n = x + 1 := ⟨n - 1, by omega⟩
    have g1 : F_X9_ofPassenger M (nI x) 1 = some (s (69 + 6 * x + 1)) := by
      unfold F_X9_ofPassenger
      simp (disch := omega) only [ix_i, ↓pn_m, pn_l0, pn_l1, pn_l2, pn_l3, pn_l4, pn_l5, pn_l6, pn_l7, pn_l8, pn_l9, pn_l10, pn_l11, pn_l12, pn_l16, pn_l18, pn_l20, pn_l31, pn_l32, pn_l40, pn_l45, pn_l48, pn_l51, pn_l57, pn_l59, pn_l60, pn_l62, pn_l64, pn_l69, pn_l97, pn_l98, pn_l99, pn_l100, pn_l101, pn_l105, pn_l107, pn_l108, pn_l114, pn_l115, pn_l116, pn_l117, pn_l119, pn_l126, pn_l129, pn_l240, pn_l903, pn_l1032, nI_add, pk_mul, pk_sub, nI_clamp, nI_leI, nI_ltI, nI_eq, pm_1, pm_2, pm_3, pm_4, pm_5, pm_6, pm_7, pm_8, pn_lt, pn_nlt, pn_le, pn_nle, pn_ne, pn_eq, not_true_eq_false, not_false_eq_true, true_and, and_true, false_and, and_false, true_or, or_true, false_or, or_false, or_self, and_self, ne_eq, reduceIte, if_true, if_false, Nat.add_zero, Nat.zero_add, Nat.mul_zero, Nat.reduceAdd, Nat.reduceMul, fw_wi, fw_ri, up_e, up_n1, up_n2, cp_n, bx_s, bp_s, bt_l, bt_r, lx_s, hS]
    rw [F_X9_doWhisper_83, if_pos (show ix_i 3 129 by decide), g3, if_neg (nI_ge (by omega) (by omega)), g1, bx_s, nI_1, or_0, wk]
    by_cases h7 : s (69 + 6 * x + 1) = T
    · have f1 : nI m ||| (1 <<< (nI x &&& 31) : Int32) = nI (m ||| 2 ^ x) := sh_or (by omega)
      have hlt : m ||| 2 ^ x < 256 := Nat.or_lt_two_pow (n := 8) h3 (show 2 ^ x < 2 ^ 8 from Nat.pow_lt_pow_right (by decide) (by omega))
      rw [if_neg (show ¬ ¬ s (69 + 6 * x + 1) = T from fun y => y h7), if_pos h7, f1]
      exact ih n (x + 1) _ (by omega) (by omega) hlt
    · rw [if_pos (show ¬ s (69 + 6 * x + 1) = T from h7), if_neg h7]
      exact ih n (x + 1) m (by omega) (by omega) h3
theorem c_whis {s : Nat → Int32} (hk : ok s) (a b : Int32) : CmdE [0, 2, 4] s (fun M => F_X7_faultOfWhisper M 0 a b) (fun M => F_X7_spread M 0 a b) (fun M => F_X9_doWhisper M a b) := by
  have hk0 := hk
  obtain ⟨⟨⟨c0, b0⟩, ⟨c1, b1⟩, ⟨c2, b2⟩, ⟨c3, b3⟩, c4, b4⟩, oz, ol, os, od, ot, op, oq⟩ := hk
  rcases px_o a (n := sv s 4) (by omega) with ⟨q, hq, rfl⟩ | ho
  · have hc : ∀ M, R M 0 s → F_X2_hasSecret M 22 (nI q) = some (nI 1) := fun M hR => by
      obtain ⟨⟨r0, r1, r2, r3, r4, r5⟩, rz, rl, rs, rt, ru, rp, rq⟩ := R0 hR
      exact ht_Secret hq (by omega) (r4.trans c4)
    have hm : ∀ M, Sm M s → F_X9_isSecret M (nI q) = some (nI 1) := fun M hS => it_Secret hq (by omega) ((hS 4 (by omega)).trans c4)
    rcases px_o b (n := sv s 3) (by omega) with ⟨p, hp, rfl⟩ | ho
    · have hc2 : ∀ M, R M 0 s → F_X6_hasPassenger M 15 (nI p) = some (nI 1) := fun M hR => by
        obtain ⟨⟨r0, r1, r2, r3, r4, r5⟩, rz, rl, rs, rt, ru, rp, rq⟩ := R0 hR
        exact ht_Passenger hp (by omega) (r3.trans c3)
      have hm2 : ∀ M, Sm M s → F_X9_isPassenger M (nI p) = some (nI 1) := fun M hS => it_Passenger hp (by omega) ((hS 3 (by omega)).trans c3)
      obtain ⟨⟨k1, k1b⟩, k2⟩ := oq q hq
      rcases k2 with k2 | ⟨k2, k3, k4⟩
      · refine CmdE.bad 3 2 (by omega) (by omega) (by decide) (fun M hR => ?_) (fun M hS h6 => ?_)
        · have hc := hc M hR
          have hc2 := hc2 M hR
          obtain ⟨⟨r0, r1, r2, r3, r4, r5⟩, rz, rl, rs, rt, ru, rp, rq⟩ := R0 hR
          simp (disch := omega) only [F_X7_faultOfWhisper, F_X2_isOut, hc, hc2, ix_i, ↓pn_m, pn_l0, pn_l1, pn_l2, pn_l3, pn_l4, pn_l5, pn_l6, pn_l7, pn_l8, pn_l9, pn_l10, pn_l11, pn_l12, pn_l16, pn_l18, pn_l20, pn_l31, pn_l32, pn_l40, pn_l45, pn_l48, pn_l51, pn_l57, pn_l59, pn_l60, pn_l62, pn_l64, pn_l69, pn_l97, pn_l98, pn_l99, pn_l100, pn_l101, pn_l105, pn_l107, pn_l108, pn_l114, pn_l115, pn_l116, pn_l117, pn_l119, pn_l126, pn_l129, pn_l240, pn_l903, pn_l1032, nI_add, pk_mul, pk_sub, nI_clamp, nI_leI, nI_ltI, nI_eq, pm_1, pm_2, pm_3, pm_4, pm_5, pm_6, pm_7, pm_8, pn_lt, pn_nlt, pn_le, pn_nle, pn_ne, pn_eq, not_true_eq_false, not_false_eq_true, true_and, and_true, false_and, and_false, true_or, or_true, false_or, or_false, or_self, and_self, ne_eq, reduceIte, if_true, if_false, Nat.add_zero, Nat.zero_add, Nat.mul_zero, Nat.reduceAdd, Nat.reduceMul, fw_wi, fw_ri, up_e, up_n1, up_n2, cp_n, bx_s, bp_s, bt_l, bt_r, lx_s, rq, k2]
        · have hm := hm M hS
          have hm2 := hm2 M hS
          have hS : ∀ j, j < 129 → M 379 j = s j := hS
          simp (disch := omega) only [F_X9_doWhisper, F_X9_carrier, F_X9_fails, hm, hm2, ix_i, ↓pn_m, pn_l0, pn_l1, pn_l2, pn_l3, pn_l4, pn_l5, pn_l6, pn_l7, pn_l8, pn_l9, pn_l10, pn_l11, pn_l12, pn_l16, pn_l18, pn_l20, pn_l31, pn_l32, pn_l40, pn_l45, pn_l48, pn_l51, pn_l57, pn_l59, pn_l60, pn_l62, pn_l64, pn_l69, pn_l97, pn_l98, pn_l99, pn_l100, pn_l101, pn_l105, pn_l107, pn_l108, pn_l114, pn_l115, pn_l116, pn_l117, pn_l119, pn_l126, pn_l129, pn_l240, pn_l903, pn_l1032, nI_add, pk_mul, pk_sub, nI_clamp, nI_leI, nI_ltI, nI_eq, pm_1, pm_2, pm_3, pm_4, pm_5, pm_6, pm_7, pm_8, pn_lt, pn_nlt, pn_le, pn_nle, pn_ne, pn_eq, not_true_eq_false, not_false_eq_true, true_and, and_true, false_and, and_false, true_or, or_true, false_or, or_false, or_self, and_self, ne_eq, reduceIte, if_true, if_false, Nat.add_zero, Nat.zero_add, Nat.mul_zero, Nat.reduceAdd, Nat.reduceMul, fw_wi, fw_ri, up_e, up_n1, up_n2, cp_n, bx_s, bp_s, bt_l, bt_r, lx_s, hS, k2]
          exact ⟨_, rfl, up_e rfl rfl, md_6 md_0⟩
      · obtain ⟨c, hcc⟩ : ∃ c, c = sv s (117 + 2 * q) := ⟨_, rfl⟩
        rw [← hcc] at k2 k3 k4
        obtain ⟨u1, -⟩ := op c k3
        obtain ⟨w1, -⟩ := op p hp
        by_cases hg : p ≠ c ∧ (∃ t, t < 6 ∧ s (69 + 6 * c + 1) = nI t) ∧ s (69 + 6 * p + 1) = s (69 + 6 * c + 1)
        · obtain ⟨g1, ⟨t, g2, g3⟩, g4⟩ := hg
          rw [g3] at g4
          obtain ⟨m, hm1⟩ : ∃ m, m = wk s (nI t) (sv s 3) 0 (sv s (117 + 2 * q + 1)) := ⟨_, rfl⟩
          have hm256 : m < 256 := by rw [hm1]; exact wk_lt _ _ _ (by omega) k1b
          obtain ⟨s1, hs1⟩ : ∃ s1, s1 = upd (upd s (117 + 2 * q) (nI p)) (117 + 2 * q + 1) (nI m) := ⟨_, rfl⟩
          have en : ∀ x, ¬ (117 + 2 * q ≤ x ∧ x < 117 + 2 * q + 2) → s1 x = s x := fun x h => by rw [hs1, pk_un (by omega), pk_un (by omega)]
          have ed0 : s1 (117 + 2 * q) = nI p := by rw [hs1, pk_un (by omega), pk_us]
          have ed1 : s1 (117 + 2 * q + 1) = nI m := by rw [hs1, pk_us]
          refine CmdE.good (bcn m) s1 ?_ (fun M hR => ?_) (fun M hR => ?_) (fun M hS h6 => ?_)
          · have v0 : sv s1 0 = sv s 0 := sv_cong (en 0 (by omega))
            have v1 : sv s1 1 = sv s 1 := sv_cong (en 1 (by omega))
            have v2 : sv s1 2 = sv s 2 := sv_cong (en 2 (by omega))
            have v3 : sv s1 3 = sv s 3 := sv_cong (en 3 (by omega))
            have v4 : sv s1 4 = sv s 4 := sv_cong (en 4 (by omega))
            refine ⟨?_, ?_, ?_, ?_, ?_, ?_, ?_, ?_⟩
            · exact (show okc s from ⟨⟨c0, b0⟩, ⟨c1, b1⟩, ⟨c2, b2⟩, ⟨c3, b3⟩, c4, b4⟩).c (fun x hx => en _ (by omega))
            · exact oz.c (fun x h1 h2 => en _ (by omega))
            · exact ol.c (en _ (by omega)) (fun l hl => en _ (by omega))
            · exact os.c ol (by omega) (fun x h1 h2 => en _ (by omega))
            · exact od.c ol (fun x h1 h2 => en _ (by omega))
            · exact ot.c b1 b2 (en _ (by omega)) (by omega) (fun l hl => by rw [sv_cong (en (16 + 7 * l) (by omega))]; exact Nat.le_refl _) (fun x h1 h2 => en _ (by omega))
            · exact op.c b3 (en _ (by omega)) (by omega) (by omega) (fun x h1 h2 => en _ (by omega))
            · intro x hx
              rw [v4] at hx
              by_cases e : x = q
              · subst e
                rw [sv_of ed1 (by omega), sv_of ed0 (by omega), ed0, ed1, v3]
                exact ⟨⟨rfl, hm256⟩, Or.inr ⟨rfl, hp, by rw [hm1]; exact wk_in g4 _ _ _ (by omega) (by omega)⟩⟩
              · have h1 := oq x hx
                rw [sv_cong (en (117 + 2 * x) (by omega)), sv_cong (en (117 + 2 * x + 1) (by omega)), en (117 + 2 * x) (by omega), en (117 + 2 * x + 1) (by omega), v3]
                exact h1
          · have hc := hc M hR
            have hc2 := hc2 M hR
            obtain ⟨⟨r0, r1, r2, r3, r4, r5⟩, rz, rl, rs, rt, ru, rp, rq⟩ := R0 hR
            simp (disch := omega) only [F_X7_faultOfWhisper, F_X2_isOut, hc, hc2, ix_i, ↓pn_m, pn_l0, pn_l1, pn_l2, pn_l3, pn_l4, pn_l5, pn_l6, pn_l7, pn_l8, pn_l9, pn_l10, pn_l11, pn_l12, pn_l16, pn_l18, pn_l20, pn_l31, pn_l32, pn_l40, pn_l45, pn_l48, pn_l51, pn_l57, pn_l59, pn_l60, pn_l62, pn_l64, pn_l69, pn_l97, pn_l98, pn_l99, pn_l100, pn_l101, pn_l105, pn_l107, pn_l108, pn_l114, pn_l115, pn_l116, pn_l117, pn_l119, pn_l126, pn_l129, pn_l240, pn_l903, pn_l1032, nI_add, pk_mul, pk_sub, nI_clamp, nI_leI, nI_ltI, nI_eq, pm_1, pm_2, pm_3, pm_4, pm_5, pm_6, pm_7, pm_8, pn_lt, pn_nlt, pn_le, pn_nle, pn_ne, pn_eq, not_true_eq_false, not_false_eq_true, true_and, and_true, false_and, and_false, true_or, or_true, false_or, or_false, or_self, and_self, ne_eq, reduceIte, if_true, if_false, Nat.add_zero, Nat.zero_add, Nat.mul_zero, Nat.reduceAdd, Nat.reduceMul, fw_wi, fw_ri, up_e, up_n1, up_n2, cp_n, bx_s, bp_s, bt_l, bt_r, lx_s, rq, rp, k2, g3, g4]
          · obtain ⟨⟨r0, r1, r2, r3, r4, r5⟩, rz, rl, rs, rt, ru, rp, rq⟩ := R0 hR
            obtain ⟨Q0, Q1, Q2, Q3, Q4, Q5, Q6, Q7⟩ := hR
            have z1 : fw_ri M (0 + 15 + 2) (nI p) = nI t := by
              rw [fw_ri, nI_clamp (by omega)]
              exact (rp p (by omega)).2.1.trans g4
            unfold F_X7_spread
            rw [if_pos (nI_in (by omega) (by omega)), if_pos (nI_in (by omega) (by omega)), lx_s, z1, fw_wi, nI_clamp (by omega)]
            obtain ⟨M1, a1, a2, a3, a4⟩ := wh_c (M0 := M) hk0 (q := q) (by omega) (T := nI t) (a2 := nI p) (sv s 3) 64 0 (sv s (117 + 2 * q + 1)) (fw_up M (0 + 22 + 1) q (nI p)) (by omega) (by omega) (by rw [up_n1 (by omega), r3, c3]) (fun i hi => by rw [up_n1 (by omega)]; exact (rp i hi).2.1) (by rw [up_n1 (by omega)]; exact (rq q (by omega)).2.trans k1) k1b
            rw [← hm1] at a1 a4
            have fo : ∀ x, x ≠ 23 → x ≠ 24 → M1 x = M x := fun x h1 h2 => by rw [a2 x h2, up_n1 (by omega)]
            refine ⟨M1, a1, ⟨?_, ?_, ?_, ?_, ?_, ?_, ?_, ?_⟩, fun k hk => fo k (by omega) (by omega)⟩
            · exact Q0.c ⟨by rw [fo 1 (by omega) (by omega)], by rw [fo 1 (by omega) (by omega)], by rw [fo 11 (by omega) (by omega)], by rw [fo 15 (by omega) (by omega)], by rw [fo 22 (by omega) (by omega)], by rw [fo 0 (by omega) (by omega)]⟩ (fun j hj => en _ (by omega))
            · exact Q1.c (fo _ (by omega) (by omega)) (fun x h1 h2 => en _ (by omega))
            · exact Q2.c ol (fo _ (by omega) (by omega)) (fo _ (by omega) (by omega)) (fun x h1 h2 => en _ (by omega))
            · exact Q3.c (fun l hl => fo _ (by omega) (by omega)) (fun x h1 h2 => en _ (by omega))
            · exact Q4.c (fo _ (by omega) (by omega)) (fo _ (by omega) (by omega)) (fun x h1 h2 => en _ (by omega))
            · exact Q5.c b2 (fo _ (by omega) (by omega)) (en _ (by omega)) (fun x h1 h2 => en _ (by omega))
            · exact Q6.c (fun k h1 h2 => fo _ (by omega) (by omega)) (fun x h1 h2 => en _ (by omega))
            · intro x hx
              simp only [Nat.zero_add]
              by_cases e : x = q
              · subst e
                rw [a2 23 (by omega), a4, ed0, ed1, up_e rfl rfl]
                exact ⟨rfl, rfl⟩
              · rw [a2 23 (by omega), a3 x e, up_n2 e, up_n1 (by omega), en _ (by omega), en _ (by omega)]
                exact rq x hx
          · have hm := hm M hS
            have hm2 := hm2 M hS
            have hS0 := hS
            have hS : ∀ j, j < 129 → M 379 j = s j := hS
            have w2 := wh_m hk0 hS0 (q := q) (by omega) (T := nI t) (a2 := nI p) (sv s 3) 64 0 (sv s (117 + 2 * q + 1)) (by omega) (by omega) k1b
            rw [← hm1] at w2
            simp (disch := omega) only [F_X9_doWhisper, F_X9_carrier, F_X9_knowers, F_X9_ofPassenger, F_X9_fails, hm, hm2, ix_i, ↓pn_m, pn_l0, pn_l1, pn_l2, pn_l3, pn_l4, pn_l5, pn_l6, pn_l7, pn_l8, pn_l9, pn_l10, pn_l11, pn_l12, pn_l16, pn_l18, pn_l20, pn_l31, pn_l32, pn_l40, pn_l45, pn_l48, pn_l51, pn_l57, pn_l59, pn_l60, pn_l62, pn_l64, pn_l69, pn_l97, pn_l98, pn_l99, pn_l100, pn_l101, pn_l105, pn_l107, pn_l108, pn_l114, pn_l115, pn_l116, pn_l117, pn_l119, pn_l126, pn_l129, pn_l240, pn_l903, pn_l1032, nI_add, pk_mul, pk_sub, nI_clamp, nI_leI, nI_ltI, nI_eq, pm_1, pm_2, pm_3, pm_4, pm_5, pm_6, pm_7, pm_8, pn_lt, pn_nlt, pn_le, pn_nle, pn_ne, pn_eq, not_true_eq_false, not_false_eq_true, true_and, and_true, false_and, and_false, true_or, or_true, false_or, or_false, or_self, and_self, ne_eq, reduceIte, if_true, if_false, Nat.add_zero, Nat.zero_add, Nat.mul_zero, Nat.reduceAdd, Nat.reduceMul, fw_wi, fw_ri, up_e, up_n1, up_n2, cp_n, bx_s, bp_s, bt_l, bt_r, lx_s, hS, k2, k1, g3, g4, w2]
            refine ⟨_, rfl, ?_, by simp (disch := omega) only [up_n1, h6], by repeat first | exact md_0 | refine md_9 ?_⟩
            rw [hs1]
            exact Sm_u (Sm_u hS0)
        · refine CmdE.bad 5 3 (by omega) (by omega) (by decide) (fun M hR => ?_) (fun M hS h6 => ?_)
          · have hc := hc M hR
            have hc2 := hc2 M hR
            obtain ⟨⟨r0, r1, r2, r3, r4, r5⟩, rz, rl, rs, rt, ru, rp, rq⟩ := R0 hR
            by_cases g1 : p = c
            · rcases u1 with ⟨u1, -⟩ | ⟨u1, u2⟩
              · rw [← g1] at u1 k2
                simp (disch := omega) only [F_X7_faultOfWhisper, F_X2_isOut, hc, hc2, ix_i, ↓pn_m, pn_l0, pn_l1, pn_l2, pn_l3, pn_l4, pn_l5, pn_l6, pn_l7, pn_l8, pn_l9, pn_l10, pn_l11, pn_l12, pn_l16, pn_l18, pn_l20, pn_l31, pn_l32, pn_l40, pn_l45, pn_l48, pn_l51, pn_l57, pn_l59, pn_l60, pn_l62, pn_l64, pn_l69, pn_l97, pn_l98, pn_l99, pn_l100, pn_l101, pn_l105, pn_l107, pn_l108, pn_l114, pn_l115, pn_l116, pn_l117, pn_l119, pn_l126, pn_l129, pn_l240, pn_l903, pn_l1032, nI_add, pk_mul, pk_sub, nI_clamp, nI_leI, nI_ltI, nI_eq, pm_1, pm_2, pm_3, pm_4, pm_5, pm_6, pm_7, pm_8, pn_lt, pn_nlt, pn_le, pn_nle, pn_ne, pn_eq, not_true_eq_false, not_false_eq_true, true_and, and_true, false_and, and_false, true_or, or_true, false_or, or_false, or_self, and_self, ne_eq, reduceIte, if_true, if_false, Nat.add_zero, Nat.zero_add, Nat.mul_zero, Nat.reduceAdd, Nat.reduceMul, fw_wi, fw_ri, up_e, up_n1, up_n2, cp_n, bx_s, bp_s, bt_l, bt_r, lx_s, rq, rp, k2, u1]
              · rw [← g1] at u1 u2 k2
                simp (disch := omega) only [F_X7_faultOfWhisper, F_X2_isOut, hc, hc2, ix_i, ↓pn_m, pn_l0, pn_l1, pn_l2, pn_l3, pn_l4, pn_l5, pn_l6, pn_l7, pn_l8, pn_l9, pn_l10, pn_l11, pn_l12, pn_l16, pn_l18, pn_l20, pn_l31, pn_l32, pn_l40, pn_l45, pn_l48, pn_l51, pn_l57, pn_l59, pn_l60, pn_l62, pn_l64, pn_l69, pn_l97, pn_l98, pn_l99, pn_l100, pn_l101, pn_l105, pn_l107, pn_l108, pn_l114, pn_l115, pn_l116, pn_l117, pn_l119, pn_l126, pn_l129, pn_l240, pn_l903, pn_l1032, nI_add, pk_mul, pk_sub, nI_clamp, nI_leI, nI_ltI, nI_eq, pm_1, pm_2, pm_3, pm_4, pm_5, pm_6, pm_7, pm_8, pn_lt, pn_nlt, pn_le, pn_nle, pn_ne, pn_eq, not_true_eq_false, not_false_eq_true, true_and, and_true, false_and, and_false, true_or, or_true, false_or, or_false, or_self, and_self, ne_eq, reduceIte, if_true, if_false, Nat.add_zero, Nat.zero_add, Nat.mul_zero, Nat.reduceAdd, Nat.reduceMul, fw_wi, fw_ri, up_e, up_n1, up_n2, cp_n, bx_s, bp_s, bt_l, bt_r, lx_s, rq, rp, k2, u1]
            · rcases u1 with ⟨u1, -⟩ | ⟨u1, u2⟩
              · simp (disch := omega) only [F_X7_faultOfWhisper, F_X2_isOut, hc, hc2, ix_i, ↓pn_m, pn_l0, pn_l1, pn_l2, pn_l3, pn_l4, pn_l5, pn_l6, pn_l7, pn_l8, pn_l9, pn_l10, pn_l11, pn_l12, pn_l16, pn_l18, pn_l20, pn_l31, pn_l32, pn_l40, pn_l45, pn_l48, pn_l51, pn_l57, pn_l59, pn_l60, pn_l62, pn_l64, pn_l69, pn_l97, pn_l98, pn_l99, pn_l100, pn_l101, pn_l105, pn_l107, pn_l108, pn_l114, pn_l115, pn_l116, pn_l117, pn_l119, pn_l126, pn_l129, pn_l240, pn_l903, pn_l1032, nI_add, pk_mul, pk_sub, nI_clamp, nI_leI, nI_ltI, nI_eq, pm_1, pm_2, pm_3, pm_4, pm_5, pm_6, pm_7, pm_8, pn_lt, pn_nlt, pn_le, pn_nle, pn_ne, pn_eq, not_true_eq_false, not_false_eq_true, true_and, and_true, false_and, and_false, true_or, or_true, false_or, or_false, or_self, and_self, ne_eq, reduceIte, if_true, if_false, Nat.add_zero, Nat.zero_add, Nat.mul_zero, Nat.reduceAdd, Nat.reduceMul, fw_wi, fw_ri, up_e, up_n1, up_n2, cp_n, bx_s, bp_s, bt_l, bt_r, lx_s, rq, rp, k2, u1]
              · have g4 : ¬ s (69 + 6 * p + 1) = nI (sv s (69 + 6 * c + 1)) := fun e => hg ⟨g1, ⟨_, by omega, u1⟩, e.trans u1.symm⟩
                simp (disch := omega) only [F_X7_faultOfWhisper, F_X2_isOut, hc, hc2, ix_i, ↓pn_m, pn_l0, pn_l1, pn_l2, pn_l3, pn_l4, pn_l5, pn_l6, pn_l7, pn_l8, pn_l9, pn_l10, pn_l11, pn_l12, pn_l16, pn_l18, pn_l20, pn_l31, pn_l32, pn_l40, pn_l45, pn_l48, pn_l51, pn_l57, pn_l59, pn_l60, pn_l62, pn_l64, pn_l69, pn_l97, pn_l98, pn_l99, pn_l100, pn_l101, pn_l105, pn_l107, pn_l108, pn_l114, pn_l115, pn_l116, pn_l117, pn_l119, pn_l126, pn_l129, pn_l240, pn_l903, pn_l1032, nI_add, pk_mul, pk_sub, nI_clamp, nI_leI, nI_ltI, nI_eq, pm_1, pm_2, pm_3, pm_4, pm_5, pm_6, pm_7, pm_8, pn_lt, pn_nlt, pn_le, pn_nle, pn_ne, pn_eq, not_true_eq_false, not_false_eq_true, true_and, and_true, false_and, and_false, true_or, or_true, false_or, or_false, or_self, and_self, ne_eq, reduceIte, if_true, if_false, Nat.add_zero, Nat.zero_add, Nat.mul_zero, Nat.reduceAdd, Nat.reduceMul, fw_wi, fw_ri, up_e, up_n1, up_n2, cp_n, bx_s, bp_s, bt_l, bt_r, lx_s, rq, rp, k2, u1, g4]
          · have hm := hm M hS
            have hm2 := hm2 M hS
            have hS : ∀ j, j < 129 → M 379 j = s j := hS
            by_cases g1 : p = c
            · rcases u1 with ⟨u1, -⟩ | ⟨u1, u2⟩
              · rw [← g1] at u1 k2
                simp (disch := omega) only [F_X9_doWhisper, F_X9_carrier, F_X9_ofPassenger, F_X9_fails, hm, hm2, ix_i, ↓pn_m, pn_l0, pn_l1, pn_l2, pn_l3, pn_l4, pn_l5, pn_l6, pn_l7, pn_l8, pn_l9, pn_l10, pn_l11, pn_l12, pn_l16, pn_l18, pn_l20, pn_l31, pn_l32, pn_l40, pn_l45, pn_l48, pn_l51, pn_l57, pn_l59, pn_l60, pn_l62, pn_l64, pn_l69, pn_l97, pn_l98, pn_l99, pn_l100, pn_l101, pn_l105, pn_l107, pn_l108, pn_l114, pn_l115, pn_l116, pn_l117, pn_l119, pn_l126, pn_l129, pn_l240, pn_l903, pn_l1032, nI_add, pk_mul, pk_sub, nI_clamp, nI_leI, nI_ltI, nI_eq, pm_1, pm_2, pm_3, pm_4, pm_5, pm_6, pm_7, pm_8, pn_lt, pn_nlt, pn_le, pn_nle, pn_ne, pn_eq, not_true_eq_false, not_false_eq_true, true_and, and_true, false_and, and_false, true_or, or_true, false_or, or_false, or_self, and_self, ne_eq, reduceIte, if_true, if_false, Nat.add_zero, Nat.zero_add, Nat.mul_zero, Nat.reduceAdd, Nat.reduceMul, fw_wi, fw_ri, up_e, up_n1, up_n2, cp_n, bx_s, bp_s, bt_l, bt_r, lx_s, hS, k2, u1]
                exact ⟨_, rfl, up_e rfl rfl, md_6 md_0⟩
              · rw [← g1] at u1 u2 k2
                simp (disch := omega) only [F_X9_doWhisper, F_X9_carrier, F_X9_ofPassenger, F_X9_fails, hm, hm2, ix_i, ↓pn_m, pn_l0, pn_l1, pn_l2, pn_l3, pn_l4, pn_l5, pn_l6, pn_l7, pn_l8, pn_l9, pn_l10, pn_l11, pn_l12, pn_l16, pn_l18, pn_l20, pn_l31, pn_l32, pn_l40, pn_l45, pn_l48, pn_l51, pn_l57, pn_l59, pn_l60, pn_l62, pn_l64, pn_l69, pn_l97, pn_l98, pn_l99, pn_l100, pn_l101, pn_l105, pn_l107, pn_l108, pn_l114, pn_l115, pn_l116, pn_l117, pn_l119, pn_l126, pn_l129, pn_l240, pn_l903, pn_l1032, nI_add, pk_mul, pk_sub, nI_clamp, nI_leI, nI_ltI, nI_eq, pm_1, pm_2, pm_3, pm_4, pm_5, pm_6, pm_7, pm_8, pn_lt, pn_nlt, pn_le, pn_nle, pn_ne, pn_eq, not_true_eq_false, not_false_eq_true, true_and, and_true, false_and, and_false, true_or, or_true, false_or, or_false, or_self, and_self, ne_eq, reduceIte, if_true, if_false, Nat.add_zero, Nat.zero_add, Nat.mul_zero, Nat.reduceAdd, Nat.reduceMul, fw_wi, fw_ri, up_e, up_n1, up_n2, cp_n, bx_s, bp_s, bt_l, bt_r, lx_s, hS, k2, u1]
                exact ⟨_, rfl, up_e rfl rfl, md_6 md_0⟩
            · rcases u1 with ⟨u1, -⟩ | ⟨u1, u2⟩
              · simp (disch := omega) only [F_X9_doWhisper, F_X9_carrier, F_X9_ofPassenger, F_X9_fails, hm, hm2, ix_i, ↓pn_m, pn_l0, pn_l1, pn_l2, pn_l3, pn_l4, pn_l5, pn_l6, pn_l7, pn_l8, pn_l9, pn_l10, pn_l11, pn_l12, pn_l16, pn_l18, pn_l20, pn_l31, pn_l32, pn_l40, pn_l45, pn_l48, pn_l51, pn_l57, pn_l59, pn_l60, pn_l62, pn_l64, pn_l69, pn_l97, pn_l98, pn_l99, pn_l100, pn_l101, pn_l105, pn_l107, pn_l108, pn_l114, pn_l115, pn_l116, pn_l117, pn_l119, pn_l126, pn_l129, pn_l240, pn_l903, pn_l1032, nI_add, pk_mul, pk_sub, nI_clamp, nI_leI, nI_ltI, nI_eq, pm_1, pm_2, pm_3, pm_4, pm_5, pm_6, pm_7, pm_8, pn_lt, pn_nlt, pn_le, pn_nle, pn_ne, pn_eq, not_true_eq_false, not_false_eq_true, true_and, and_true, false_and, and_false, true_or, or_true, false_or, or_false, or_self, and_self, ne_eq, reduceIte, if_true, if_false, Nat.add_zero, Nat.zero_add, Nat.mul_zero, Nat.reduceAdd, Nat.reduceMul, fw_wi, fw_ri, up_e, up_n1, up_n2, cp_n, bx_s, bp_s, bt_l, bt_r, lx_s, hS, k2, u1]
                exact ⟨_, rfl, up_e rfl rfl, md_6 md_0⟩
              · have g4 : ¬ s (69 + 6 * p + 1) = nI (sv s (69 + 6 * c + 1)) := fun e => hg ⟨g1, ⟨_, by omega, u1⟩, e.trans u1.symm⟩
                simp (disch := omega) only [F_X9_doWhisper, F_X9_carrier, F_X9_ofPassenger, F_X9_fails, hm, hm2, ix_i, ↓pn_m, pn_l0, pn_l1, pn_l2, pn_l3, pn_l4, pn_l5, pn_l6, pn_l7, pn_l8, pn_l9, pn_l10, pn_l11, pn_l12, pn_l16, pn_l18, pn_l20, pn_l31, pn_l32, pn_l40, pn_l45, pn_l48, pn_l51, pn_l57, pn_l59, pn_l60, pn_l62, pn_l64, pn_l69, pn_l97, pn_l98, pn_l99, pn_l100, pn_l101, pn_l105, pn_l107, pn_l108, pn_l114, pn_l115, pn_l116, pn_l117, pn_l119, pn_l126, pn_l129, pn_l240, pn_l903, pn_l1032, nI_add, pk_mul, pk_sub, nI_clamp, nI_leI, nI_ltI, nI_eq, pm_1, pm_2, pm_3, pm_4, pm_5, pm_6, pm_7, pm_8, pn_lt, pn_nlt, pn_le, pn_nle, pn_ne, pn_eq, not_true_eq_false, not_false_eq_true, true_and, and_true, false_and, and_false, true_or, or_true, false_or, or_false, or_self, and_self, ne_eq, reduceIte, if_true, if_false, Nat.add_zero, Nat.zero_add, Nat.mul_zero, Nat.reduceAdd, Nat.reduceMul, fw_wi, fw_ri, up_e, up_n1, up_n2, cp_n, bx_s, bp_s, bt_l, bt_r, lx_s, hS, k2, u1, g4]
                exact ⟨_, rfl, up_e rfl rfl, md_6 md_0⟩
    · refine CmdE.bad 1 1 (by omega) (by omega) (by decide) (fun M hR => ?_) (fun M hS h6 => ?_)
      · have hc := hc M hR
        obtain ⟨⟨r0, r1, r2, r3, r4, r5⟩, rz, rl, rs, rt, ru, rp, rq⟩ := R0 hR
        have e1 : F_X6_hasPassenger M 15 b = some (nI 0) := hs_Passenger ho (r3.trans c3)
        simp (disch := omega) only [F_X7_faultOfWhisper, hc, e1, ix_i, ↓pn_m, pn_l0, pn_l1, pn_l2, pn_l3, pn_l4, pn_l5, pn_l6, pn_l7, pn_l8, pn_l9, pn_l10, pn_l11, pn_l12, pn_l16, pn_l18, pn_l20, pn_l31, pn_l32, pn_l40, pn_l45, pn_l48, pn_l51, pn_l57, pn_l59, pn_l60, pn_l62, pn_l64, pn_l69, pn_l97, pn_l98, pn_l99, pn_l100, pn_l101, pn_l105, pn_l107, pn_l108, pn_l114, pn_l115, pn_l116, pn_l117, pn_l119, pn_l126, pn_l129, pn_l240, pn_l903, pn_l1032, nI_add, pk_mul, pk_sub, nI_clamp, nI_leI, nI_ltI, nI_eq, pm_1, pm_2, pm_3, pm_4, pm_5, pm_6, pm_7, pm_8, pn_lt, pn_nlt, pn_le, pn_nle, pn_ne, pn_eq, not_true_eq_false, not_false_eq_true, true_and, and_true, false_and, and_false, true_or, or_true, false_or, or_false, or_self, and_self, ne_eq, reduceIte, if_true, if_false, Nat.add_zero, Nat.zero_add, Nat.mul_zero, Nat.reduceAdd, Nat.reduceMul, fw_wi, fw_ri, up_e, up_n1, up_n2, cp_n, bx_s, bp_s, bt_l, bt_r, lx_s]
      · have hm := hm M hS
        have e1 : F_X9_isPassenger M b = some (nI 0) := is_Passenger ho (by omega) ((hS 3 (by omega)).trans c3)
        simp (disch := omega) only [F_X9_doWhisper, F_X9_fails, hm, e1, ix_i, ↓pn_m, pn_l0, pn_l1, pn_l2, pn_l3, pn_l4, pn_l5, pn_l6, pn_l7, pn_l8, pn_l9, pn_l10, pn_l11, pn_l12, pn_l16, pn_l18, pn_l20, pn_l31, pn_l32, pn_l40, pn_l45, pn_l48, pn_l51, pn_l57, pn_l59, pn_l60, pn_l62, pn_l64, pn_l69, pn_l97, pn_l98, pn_l99, pn_l100, pn_l101, pn_l105, pn_l107, pn_l108, pn_l114, pn_l115, pn_l116, pn_l117, pn_l119, pn_l126, pn_l129, pn_l240, pn_l903, pn_l1032, nI_add, pk_mul, pk_sub, nI_clamp, nI_leI, nI_ltI, nI_eq, pm_1, pm_2, pm_3, pm_4, pm_5, pm_6, pm_7, pm_8, pn_lt, pn_nlt, pn_le, pn_nle, pn_ne, pn_eq, not_true_eq_false, not_false_eq_true, true_and, and_true, false_and, and_false, true_or, or_true, false_or, or_false, or_self, and_self, ne_eq, reduceIte, if_true, if_false, Nat.add_zero, Nat.zero_add, Nat.mul_zero, Nat.reduceAdd, Nat.reduceMul, fw_wi, fw_ri, up_e, up_n1, up_n2, cp_n, bx_s, bp_s, bt_l, bt_r, lx_s]
        exact ⟨_, rfl, up_e rfl rfl, md_6 md_0⟩
  · refine CmdE.bad 1 1 (by omega) (by omega) (by decide) (fun M hR => ?_) (fun M hS h6 => ?_)
    · obtain ⟨⟨r0, r1, r2, r3, r4, r5⟩, rz, rl, rs, rt, ru, rp, rq⟩ := R0 hR
      have e1 : F_X2_hasSecret M 22 a = some (nI 0) := hs_Secret ho (r4.trans c4)
      simp (disch := omega) only [F_X7_faultOfWhisper, e1, ix_i, ↓pn_m, pn_l0, pn_l1, pn_l2, pn_l3, pn_l4, pn_l5, pn_l6, pn_l7, pn_l8, pn_l9, pn_l10, pn_l11, pn_l12, pn_l16, pn_l18, pn_l20, pn_l31, pn_l32, pn_l40, pn_l45, pn_l48, pn_l51, pn_l57, pn_l59, pn_l60, pn_l62, pn_l64, pn_l69, pn_l97, pn_l98, pn_l99, pn_l100, pn_l101, pn_l105, pn_l107, pn_l108, pn_l114, pn_l115, pn_l116, pn_l117, pn_l119, pn_l126, pn_l129, pn_l240, pn_l903, pn_l1032, nI_add, pk_mul, pk_sub, nI_clamp, nI_leI, nI_ltI, nI_eq, pm_1, pm_2, pm_3, pm_4, pm_5, pm_6, pm_7, pm_8, pn_lt, pn_nlt, pn_le, pn_nle, pn_ne, pn_eq, not_true_eq_false, not_false_eq_true, true_and, and_true, false_and, and_false, true_or, or_true, false_or, or_false, or_self, and_self, ne_eq, reduceIte, if_true, if_false, Nat.add_zero, Nat.zero_add, Nat.mul_zero, Nat.reduceAdd, Nat.reduceMul, fw_wi, fw_ri, up_e, up_n1, up_n2, cp_n, bx_s, bp_s, bt_l, bt_r, lx_s]
    · have e1 : F_X9_isSecret M a = some (nI 0) := is_Secret ho (by omega) ((hS 4 (by omega)).trans c4)
      simp (disch := omega) only [F_X9_doWhisper, e1, F_X9_fails, ix_i, ↓pn_m, pn_l0, pn_l1, pn_l2, pn_l3, pn_l4, pn_l5, pn_l6, pn_l7, pn_l8, pn_l9, pn_l10, pn_l11, pn_l12, pn_l16, pn_l18, pn_l20, pn_l31, pn_l32, pn_l40, pn_l45, pn_l48, pn_l51, pn_l57, pn_l59, pn_l60, pn_l62, pn_l64, pn_l69, pn_l97, pn_l98, pn_l99, pn_l100, pn_l101, pn_l105, pn_l107, pn_l108, pn_l114, pn_l115, pn_l116, pn_l117, pn_l119, pn_l126, pn_l129, pn_l240, pn_l903, pn_l1032, nI_add, pk_mul, pk_sub, nI_clamp, nI_leI, nI_ltI, nI_eq, pm_1, pm_2, pm_3, pm_4, pm_5, pm_6, pm_7, pm_8, pn_lt, pn_nlt, pn_le, pn_nle, pn_ne, pn_eq, not_true_eq_false, not_false_eq_true, true_and, and_true, false_and, and_false, true_or, or_true, false_or, or_false, or_self, and_self, ne_eq, reduceIte, if_true, if_false, Nat.add_zero, Nat.zero_add, Nat.mul_zero, Nat.reduceAdd, Nat.reduceMul, fw_wi, fw_ri, up_e, up_n1, up_n2, cp_n, bx_s, bp_s, bt_l, bt_r, lx_s]
      exact ⟨_, rfl, up_e rfl rfl, md_6 md_0⟩
